/-! the methods as functions in Option over a memory: combinators, and the rules that walk by them -/
def zb {α : Type} (o : Option Int32) (k : Int32 → Option α) : Option α := match o with | some v => k v | none => none
def zm {α : Type} (o : Option zx_Y) (k : zx_Y → Option α) : Option α := match o with | some v => k v | none => none
def zv {α : Type} (o : Option (Int32 × zx_Y)) (k : Int32 → zx_Y → Option α) : Option α := match o with | some (v, M) => k v M | none => none
def zl {α : Type} (M : zx_Y) (k : zx_Y → Option α) : Option α := k M
def zi {α : Type} (x : Int32) (n : Nat) (k : Nat → Option α) : Option α := if zx_in x n = true then k x.toNatClampNeg else none
def zo {α : Type} (v : Int32) (k : Option α) : Option α := if v = 0 ∨ v = 1 then k else none
def zt {α : Type} (M : zx_Y) (l : Nat) (x : Int32) (k : Nat → Option α) (e : Option α) : Option α := if ¬ x < 0 ∧ x < M (1, l, 0, 0) 4 ∧ x < 10 then k x.toNatClampNeg else e
def zmax (x y : Int32) : Int32 := if x < y then y else x
def zmin (x y : Int32) : Int32 := if y < x then y else x
/-- the first n places of a cell are copied from another -/
def zx_cy (M : zx_Y) (s d : zx_H) (n : Nat) : zx_Y := fun h j => if h = d ∧ j < n then M s j else M h j
theorem zx_cl0 {x : Int32} (h : ¬ x < 0) : x = nI x.toNatClampNeg := by
  obtain ⟨j, hj, rfl⟩ := nI_of h
  rw [nI_clamp hj]
theorem zx_cl1 {x y : Int32} (h : ¬ x < 0) (h1 : x < y) : x.toNatClampNeg < y.toNatClampNeg := by
  obtain ⟨j, hj, rfl⟩ := nI_of h
  have h0 : ¬ y < 0 := fun q => by
    rw [Int32.lt_iff_toInt_lt] at h1 q
    rw [nI_toInt hj] at h1
    have e0 : (0 : Int32).toInt = 0 := by decide
    omega
  obtain ⟨k, hk, rfl⟩ := nI_of h0
  rw [nI_clamp hj, nI_clamp hk]
  exact (nI_ltI hj hk).mp h1
theorem zx_cl10 {x : Int32} (h : ¬ x < 0) (h1 : x < 10) : x.toNatClampNeg < 10 := by
  have := zx_cl1 h h1
  have e : (10 : Int32).toNatClampNeg = 10 := by decide
  rw [e] at this
  exact this
theorem zx_in_iff {x : Int32} {n : Nat} : zx_in x n = true ↔ x = nI x.toNatClampNeg ∧ x.toNatClampNeg < n := by
  unfold zx_in
  simp only [Bool.and_eq_true, decide_eq_true_eq]
  constructor
  · rintro ⟨h0, h1⟩
    exact ⟨zx_cl0 (Int32.not_lt.mpr h0), h1⟩
  · rintro ⟨h0, h1⟩
    refine ⟨?_, h1⟩
    have h2 : x.toNatClampNeg < 2 ^ 31 := by
      have : x.toInt < 2 ^ 31 := Int32.toInt_lt x
      show x.toInt.toNat < 2 ^ 31
      omega
    rw [h0]
    exact nI_pos' h2
theorem zx_ic_eq {X : zx_X} {code : List zx_I} {pc a b : Nat} {k : Int} {c : Int32} {t : List Nat} {ls : zx_L} {st : List zx_V} {μ : zx_M} {x y : Int32} (hat : zx_at code pc = some (pc, .if_icmp .eq k, a, b, c, t)) : zx_st1 X code (pc, ls, .inl y :: .inl x :: st, μ) = some (if x = y then (a, ls, st, μ) else (pc + 3, ls, st, μ)) := by
  unfold zx_st1
  dsimp only
  rw [hat]
  rfl
theorem zx_ic_ne {X : zx_X} {code : List zx_I} {pc a b : Nat} {k : Int} {c : Int32} {t : List Nat} {ls : zx_L} {st : List zx_V} {μ : zx_M} {x y : Int32} (hat : zx_at code pc = some (pc, .if_icmp .ne k, a, b, c, t)) : zx_st1 X code (pc, ls, .inl y :: .inl x :: st, μ) = some (if x = y then (pc + 3, ls, st, μ) else (a, ls, st, μ)) := by
  unfold zx_st1
  dsimp only
  rw [hat]
  rfl
theorem zx_ic_lt {X : zx_X} {code : List zx_I} {pc a b : Nat} {k : Int} {c : Int32} {t : List Nat} {ls : zx_L} {st : List zx_V} {μ : zx_M} {x y : Int32} (hat : zx_at code pc = some (pc, .if_icmp .lt k, a, b, c, t)) : zx_st1 X code (pc, ls, .inl y :: .inl x :: st, μ) = some (if x < y then (a, ls, st, μ) else (pc + 3, ls, st, μ)) := by
  unfold zx_st1
  dsimp only
  rw [hat]
  rfl
theorem zx_ic_ge {X : zx_X} {code : List zx_I} {pc a b : Nat} {k : Int} {c : Int32} {t : List Nat} {ls : zx_L} {st : List zx_V} {μ : zx_M} {x y : Int32} (hat : zx_at code pc = some (pc, .if_icmp .ge k, a, b, c, t)) : zx_st1 X code (pc, ls, .inl y :: .inl x :: st, μ) = some (if y ≤ x then (a, ls, st, μ) else (pc + 3, ls, st, μ)) := by
  unfold zx_st1
  dsimp only
  rw [hat]
  rfl
theorem zx_ic_gt {X : zx_X} {code : List zx_I} {pc a b : Nat} {k : Int} {c : Int32} {t : List Nat} {ls : zx_L} {st : List zx_V} {μ : zx_M} {x y : Int32} (hat : zx_at code pc = some (pc, .if_icmp .gt k, a, b, c, t)) : zx_st1 X code (pc, ls, .inl y :: .inl x :: st, μ) = some (if y < x then (a, ls, st, μ) else (pc + 3, ls, st, μ)) := by
  unfold zx_st1
  dsimp only
  rw [hat]
  rfl
theorem zx_ic_le {X : zx_X} {code : List zx_I} {pc a b : Nat} {k : Int} {c : Int32} {t : List Nat} {ls : zx_L} {st : List zx_V} {μ : zx_M} {x y : Int32} (hat : zx_at code pc = some (pc, .if_icmp .le k, a, b, c, t)) : zx_st1 X code (pc, ls, .inl y :: .inl x :: st, μ) = some (if x ≤ y then (a, ls, st, μ) else (pc + 3, ls, st, μ)) := by
  unfold zx_st1
  dsimp only
  rw [hat]
  rfl
theorem zx_if_eq {X : zx_X} {code : List zx_I} {pc a b : Nat} {k : Int} {c : Int32} {t : List Nat} {ls : zx_L} {st : List zx_V} {μ : zx_M} {x : Int32} (hat : zx_at code pc = some (pc, .ifCond .eq k, a, b, c, t)) : zx_st1 X code (pc, ls, .inl x :: st, μ) = some (if x = 0 then (a, ls, st, μ) else (pc + 3, ls, st, μ)) := by
  unfold zx_st1
  dsimp only
  rw [hat]
  rfl
theorem zx_if_ne {X : zx_X} {code : List zx_I} {pc a b : Nat} {k : Int} {c : Int32} {t : List Nat} {ls : zx_L} {st : List zx_V} {μ : zx_M} {x : Int32} (hat : zx_at code pc = some (pc, .ifCond .ne k, a, b, c, t)) : zx_st1 X code (pc, ls, .inl x :: st, μ) = some (if x = 0 then (pc + 3, ls, st, μ) else (a, ls, st, μ)) := by
  unfold zx_st1
  dsimp only
  rw [hat]
  rfl
theorem zx_if_lt {X : zx_X} {code : List zx_I} {pc a b : Nat} {k : Int} {c : Int32} {t : List Nat} {ls : zx_L} {st : List zx_V} {μ : zx_M} {x : Int32} (hat : zx_at code pc = some (pc, .ifCond .lt k, a, b, c, t)) : zx_st1 X code (pc, ls, .inl x :: st, μ) = some (if x < 0 then (a, ls, st, μ) else (pc + 3, ls, st, μ)) := by
  unfold zx_st1
  dsimp only
  rw [hat]
  rfl
theorem zx_if_ge {X : zx_X} {code : List zx_I} {pc a b : Nat} {k : Int} {c : Int32} {t : List Nat} {ls : zx_L} {st : List zx_V} {μ : zx_M} {x : Int32} (hat : zx_at code pc = some (pc, .ifCond .ge k, a, b, c, t)) : zx_st1 X code (pc, ls, .inl x :: st, μ) = some (if 0 ≤ x then (a, ls, st, μ) else (pc + 3, ls, st, μ)) := by
  unfold zx_st1
  dsimp only
  rw [hat]
  rfl
theorem zx_if_gt {X : zx_X} {code : List zx_I} {pc a b : Nat} {k : Int} {c : Int32} {t : List Nat} {ls : zx_L} {st : List zx_V} {μ : zx_M} {x : Int32} (hat : zx_at code pc = some (pc, .ifCond .gt k, a, b, c, t)) : zx_st1 X code (pc, ls, .inl x :: st, μ) = some (if 0 < x then (a, ls, st, μ) else (pc + 3, ls, st, μ)) := by
  unfold zx_st1
  dsimp only
  rw [hat]
  rfl
theorem zx_if_le {X : zx_X} {code : List zx_I} {pc a b : Nat} {k : Int} {c : Int32} {t : List Nat} {ls : zx_L} {st : List zx_V} {μ : zx_M} {x : Int32} (hat : zx_at code pc = some (pc, .ifCond .le k, a, b, c, t)) : zx_st1 X code (pc, ls, .inl x :: st, μ) = some (if x ≤ 0 then (a, ls, st, μ) else (pc + 3, ls, st, μ)) := by
  unfold zx_st1
  dsimp only
  rw [hat]
  rfl
def zy_ck (kf kt k : Nat) (M : zx_Y) : zx_Y := fun h j => if h = (kt, 0, 0, 0) ∧ j < k then M (kf, 0, 0, 0) j else M h j
theorem zy_ck_0 (kf kt : Nat) (M : zx_Y) : zy_ck kf kt 0 M = M := by
  funext h j
  exact if_neg fun q => absurd q.2 (Nat.not_lt_zero _)
theorem zy_ck_s {kf kt k : Nat} (M : zx_Y) (hne : kf ≠ kt) : zx_up (zy_ck kf kt k M) (kt, 0, 0, 0) k (zy_ck kf kt k M (kf, 0, 0, 0) k) = zy_ck kf kt (k + 1) M := by
  funext h j
  unfold zx_up zy_ck
  rw [if_neg (show ¬ (((kf, 0, 0, 0) : zx_H) = (kt, 0, 0, 0) ∧ k < k) from fun q => absurd q.2 (Nat.lt_irrefl _))]
  by_cases h1 : h = (kt, 0, 0, 0)
  · by_cases h2 : j = k
    · rw [if_pos ⟨h2, h1⟩, if_pos ⟨h1, by omega⟩, h2]
    · rw [if_neg (fun q => h2 q.1)]
      by_cases h3 : j < k
      · rw [if_pos ⟨h1, h3⟩, if_pos ⟨h1, by omega⟩]
      · rw [if_neg (fun q => h3 q.2), if_neg (fun q => by have := q.2; omega)]
  · rw [if_neg (fun q => h1 q.2), if_neg (fun q => h1 q.1), if_neg (fun q => h1 q.1)]
theorem zy_i640 : (640 : Int32) = nI 640 := rfl
set_option maxRecDepth 100000 in
theorem r_copy_L {X : zx_X} {d n kf kt : Nat} {M : zx_Y} (hf : zx_kd kf = (2, 0, 640)) (ht : zx_kd kt = (2, 0, 640)) (hne : kf ≠ kt) : ∀ (q k : Nat), k + q = 640 →
    zx_E X d zc_X11_copy (2, [some (.inr (some (kf, 0, 0, 0))), some (.inr (some (kt, 0, 0, 0))), some (.inl (nI k))], [], (zx_lay (zy_ck kf kt k M), n)) (none, (zx_lay (zy_ck kf kt 640 M), n))
  | 0, k, hk => by
    have e : k = 640 := by omega
    subst e
    refine zx_E.go 2 (s' := (6, [some (.inr (some (kf, 0, 0, 0))), some (.inr (some (kt, 0, 0, 0))), some (.inl (nI 640))], [.inl 640, .inl (nI 640)], (zx_lay (zy_ck kf kt 640 M), n))) rfl ?_
    refine zx_E.bt (c := (640 : Int32) ≤ nI 640) (s1 := (21, [some (.inr (some (kf, 0, 0, 0))), some (.inr (some (kt, 0, 0, 0))), some (.inl (nI 640))], [], (zx_lay (zy_ck kf kt 640 M), n))) (s2 := (9, [some (.inr (some (kf, 0, 0, 0))), some (.inr (some (kt, 0, 0, 0))), some (.inl (nI 640))], [], (zx_lay (zy_ck kf kt 640 M), n))) rfl (by decide) ?_
    exact zx_E.ret rfl
  | q + 1, k, hk => by
    have hlt : ¬ (640 : Int32) ≤ nI k := by rw [zy_i640]; exact nI_ge (by omega) (by omega)
    refine zx_E.go 2 (s' := (6, [some (.inr (some (kf, 0, 0, 0))), some (.inr (some (kt, 0, 0, 0))), some (.inl (nI k))], [.inl 640, .inl (nI k)], (zx_lay (zy_ck kf kt k M), n))) rfl ?_
    refine zx_E.bf (c := (640 : Int32) ≤ nI k) (s1 := (21, [some (.inr (some (kf, 0, 0, 0))), some (.inr (some (kt, 0, 0, 0))), some (.inl (nI k))], [], (zx_lay (zy_ck kf kt k M), n))) (s2 := (9, [some (.inr (some (kf, 0, 0, 0))), some (.inr (some (kt, 0, 0, 0))), some (.inl (nI k))], [], (zx_lay (zy_ck kf kt k M), n))) rfl hlt ?_
    refine zx_E.go 4 (s' := (13, [some (.inr (some (kf, 0, 0, 0))), some (.inr (some (kt, 0, 0, 0))), some (.inl (nI k))], [.inl (nI k), .inr (some (kf, 0, 0, 0)), .inl (nI k), .inr (some (kt, 0, 0, 0))], (zx_lay (zy_ck kf kt k M), n))) rfl ?_
    refine zx_E.iald (k := k) rfl hf rfl (by omega) ?_
    refine zx_E.iast (k := k) (h := (kt, 0, 0, 0)) rfl ht rfl (by omega) ?_
    rw [zy_ck_s M hne]
    refine zx_E.go 2 (s' := (2, [some (.inr (some (kf, 0, 0, 0))), some (.inr (some (kt, 0, 0, 0))), some (.inl (nI k + 1))], [], (zx_lay (zy_ck kf kt (k + 1) M), n))) rfl ?_
    rw [nI_1]
    exact r_copy_L hf ht hne q (k + 1) (by omega)
set_option maxRecDepth 100000 in
theorem r_copy {X : zx_X} {d n kf kt : Nat} {M : zx_Y} (hf : zx_kd kf = (2, 0, 640)) (ht : zx_kd kt = (2, 0, 640)) (hne : kf ≠ kt) : zx_run X (d + 1) 171 [.inr (some (kf, 0, 0, 0)), .inr (some (kt, 0, 0, 0))] (zx_lay M, n) (none, (zx_lay (zy_ck kf kt 640 M), n)) := by
  refine zx_run_of zc_X11_copy [some (.inr (some (kf, 0, 0, 0))), some (.inr (some (kt, 0, 0, 0))), none] rfl rfl ?_
  refine zx_E.go 2 (s' := (2, [some (.inr (some (kf, 0, 0, 0))), some (.inr (some (kt, 0, 0, 0))), some (.inl (nI 0))], [], (zx_lay M, n))) rfl ?_
  have := r_copy_L (X := X) (d := d) (n := n) (M := M) hf ht hne 640 0 rfl
  rw [zy_ck_0] at this
  exact this
section ZG
variable {X : zx_X} {d : Nat} {code : List zx_I} {s : zx_S} {r : zx_O} {α : Type}
theorem zx_E.brh {c : Prop} {i1 i2 : Decidable c} {T F o : Option α} {s1 s2 : zx_S} (h : @ite _ c i1 T F = o) (hs : zx_st1 X code s = some (@ite _ c i2 s1 s2)) (kt : c → T = o → zx_E X d code s1 r) (kf : ¬ c → F = o → zx_E X d code s2 r) : zx_E X d code s r := by
  by_cases hc : c
  · rw [if_pos hc] at hs h
    exact zx_E.one hs (kt hc h)
  · rw [if_neg hc] at hs h
    exact zx_E.one hs (kf hc h)
theorem zx_E.pickh {x k k' : Int32} {q d0 : Nat} {qs : List Nat} {ls : zx_L} {st : List zx_V} {μ : zx_M} {i1 : Decidable (x = k)} {T F o : Option α} (h : @ite _ (x = k) i1 T F = o) (hk : k + 1 = k') (kt : x = k → T = o → zx_E X d code (q, ls, st, μ) r) (kf : ¬ x = k → F = o → zx_E X d code (zx_pick x k' qs d0, ls, st, μ) r) : zx_E X d code (zx_pick x k (q :: qs) d0, ls, st, μ) r := by
  subst hk
  unfold zx_pick
  by_cases hc : x = k
  · rw [if_pos hc] at h ⊢
    exact kt hc h
  · rw [if_neg hc] at h ⊢
    exact kf hc h
theorem zx_E.ob {v : Int32} {T : Option α} {o : α} (h : zo v T = some o) (hE : (v = 0 ∨ v = 1) → T = some o → zx_E X d code s r) : zx_E X d code s r := by
  unfold zo at h
  split at h
  · rename_i hv
    exact hE hv h
  · cases h
theorem zx_E.ix {x : Int32} {n : Nat} {f : Nat → Option α} {o : α} (h : zi x n f = some o) (hE : ∀ k, x = nI k → k < n → f k = some o → zx_E X d code s r) : zx_E X d code s r := by
  unfold zi at h
  split at h
  · rename_i hv
    obtain ⟨h0, h1⟩ := zx_in_iff.mp hv
    exact hE _ h0 h1 h
  · cases h
theorem zx_E.pu {pc k a b : Nat} {c : Int32} {t : List Nat} {ls : zx_L} {st : List zx_V} {M : zx_Y} {n : Nat} {h : zx_H} {v : Int32} {f : zx_Y → Option α} {o : α} (hf : zl (zx_up M h b v) f = some o) (hat : zx_at code pc = some (pc, .putfield k, a, b, c, t)) (hk : zx_pf h.1 a b = true) (hc : c = 1 → v = 0 ∨ v = 1)
    (hE : ∀ M', f M' = some o → zx_E X d code (pc + 3, ls, st, (zx_lay M', n)) r) : zx_E X d code (pc, ls, .inl v :: .inr (some h) :: st, (zx_lay M, n)) r := zx_E.put hat hk hc (hE _ hf)
theorem zx_E.ia {pc a b k : Nat} {c x v : Int32} {t : List Nat} {ls : zx_L} {st : List zx_V} {M : zx_Y} {n len : Nat} {h : zx_H} {f : zx_Y → Option α} {o : α} (hf : zl (zx_up M h k v) f = some o) (hat : zx_at code pc = some (pc, .iastore, a, b, c, t)) (hk : zx_kd h.1 = (2, 0, len)) (hx : x = nI k) (hlt : k < len)
    (hE : ∀ M', f M' = some o → zx_E X d code (pc + 1, ls, st, (zx_lay M', n)) r) : zx_E X d code (pc, ls, .inl v :: .inl x :: .inr (some h) :: st, (zx_lay M, n)) r := zx_E.iast hat hk hx hlt (hE _ hf)
theorem zx_E.acp {pc k b N len : Nat} {c : Int32} {t : List Nat} {ls : zx_L} {st : List zx_V} {M : zx_Y} {n : Nat} {h g : zx_H} {f : zx_Y → Option α} {o : α} (hf : zl (zx_cy M h g N) f = some o) (hat : zx_at code pc = some (pc, .invokestatic k, 901, b, c, t)) (hk : zx_kd h.1 = (2, 0, len)) (hg : zx_kd g.1 = (2, 0, len)) (hN : N ≤ len) (hz : st.length ≤ 8)
    (hE : ∀ M', f M' = some o → zx_E X d code (pc + 3, ls, st, (zx_lay M', n)) r) : zx_E X d code (pc, ls, .inl (nI N) :: .inl 0 :: .inr (some g) :: .inl 0 :: .inr (some h) :: st, (zx_lay M, n)) r := by
  have hl := zx_len_lt h.1
  rw [hk] at hl
  have hl : len ≤ 640 := hl
  have e1 : (nI N).toNatClampNeg = N := nI_clamp (by omega)
  have e0 : (0 : Int32).toNatClampNeg = 0 := by decide
  have e2 : zx_cp (zx_lay M) h g 0 0 N = zx_lay (zx_cy M h g N) := by
    funext h' j
    unfold zx_cp zx_cy
    by_cases q : h' = g ∧ j < N
    · rw [if_pos ⟨q.1, Nat.zero_le _, by omega⟩]
      obtain ⟨rfl, q1⟩ := q
      rw [zx_lay_none (zx_ir_lr (zx_ir20 (by rw [hk]) (by rw [hk]) _)), zx_lay_none (zx_ir_lr (zx_ir20 (by rw [hg]) (by rw [hg]) _)), if_pos ⟨rfl, q1⟩]
      simp
    · rw [if_neg (fun z => q ⟨z.1, by omega⟩)]
      unfold zx_lay
      dsimp only
      rw [if_neg q]
  refine zx_E.one (s' := (pc + 3, ls, st, (zx_lay (zx_cy M h g N), n))) ?_ (hE _ hf)
  unfold zx_st1
  dsimp only
  rw [hat]
  dsimp only
  unfold zx_do
  dsimp only
  rw [if_pos ⟨⟨rfl, hz, nI_pos' (by omega), by decide, by decide⟩, ⟨by rw [hk], by rw [hk], by rw [hk, e1, e0]; dsimp only; omega⟩, ⟨by rw [hg], by rw [hg], by rw [hg, e1, e0]; dsimp only; omega⟩⟩, e1, e0, e2]
section
variable {pc y n : Nat} {ls : zx_L} {st as rest : List zx_V} {M : zx_Y}
theorem zx_E.cb {o : Option Int32} {f : Int32 → Option α} {w : α} (h : zb o f = some w) (hi : zx_iv1 code (pc, ls, st, (zx_lay M, n)) = some (y, as, rest)) (hr : ∀ v, o = some v → zx_run X d y as (zx_lay M, n) (some (.inl v), (zx_lay M, n))) (hE : ∀ v, f v = some w → zx_E X d code (pc + 3, ls, .inl v :: rest, (zx_lay M, n)) r) : zx_E X d code (pc, ls, st, (zx_lay M, n)) r := by
  unfold zb at h
  split at h
  · exact zx_E.call1 hi (hr _ rfl) (hE _ h)
  · cases h
theorem zx_E.cv {o : Option (Int32 × zx_Y)} {f : Int32 → zx_Y → Option α} {w : α} (h : zv o f = some w) (hi : zx_iv1 code (pc, ls, st, (zx_lay M, n)) = some (y, as, rest)) (hr : ∀ v M', o = some (v, M') → zx_run X d y as (zx_lay M, n) (some (.inl v), (zx_lay M', n))) (hE : ∀ v M', f v M' = some w → zx_E X d code (pc + 3, ls, .inl v :: rest, (zx_lay M', n)) r) : zx_E X d code (pc, ls, st, (zx_lay M, n)) r := by
  unfold zv at h
  split at h
  · exact zx_E.call1 hi (hr _ _ rfl) (hE _ _ h)
  · cases h
theorem zx_E.cm {o : Option zx_Y} {f : zx_Y → Option α} {w : α} (h : zm o f = some w) (hi : zx_iv1 code (pc, ls, st, (zx_lay M, n)) = some (y, as, rest)) (hr : ∀ M', o = some M' → zx_run X d y as (zx_lay M, n) (none, (zx_lay M', n))) (hE : ∀ M', f M' = some w → zx_E X d code (pc + 3, ls, rest, (zx_lay M', n)) r) : zx_E X d code (pc, ls, st, (zx_lay M, n)) r := by
  unfold zm at h
  split at h
  · exact zx_E.call0 hi (hr _ rfl) (hE _ h)
  · cases h
theorem zx_E.cl {f : zx_Y → Option α} {w : α} {M2 : zx_Y} (h : zl M2 f = some w) (hi : zx_iv1 code (pc, ls, st, (zx_lay M, n)) = some (y, as, rest)) (hr : zx_run X d y as (zx_lay M, n) (none, (zx_lay M2, n))) (hE : ∀ M', f M' = some w → zx_E X d code (pc + 3, ls, rest, (zx_lay M', n)) r) : zx_E X d code (pc, ls, st, (zx_lay M, n)) r :=
  zx_E.call0 hi hr (hE _ h)
theorem zx_E.tw {l : Nat} {x : Int32} {f : Nat → Option α} {e : Option α} {w : α} (h : zt M l x f e = some w) (hi : zx_iv1 code (pc, ls, st, (zx_lay M, n)) = some (y, as, rest)) (h1 : (¬ x < 0 ∧ x < M (1, l, 0, 0) 4 ∧ x < 10) → zx_run X d y as (zx_lay M, n) (some (.inr (some (7, l, x.toNatClampNeg, 0))), (zx_lay M, n)))
    (h0 : ¬ (¬ x < 0 ∧ x < M (1, l, 0, 0) 4 ∧ x < 10) → zx_run X d y as (zx_lay M, n) (some (.inr none), (zx_lay M, n)))
    (hE : ∀ k, k < 10 → f k = some w → zx_E X d code (pc + 3, ls, .inr (some (7, l, k, 0)) :: rest, (zx_lay M, n)) r) (hN : e = some w → zx_E X d code (pc + 3, ls, .inr none :: rest, (zx_lay M, n)) r) : zx_E X d code (pc, ls, st, (zx_lay M, n)) r := by
  unfold zt at h
  split at h
  · rename_i hq
    refine zx_E.call1 hi (h1 hq) (hE _ ?_ h)
    exact zx_cl10 hq.1 hq.2.2
  · rename_i hq
    exact zx_E.call1 hi (h0 hq) (hN h)
theorem zx_E.ri {a b : Nat} {c : Int32} {t : List Nat} {v rv : Int32} {rM : zx_Y} (h : some (v, M) = some (rv, rM)) (hat : zx_at code pc = some (pc, .ireturn, a, b, c, t)) (hv : c = 1 → v = 0 ∨ v = 1) : zx_E X d code (pc, ls, [.inl v], (zx_lay M, n)) (some (.inl rv), (zx_lay rM, n)) := by
  cases h
  exact zx_E.iret hat hv rfl
theorem zx_E.rp {a b : Nat} {c : Int32} {t : List Nat} {v rv : Int32} (h : some v = some rv) (hat : zx_at code pc = some (pc, .ireturn, a, b, c, t)) (hv : c = 1 → v = 0 ∨ v = 1) : zx_E X d code (pc, ls, [.inl v], (zx_lay M, n)) (some (.inl rv), (zx_lay M, n)) := by
  cases h
  exact zx_E.iret hat hv rfl
theorem zx_E.r0 {rM : zx_Y} (h : some M = some rM) (hat : zx_rt1 code (pc, ls, [], (zx_lay M, n)) = some (none, (zx_lay M, n))) : zx_E X d code (pc, ls, [], (zx_lay M, n)) (none, (zx_lay rM, n)) := by
  cases h
  exact zx_E.ret hat
end
end ZG
set_option maxRecDepth 100000 in
theorem r_X2_trainWith_1 {X : zx_X} {d n : Nat} {M : zx_Y} {l : Nat} {x : Int32} (hq : ¬ x < 0 ∧ x < M (1, l, 0, 0) 4 ∧ x < 10) : zx_run X (d + 1) 18 [.inr (some (1, l, 0, 0)), .inl x] (zx_lay M, n) (some (.inr (some (7, l, x.toNatClampNeg, 0))), (zx_lay M, n)) := by
  refine zx_run_of zc_X2_trainWith [some (.inr (some (1, l, 0, 0))), some (.inl x)] rfl rfl ?_
  refine zx_E.go 1 (s' := (1, [some (.inr (some (1, l, 0, 0))), some (.inl x)], [.inl x], (zx_lay M, n))) rfl ?_
  refine zx_E.bf (c := x < 0) (s1 := (27, [some (.inr (some (1, l, 0, 0))), some (.inl x)], [], (zx_lay M, n))) (s2 := (4, [some (.inr (some (1, l, 0, 0))), some (.inl x)], [], (zx_lay M, n))) (zx_if_lt rfl) hq.1 ?_
  refine zx_E.go 3 (s' := (9, [some (.inr (some (1, l, 0, 0))), some (.inl x)], [.inl (M (1, l, 0, 0) 4), .inl x], (zx_lay M, n))) rfl ?_
  refine zx_E.bf (c := (M (1, l, 0, 0) 4) ≤ x) (s1 := (27, [some (.inr (some (1, l, 0, 0))), some (.inl x)], [], (zx_lay M, n))) (s2 := (12, [some (.inr (some (1, l, 0, 0))), some (.inl x)], [], (zx_lay M, n))) (zx_ic_ge rfl) (Int32.not_le.mpr hq.2.1) ?_
  refine zx_E.go 2 (s' := (15, [some (.inr (some (1, l, 0, 0))), some (.inl x)], [.inl 10, .inl x], (zx_lay M, n))) rfl ?_
  refine zx_E.bf (c := (10 : Int32) ≤ x) (s1 := (27, [some (.inr (some (1, l, 0, 0))), some (.inl x)], [], (zx_lay M, n))) (s2 := (18, [some (.inr (some (1, l, 0, 0))), some (.inl x)], [], (zx_lay M, n))) (zx_ic_ge rfl) (Int32.not_le.mpr hq.2.2) ?_
  refine zx_E.go 3 (s' := (23, [some (.inr (some (1, l, 0, 0))), some (.inl x)], [.inl x, .inr (some (6, l, 0, 0))], (zx_lay M, n))) rfl ?_
  have hlt : x.toNatClampNeg < 10 := zx_cl10 hq.1 hq.2.2
  refine zx_E.aald (k := x.toNatClampNeg) (h := (6, l, 0, 0)) (h' := (7, l, x.toNatClampNeg, 0)) rfl rfl (zx_cl0 hq.1) hlt rfl ?_
  refine zx_E.go 1 (s' := (28, [some (.inr (some (1, l, 0, 0))), some (.inl x)], [.inr (some (7, l, x.toNatClampNeg, 0))], (zx_lay M, n))) rfl ?_
  exact zx_E.ret rfl
set_option maxRecDepth 100000 in
theorem r_X2_trainWith_0 {X : zx_X} {d n : Nat} {M : zx_Y} {l : Nat} {x : Int32} (hq : ¬ (¬ x < 0 ∧ x < M (1, l, 0, 0) 4 ∧ x < 10)) : zx_run X (d + 1) 18 [.inr (some (1, l, 0, 0)), .inl x] (zx_lay M, n) (some (.inr none), (zx_lay M, n)) := by
  refine zx_run_of zc_X2_trainWith [some (.inr (some (1, l, 0, 0))), some (.inl x)] rfl rfl ?_
  refine zx_E.go 1 (s' := (1, [some (.inr (some (1, l, 0, 0))), some (.inl x)], [.inl x], (zx_lay M, n))) rfl ?_
  by_cases h0 : x < 0
  · refine zx_E.bt (c := x < 0) (s1 := (27, [some (.inr (some (1, l, 0, 0))), some (.inl x)], [], (zx_lay M, n))) (s2 := (4, [some (.inr (some (1, l, 0, 0))), some (.inl x)], [], (zx_lay M, n))) (zx_if_lt rfl) h0 ?_
    refine zx_E.go 1 (s' := (28, [some (.inr (some (1, l, 0, 0))), some (.inl x)], [.inr none], (zx_lay M, n))) rfl ?_
    exact zx_E.ret rfl
  · refine zx_E.bf (c := x < 0) (s1 := (27, [some (.inr (some (1, l, 0, 0))), some (.inl x)], [], (zx_lay M, n))) (s2 := (4, [some (.inr (some (1, l, 0, 0))), some (.inl x)], [], (zx_lay M, n))) (zx_if_lt rfl) h0 ?_
    refine zx_E.go 3 (s' := (9, [some (.inr (some (1, l, 0, 0))), some (.inl x)], [.inl (M (1, l, 0, 0) 4), .inl x], (zx_lay M, n))) rfl ?_
    by_cases h1 : (M (1, l, 0, 0) 4) ≤ x
    · refine zx_E.bt (c := (M (1, l, 0, 0) 4) ≤ x) (s1 := (27, [some (.inr (some (1, l, 0, 0))), some (.inl x)], [], (zx_lay M, n))) (s2 := (12, [some (.inr (some (1, l, 0, 0))), some (.inl x)], [], (zx_lay M, n))) (zx_ic_ge rfl) h1 ?_
      refine zx_E.go 1 (s' := (28, [some (.inr (some (1, l, 0, 0))), some (.inl x)], [.inr none], (zx_lay M, n))) rfl ?_
      exact zx_E.ret rfl
    · refine zx_E.bf (c := (M (1, l, 0, 0) 4) ≤ x) (s1 := (27, [some (.inr (some (1, l, 0, 0))), some (.inl x)], [], (zx_lay M, n))) (s2 := (12, [some (.inr (some (1, l, 0, 0))), some (.inl x)], [], (zx_lay M, n))) (zx_ic_ge rfl) h1 ?_
      refine zx_E.go 2 (s' := (15, [some (.inr (some (1, l, 0, 0))), some (.inl x)], [.inl 10, .inl x], (zx_lay M, n))) rfl ?_
      refine zx_E.bt (c := (10 : Int32) ≤ x) (s1 := (27, [some (.inr (some (1, l, 0, 0))), some (.inl x)], [], (zx_lay M, n))) (s2 := (18, [some (.inr (some (1, l, 0, 0))), some (.inl x)], [], (zx_lay M, n))) (zx_ic_ge rfl) (Int32.not_lt.mp fun h2 => hq ⟨h0, Int32.not_le.mp h1, h2⟩) ?_
      refine zx_E.go 1 (s' := (28, [some (.inr (some (1, l, 0, 0))), some (.inl x)], [.inr none], (zx_lay M, n))) rfl ?_
      exact zx_E.ret rfl
/-! regions of cells, and the rules for what a method leaves as it was -/
def zc (h : zx_H) (j : Nat) : Nat := match h.1 with
  | 1 => bif Nat.beq j 11 then 200 + h.2.1 else 100 + h.2.1
  | 3 => 100 + h.2.1 | 5 => 100 + h.2.1 | 7 => 100 + h.2.1 | 9 => 100 + h.2.1 | 10 => 200 + h.2.1 | 11 => 100 + h.2.1 | 13 => 100 + h.2.1
  | 14 => 1 | 15 => 1 | 17 => 1 | 18 => 1 | 19 => 2 | 20 => 2 | 21 => 3 | 22 => 4 | 24 => 4 | 0 => 5
  | 26 => 10 | 27 => 11 | 28 => 12 | 29 => 13 | 30 => 14 | 31 => 15 | 32 => 16 | 25 => 20 + j | _ => 0
section ZF
variable {α : Type} {M0 M : zx_Y} {c : zx_H} {j : Nat}
theorem fr_br {p : Prop} {i : Decidable p} {T F o : Option α} (h : @ite _ p i T F = o) : T = o ∨ F = o := by
  by_cases q : p
  · rw [if_pos q] at h
    exact Or.inl h
  · rw [if_neg q] at h
    exact Or.inr h
theorem fr_ix {x : Int32} {n : Nat} {f : Nat → Option α} {o : α} (h : zi x n f = some o) : ∃ k, f k = some o := by
  unfold zi at h
  split at h
  · exact ⟨_, h⟩
  · cases h
theorem fr_ob {v : Int32} {T : Option α} {o : α} (h : zo v T = some o) : T = some o := by
  unfold zo at h
  split at h
  · exact h
  · cases h
theorem fr_pu {H : zx_H} {b : Nat} {v : Int32} {f : zx_Y → Option α} {o : Option α} (h : zl (zx_up M H b v) f = o) (hf : M c j = M0 c j) (q : zc c j ≠ zc H b) : ∃ M', M' c j = M0 c j ∧ f M' = o := by
  refine ⟨_, ?_, h⟩
  unfold zx_up
  rw [if_neg fun e => q (by rw [e.1, e.2])]
  exact hf
theorem fr_cy {s d : zx_H} {n : Nat} {f : zx_Y → Option α} {o : Option α} (h : zl (zx_cy M s d n) f = o) (hf : M c j = M0 c j) (q : ∀ i, zc c j ≠ zc d i) : ∃ M', M' c j = M0 c j ∧ f M' = o := by
  refine ⟨_, ?_, h⟩
  unfold zx_cy
  rw [if_neg fun e => q j (by rw [e.1])]
  exact hf
theorem fr_ck {kf kt n : Nat} {f : zx_Y → Option α} {o : Option α} (h : zl (zy_ck kf kt n M) f = o) (hf : M c j = M0 c j) (q : ∀ i, zc c j ≠ zc (kt, 0, 0, 0) i) : ∃ M', M' c j = M0 c j ∧ f M' = o := by
  refine ⟨_, ?_, h⟩
  unfold zy_ck
  rw [if_neg fun e => q j (by rw [e.1])]
  exact hf
theorem fr_cm {o : Option zx_Y} {f : zx_Y → Option α} {w : α} (h : zm o f = some w) (hr : ∀ M', o = some M' → M' c j = M c j) (hf : M c j = M0 c j) : ∃ M', M' c j = M0 c j ∧ f M' = some w := by
  unfold zm at h
  split at h
  · exact ⟨_, (hr _ rfl).trans hf, h⟩
  · cases h
theorem fr_cv {o : Option (Int32 × zx_Y)} {f : Int32 → zx_Y → Option α} {w : α} (h : zv o f = some w) (hr : ∀ v M', o = some (v, M') → M' c j = M c j) (hf : M c j = M0 c j) : ∃ v M', M' c j = M0 c j ∧ f v M' = some w := by
  unfold zv at h
  split at h
  · exact ⟨_, _, (hr _ _ rfl).trans hf, h⟩
  · cases h
theorem fr_cb {o : Option Int32} {f : Int32 → Option α} {w : α} (h : zb o f = some w) : ∃ v, f v = some w := by
  unfold zb at h
  split at h
  · exact ⟨_, h⟩
  · cases h
theorem fr_tw {l : Nat} {x : Int32} {f : Nat → Option α} {e : Option α} {o : Option α} (h : zt M l x f e = o) : (∃ k, f k = o) ∨ e = o := by
  unfold zt at h
  split at h
  · exact Or.inl ⟨_, h⟩
  · exact Or.inr h
theorem fr_ri {v rv : Int32} {rM : zx_Y} (h : some (v, M) = some (rv, rM)) (hf : M c j = M0 c j) : rM c j = M0 c j := by
  cases h
  exact hf
theorem fr_r0 {rM : zx_Y} (h : some M = some rM) (hf : M c j = M0 c j) : rM c j = M0 c j := by
  cases h
  exact hf
end ZF
