/-! copies: the reference's rows, the class's lines -/
def zy_ck (kf kt k : Nat) (M : zx_Y) : zx_Y := fun h j => if h = (kt, 0, 0, 0) ∧ j < k then M (kf, 0, 0, 0) j else M h j
theorem zy_ck_0 (kf kt : Nat) (M : zx_Y) : zy_ck kf kt 0 M = M := by
  funext h j
  exact if_neg fun q => absurd q.2 (Nat.not_lt_zero _)
theorem zy_ck_s {kf kt k : Nat} (M : zx_Y) (hne : kf ≠ kt) : zx_up (zy_ck kf kt k M) (kt, 0, 0, 0) k (zy_ck kf kt k M (kf, 0, 0, 0) k) = zy_ck kf kt (k + 1) M := by
  funext h j
  unfold zx_up zy_ck
  rw [if_neg (show ¬ (((kf, 0, 0, 0) : zx_H) = (kt, 0, 0, 0) ∧ k < k) from fun q => absurd q.2 (Nat.lt_irrefl _))]
  by_cases h1 : h = (kt, 0, 0, 0)
  · by_cases h2 : j = k
    · rw [if_pos ⟨h1, h2⟩, if_pos ⟨h1, by omega⟩, h2]
    · rw [if_neg (fun q => h2 q.2)]
      by_cases h3 : j < k
      · rw [if_pos ⟨h1, h3⟩, if_pos ⟨h1, by omega⟩]
      · rw [if_neg (fun q => h3 q.2), if_neg (fun q => by have := q.2; omega)]
  · rw [if_neg (fun q => h1 q.1), if_neg (fun q => h1 q.1), if_neg (fun q => h1 q.1)]
theorem zy_i640 : (640 : Int32) = nI 640 := rfl
set_option maxRecDepth 100000 in
theorem r_copy_L {X : zx_X} {d n kf kt : Nat} {M : zx_Y} (hf : zx_kd kf = (2, 0, 640)) (ht : zx_kd kt = (2, 0, 640)) (hne : kf ≠ kt) : ∀ (q k : Nat), k + q = 640 →
    zx_E X d zc_X11_copy (2, [some (.inr (some (kf, 0, 0, 0))), some (.inr (some (kt, 0, 0, 0))), some (.inl (nI k))], [], (zx_lay (zy_ck kf kt k M), n)) (none, (zx_lay (zy_ck kf kt 640 M), n))
  | 0, k, hk => by
    have e : k = 640 := by omega
    subst e
    refine zx_E.go 2 (s' := (6, [some (.inr (some (kf, 0, 0, 0))), some (.inr (some (kt, 0, 0, 0))), some (.inl (nI 640))], [.inl 640, .inl (nI 640)], (zx_lay (zy_ck kf kt 640 M), n))) rfl ?_
    refine zx_E.bt (c := (640 : Int32) ≤ nI 640) (s1 := (21, [some (.inr (some (kf, 0, 0, 0))), some (.inr (some (kt, 0, 0, 0))), some (.inl (nI 640))], [], (zx_lay (zy_ck kf kt 640 M), n))) (s2 := (9, [some (.inr (some (kf, 0, 0, 0))), some (.inr (some (kt, 0, 0, 0))), some (.inl (nI 640))], [], (zx_lay (zy_ck kf kt 640 M), n))) rfl (by decide) ?_
    exact zx_E.ret rfl
  | q + 1, k, hk => by
    have hlt : ¬ (640 : Int32) ≤ nI k := by rw [zy_i640]; exact nI_ge (by omega) (by omega)
    refine zx_E.go 2 (s' := (6, [some (.inr (some (kf, 0, 0, 0))), some (.inr (some (kt, 0, 0, 0))), some (.inl (nI k))], [.inl 640, .inl (nI k)], (zx_lay (zy_ck kf kt k M), n))) rfl ?_
    refine zx_E.bf (c := (640 : Int32) ≤ nI k) (s1 := (21, [some (.inr (some (kf, 0, 0, 0))), some (.inr (some (kt, 0, 0, 0))), some (.inl (nI k))], [], (zx_lay (zy_ck kf kt k M), n))) (s2 := (9, [some (.inr (some (kf, 0, 0, 0))), some (.inr (some (kt, 0, 0, 0))), some (.inl (nI k))], [], (zx_lay (zy_ck kf kt k M), n))) rfl hlt ?_
    refine zx_E.go 4 (s' := (13, [some (.inr (some (kf, 0, 0, 0))), some (.inr (some (kt, 0, 0, 0))), some (.inl (nI k))], [.inl (nI k), .inr (some (kf, 0, 0, 0)), .inl (nI k), .inr (some (kt, 0, 0, 0))], (zx_lay (zy_ck kf kt k M), n))) rfl ?_
    refine zx_E.iald (k := k) rfl hf rfl (by omega) ?_
    refine zx_E.iast (k := k) (h := (kt, 0, 0, 0)) rfl ht rfl (by omega) ?_
    rw [zy_ck_s M hne]
    refine zx_E.go 2 (s' := (2, [some (.inr (some (kf, 0, 0, 0))), some (.inr (some (kt, 0, 0, 0))), some (.inl (nI k + 1))], [], (zx_lay (zy_ck kf kt (k + 1) M), n))) rfl ?_
    rw [nI_1]
    exact r_copy_L hf ht hne q (k + 1) (by omega)
set_option maxRecDepth 100000 in
theorem r_copy {X : zx_X} {d n kf kt : Nat} {M : zx_Y} (hf : zx_kd kf = (2, 0, 640)) (ht : zx_kd kt = (2, 0, 640)) (hne : kf ≠ kt) : zx_run X (d + 1) 171 [.inr (some (kf, 0, 0, 0)), .inr (some (kt, 0, 0, 0))] (zx_lay M, n) (none, (zx_lay (zy_ck kf kt 640 M), n)) := by
  refine zx_run_of zc_X11_copy [some (.inr (some (kf, 0, 0, 0))), some (.inr (some (kt, 0, 0, 0))), none] rfl rfl ?_
  refine zx_E.go 2 (s' := (2, [some (.inr (some (kf, 0, 0, 0))), some (.inr (some (kt, 0, 0, 0))), some (.inl (nI 0))], [], (zx_lay M, n))) rfl ?_
  have := r_copy_L (X := X) (d := d) (n := n) (M := M) hf ht hne 640 0 rfl
  rw [zy_ck_0] at this
  exact this
/-- fields or places of one cell, copied from another, up to f -/
def zy_cf (ha hb : zx_H) (f : Nat) (M : zx_Y) : zx_Y := fun h j => if h = ha ∧ j < f then M hb j else M h j
theorem zy_cf_0 (ha hb : zx_H) (M : zx_Y) : zy_cf ha hb 0 M = M := by
  funext h j
  exact if_neg fun q => absurd q.2 (Nat.not_lt_zero _)
theorem zy_cf_b {ha hb : zx_H} {f : Nat} {M : zx_Y} (hne : hb ≠ ha) (j : Nat) : zy_cf ha hb f M hb j = M hb j := if_neg fun q => hne q.1
theorem zy_cf_s {ha hb : zx_H} {f : Nat} {M : zx_Y} (hne : hb ≠ ha) : zx_up (zy_cf ha hb f M) ha f (zy_cf ha hb f M hb f) = zy_cf ha hb (f + 1) M := by
  rw [zy_cf_b hne]
  funext h j
  unfold zx_up zy_cf
  by_cases h1 : h = ha
  · by_cases h2 : j = f
    · rw [if_pos ⟨h1, h2⟩, if_pos ⟨h1, by omega⟩, h2]
    · rw [if_neg (fun q => h2 q.2)]
      by_cases h3 : j < f
      · rw [if_pos ⟨h1, h3⟩, if_pos ⟨h1, by omega⟩]
      · rw [if_neg (fun q => h3 q.2), if_neg (fun q => by have := q.2; omega)]
  · rw [if_neg (fun q => h1 q.1), if_neg (fun q => h1 q.1), if_neg (fun q => h1 q.1)]
theorem zx_E.fcopy {X : zx_X} {d : Nat} {code : List zx_I} {r : zx_O} {ha hb : zx_H} {f n pc k a : Nat} {c : Int32} {t : List Nat} {M : zx_Y} {ls : zx_L} (hne : hb ≠ ha) (h1 : zx_stn X code 3 (pc, ls, [], (zx_lay (zy_cf ha hb f M), n)) = some (pc + 5, ls, [.inl (zy_cf ha hb f M hb f), .inr (some ha)], (zx_lay (zy_cf ha hb f M), n)))
    (hat : zx_at code (pc + 5) = some (pc + 5, .putfield k, a, f, c, t)) (hk : zx_pf ha.1 a f = true) (hc : c = 1 → M hb f = 0 ∨ M hb f = 1)
    (hE : zx_E X d code (pc + 8, ls, [], (zx_lay (zy_cf ha hb (f + 1) M), n)) r) : zx_E X d code (pc, ls, [], (zx_lay (zy_cf ha hb f M), n)) r := by
  refine zx_E.go 3 h1 ?_
  refine zx_E.put hat hk (by rw [zy_cf_b hne]; exact hc) ?_
  rw [zy_cf_s hne]
  exact hE
theorem zx_up_same {M : zx_Y} {h : zx_H} {b : Nat} {v : Int32} (hv : M h b = v) : zx_up M h b v = M := by
  funext h' j'
  unfold zx_up
  by_cases e : h' = h ∧ j' = b
  · rw [if_pos e, e.1, e.2, hv]
  · rw [if_neg e]
theorem zx_E.putS {X : zx_X} {d : Nat} {code : List zx_I} {r : zx_O} {pc k a b : Nat} {c : Int32} {t : List Nat} {ls : zx_L} {st : List zx_V} {M : zx_Y} {n : Nat} {h : zx_H} {v : Int32} (hat : zx_at code pc = some (pc, .putfield k, a, b, c, t)) (hk : zx_pf h.1 a b = true) (hc : c = 1 → v = 0 ∨ v = 1) (hv : M h b = v)
    (hE : zx_E X d code (pc + 3, ls, st, (zx_lay M, n)) r) : zx_E X d code (pc, ls, .inl v :: .inr (some h) :: st, (zx_lay M, n)) r := zx_E.put hat hk hc (by rw [zx_up_same hv]; exact hE)
theorem zx_E.acpS {X : zx_X} {d : Nat} {code : List zx_I} {r : zx_O} {pc k b N len : Nat} {c : Int32} {t : List Nat} {ls : zx_L} {st : List zx_V} {M : zx_Y} {n : Nat} {h g : zx_H} (hat : zx_at code pc = some (pc, .invokestatic k, 901, b, c, t)) (hk : zx_kd h.1 = (2, 0, len)) (hg : zx_kd g.1 = (2, 0, len)) (hN : N ≤ len) (hs : ∀ j, j < N → M g j = M h j) (hz : st.length ≤ 8) (hE : zx_E X d code (pc + 3, ls, st, (zx_lay M, n)) r) : zx_E X d code (pc, ls, .inl (nI N) :: .inl 0 :: .inr (some g) :: .inl 0 :: .inr (some h) :: st, (zx_lay M, n)) r := by
  have hl := zx_len_lt h.1
  rw [hk] at hl
  have hl : len ≤ 640 := hl
  have e1 : (nI N).toNatClampNeg = N := nI_clamp (by omega)
  have e0 : (0 : Int32).toNatClampNeg = 0 := by decide
  have e2 : zx_cp (zx_lay M) h g 0 0 N = zx_lay M := by
    funext h' j
    unfold zx_cp
    split
    · rename_i q
      obtain ⟨rfl, q1, q2⟩ := q
      rw [zx_lay_none (zx_ir_lr (zx_ir20 (by rw [hk]) (by rw [hk]) _)), zx_lay_none (zx_ir_lr (zx_ir20 (by rw [hg]) (by rw [hg]) _)), hs j (by omega)]
      simp
    · rfl
  refine zx_E.one (s' := (pc + 3, ls, st, (zx_lay M, n))) ?_ hE
  unfold zx_st1
  dsimp only
  rw [hat]
  dsimp only
  unfold zx_do
  dsimp only
  rw [if_pos ⟨⟨rfl, hz, nI_pos' (by omega), by decide, by decide⟩, ⟨by rw [hk], by rw [hk], by rw [hk, e1, e0]; dsimp only; omega⟩, ⟨by rw [hg], by rw [hg], by rw [hg, e1, e0]; dsimp only; omega⟩⟩, e1, e0, e2]
