/-! what a memory says of the machine's heap; cells stand one behind another from base on; the script at b -/
def zx_aty : Nat → FieldType
  | 0 => .int
  | 1 => .array .int
  | t => .object (zx_R (zx_ac t))
def zx_tys (dA : Nat → ClassId) : List (ClassId × FieldType) := (List.range 7).map (fun t => (dA t, zx_aty t))
def zx_ad (b base : Nat) (h : zx_H) : Nat := if h = (33, 0, 0, 0) then b else base + zx_inv h
def zx_cv (b base : Nat) : zx_V → Value
  | .inl v => .int v
  | .inr none => .null
  | .inr (some h) => .ref (zx_ad b base h)
def zx_vi : zx_V → Int32
  | .inl v => v
  | _ => 0
def zx_vr (b base : Nat) : zx_V → Option Nat
  | .inr (some h) => some (zx_ad b base h)
  | _ => none
theorem zx_cv_cat (b base : Nat) (v : zx_V) : (zx_cv b base v).category = 1 := by
  rcases v with v | _ | h <;> rfl
theorem zx_cv_i {b base : Nat} {v : zx_V} (h : v.isRight = false) : zx_cv b base v = .int (zx_vi v) := by
  rcases v with v | v
  · rfl
  · cases h
theorem zx_cv_r {b base : Nat} {v : zx_V} (h : v.isRight = true) : zx_cv b base v = va_rf (zx_vr b base v) := by
  rcases v with v | _ | v
  · cases h
  · rfl
  · rfl
/-- what the kit's worlds say of a cell -/
def zx_ce (dA : Nat → ClassId) (b base : Nat) (h : zx_H) (f : Nat → zx_V) : va_E :=
  if (zx_kd h.1).1 = 1 then .inr ((zx_kd h.1).2.1, (List.range (zx_kd h.1).2.2).map (fun j => zx_cv b base (f j)))
  else if (zx_kd h.1).2.1 = 0 then .inl (dA 0, ((zx_kd h.1).2.2, .inl (fun j => zx_vi (f j))))
  else .inl (dA (zx_kd h.1).2.1, ((zx_kd h.1).2.2, .inr (.inr (.inr (.inr (fun j => zx_vr b base (f j)))))))
def zx_Rep (D : va_G) (dA : Nat → ClassId) (b base : Nat) (μ : zx_M) (H : Heap) : Prop :=
  H.size = base + μ.2 ∧ ∀ k, k < μ.2 → va_at D vwCl (base + k, zx_ce dA b base (zx_seq k) (μ.1 (zx_seq k))) H
def zx_ok (n : Nat) (h : zx_H) : Prop := zx_inv h < n ∧ zx_seq (zx_inv h) = h
/-- a place's content is of the place's sort, and is no cell that isn't made -/
def zx_vk (n : Nat) (r : Bool) (v : zx_V) : Prop := v.isRight = r ∧ ∀ h, v = .inr (some h) → zx_ok n h
def zx_Gd (μ : zx_M) : Prop := μ.2 ≤ 308 ∧ ∀ k, k < μ.2 → ∀ j, j < (zx_kd (zx_seq k).1).2.2 → zx_vk μ.2 (zx_ir (zx_seq k).1 j) (μ.1 (zx_seq k) j)
def zx_okv (n : Nat) (v : zx_V) : Prop := ∀ h, v = .inr (some h) → zx_ok n h ∨ h = (33, 0, 0, 0)
def zx_ss : Nat → Nat
  | 0 => 0
  | k + 1 => zx_ss k + (zx_kd (zx_seq k).1).2.2
theorem zx_is : ∀ k, k < 308 → zx_inv (zx_seq k) = k := by decide +kernel
theorem zx_sk : ∀ k, k < 308 → (zx_kd (zx_seq k).1).1 = 1 ∨ (zx_kd (zx_seq k).1).1 = 2 := by decide +kernel
theorem zx_st : ∀ k, k < 308 → (zx_kd (zx_seq k).1).1 = 2 → (zx_kd (zx_seq k).1).2.1 < 7 := by decide +kernel
theorem zx_sc : ∀ k, k < 308 → (zx_kd (zx_seq k).1).1 = 1 → (zx_kd (zx_seq k).1).2.1 < 12 ∧ (zx_cs (zx_kd (zx_seq k).1).2.1).2.2 = (zx_kd (zx_seq k).1).2.2 := by decide +kernel
theorem zx_ok_seq {n k : Nat} (hk : k < n) (hn : n ≤ 308) : zx_ok n (zx_seq k) := by
  unfold zx_ok
  rw [zx_is k (by omega)]
  exact ⟨hk, rfl⟩
theorem zx_ok_up {n n' : Nat} {h : zx_H} (ho : zx_ok n h) (hn : n ≤ n') : zx_ok n' h := ⟨Nat.lt_of_lt_of_le ho.1 hn, ho.2⟩
theorem zx_vk_up {n n' : Nat} {r : Bool} {v : zx_V} (ho : zx_vk n r v) (hn : n ≤ n') : zx_vk n' r v := ⟨ho.1, fun h e => zx_ok_up (ho.2 h e) hn⟩
theorem zx_okv_up {n n' : Nat} {v : zx_V} (ho : zx_okv n v) (hn : n ≤ n') : zx_okv n' v := fun h e => (ho h e).imp (fun q => zx_ok_up q hn) id
theorem zx_okv_i (n : Nat) (x : Int32) : zx_okv n (.inl x) := fun h e => by cases e
theorem zx_okv_n (n : Nat) : zx_okv n (.inr none) := fun h e => by cases e
theorem zx_okv_h {n : Nat} {h : zx_H} (ho : zx_ok n h) : zx_okv n (.inr (some h)) := fun h' e => by cases e; exact Or.inl ho
theorem zx_okv_of {n : Nat} {r : Bool} {v : zx_V} (hv : zx_vk n r v) : zx_okv n v := fun h e => Or.inl (hv.2 h e)
theorem zx_n33 {n : Nat} {h : zx_H} (hn : n ≤ 308) (ho : zx_ok n h) : h ≠ (33, 0, 0, 0) := by
  rintro rfl
  have : zx_inv (33, 0, 0, 0) = 308 := by decide +kernel
  have h1 := ho.1
  omega
theorem zx_ad_ok {n b base : Nat} {h : zx_H} (hn : n ≤ 308) (ho : zx_ok n h) : zx_ad b base h = base + zx_inv h := if_neg (zx_n33 hn ho)
/-- a name of a kind that the tables know isn't the script -/
theorem zx_ok_kd {n : Nat} {h : zx_H} (ho : zx_okv n (.inr (some h))) (hk : (zx_kd h.1).1 ≠ 0) : zx_ok n h := by
  rcases ho h rfl with q | rfl
  · exact q
  · exact absurd (by decide +kernel) hk
theorem zx_Rep.get {D : va_G} {dA : Nat → ClassId} {b base : Nat} {μ : zx_M} {H : Heap} (hR : zx_Rep D dA b base μ H) {h : zx_H} (ho : zx_ok μ.2 h) : va_at D vwCl (base + zx_inv h, zx_ce dA b base h (μ.1 h)) H := by
  have := hR.2 (zx_inv h) ho.1
  rw [ho.2] at this
  exact this
theorem zx_P1 {D : va_G} {q : Nat × va_E} {H : Heap} (h : va_at D vwCl q H) : va_P D vwCl [q] H := fun k q' hk => by
  match k, hk with
  | 0, hk => cases hk; exact h
  | k + 1, hk => simp at hk
theorem zx_Rep.set {D : va_G} {dA : Nat → ClassId} {b base : Nat} {μ : zx_M} {H H1 : Heap} (hR : zx_Rep D dA b base μ H) (hn : μ.2 ≤ 308) {h : zx_H} (ho : zx_ok μ.2 h) {m' : zx_F} (hsz : H1.size = H.size) (hoth : ∀ q, q ≠ base + zx_inv h → H1[q]? = H[q]?)
    (hat : va_at D vwCl (base + zx_inv h, zx_ce dA b base h (m' h)) H1) (hm : ∀ h', h' ≠ h → m' h' = μ.1 h') : zx_Rep D dA b base (m', μ.2) H1 := by
  refine ⟨hsz.trans hR.1, fun k hk => ?_⟩
  by_cases e : k = zx_inv h
  · subst e
    show va_at D vwCl (base + zx_inv h, zx_ce dA b base (zx_seq (zx_inv h)) (m' (zx_seq (zx_inv h)))) H1
    rw [ho.2]
    exact hat
  · have hne : zx_seq k ≠ h := fun q => e (by rw [← q, zx_is k (Nat.lt_of_lt_of_le hk hn)])
    show va_at D vwCl (base + k, zx_ce dA b base (zx_seq k) (m' (zx_seq k))) H1
    rw [hm _ hne]
    exact (hR.2 k hk).kept (hoth _ (by show base + k ≠ _; omega))
theorem zx_wr_h (m : zx_F) (h : zx_H) (j : Nat) (v : zx_V) : zx_wr m h j v h = fun j' => if j' = j then v else m h j' := by
  funext j'
  simp [zx_wr]
theorem zx_wr_o (m : zx_F) (h : zx_H) (j : Nat) (v : zx_V) {h' : zx_H} (hh : h' ≠ h) : zx_wr m h j v h' = m h' := by
  funext j'
  simp [zx_wr, hh]
theorem zx_Gd.wr {μ : zx_M} (hG : zx_Gd μ) {h : zx_H} {j : Nat} {v : zx_V} (hv : zx_vk μ.2 (zx_ir h.1 j) v) : zx_Gd (zx_wr μ.1 h j v, μ.2) := by
  refine ⟨hG.1, fun k hk j' hj' => ?_⟩
  show zx_vk μ.2 _ (zx_wr μ.1 h j v (zx_seq k) j')
  unfold zx_wr
  by_cases e : zx_seq k = h ∧ j' = j
  · rw [if_pos e, e.1, e.2]
    exact hv
  · rw [if_neg e]
    exact hG.2 k hk j' hj'
theorem zx_Gd.at {μ : zx_M} (hG : zx_Gd μ) {h : zx_H} (ho : zx_ok μ.2 h) {j : Nat} (hj : j < (zx_kd h.1).2.2) : zx_vk μ.2 (zx_ir h.1 j) (μ.1 h j) := by
  have := hG.2 (zx_inv h) ho.1 j (by rw [ho.2]; exact hj)
  rw [ho.2] at this
  exact this
/-- the locals -/
def zx_pr (b base : Nat) (ls : zx_L) : List (Nat × Value) := (List.range ls.length).filterMap (fun i => match ls[i]? with | some (some v) => some (i, zx_cv b base v) | _ => none)
def zx_lc (b base nL : Nat) (ls : zx_L) (L : Array Slot) : Prop := ls.length = nL ∧ lv_has L nL (zx_pr b base ls)
theorem zx_pr_mem {b base : Nat} {ls : zx_L} {i : Nat} {w : Value} : (i, w) ∈ zx_pr b base ls ↔ ∃ v, ls[i]? = some (some v) ∧ w = zx_cv b base v := by
  unfold zx_pr
  rw [List.mem_filterMap]
  constructor
  · rintro ⟨j, hj, h⟩
    split at h
    · rename_i v hv
      cases h
      exact ⟨v, hv, rfl⟩
    · cases h
  · rintro ⟨v, hv, rfl⟩
    refine ⟨i, List.mem_range.mpr (List.getElem?_eq_some_iff.mp hv).1, ?_⟩
    rw [hv]
theorem zx_ld_some {ls : zx_L} {i : Nat} {v : zx_V} (h : zx_ld ls i = some v) : ls[i]? = some (some v) := by
  unfold zx_ld at h
  split at h
  · rename_i w hw
    cases h
    exact hw
  · cases h
theorem zx_lc.at {b base nL : Nat} {ls : zx_L} {L : Array Slot} (h : zx_lc b base nL ls L) {i : Nat} {v : zx_V} (hv : zx_ld ls i = some v) : L[i]? = some (.val (zx_cv b base v)) :=
  h.2.2.2 (i, zx_cv b base v) (zx_pr_mem.mpr ⟨v, zx_ld_some hv, rfl⟩)
theorem zx_lc.put {b base nL : Nat} {ls : zx_L} {i : Nat} {v : zx_V} {L' : Array Slot} (hl : ls.length = nL)
    (h : lv_has L' nL ((i, zx_cv b base v) :: (zx_pr b base ls).filter (fun q => !(q.1 == i) && !(q.1 + 1 == i && q.2.category == 2)))) : zx_lc b base nL (ls.set i (some v)) L' := by
  refine ⟨by rw [List.length_set]; exact hl, h.1, h.2.1, fun q hq => ?_⟩
  obtain ⟨j, w⟩ := q
  obtain ⟨u, hu, rfl⟩ := zx_pr_mem.mp hq
  apply h.2.2
  rw [List.getElem?_set] at hu
  by_cases e : i = j
  · subst e
    rw [if_pos rfl] at hu
    split at hu
    · cases hu
      exact List.mem_cons_self
    · cases hu
  · rw [if_neg e] at hu
    refine List.mem_cons_of_mem _ (List.mem_filter.mpr ⟨zx_pr_mem.mpr ⟨u, hu, rfl⟩, ?_⟩)
    have h1 : (j == i) = false := by simpa using fun q => e q.symm
    simp [h1, zx_cv_cat]
/-! one instruction of the interpreter is one of the machine -/
def zx_Es (s : State) : Prop := ∀ w ∈ zx_ex_w, va_Nw w s
def zx_Fx (p : Program) (s : State) (m : MethodId) (args : Array Value) (meth : Method) (c : Code) (D : va_G) (dA : Nat → ClassId) (b base : Nat) (X : zx_X) (own : String) (ini : Bool) (by_ : ByteArray) (nL : Nat) : Prop :=
  p.tables.exec = Jvm.exec ∧ c.code = by_ ∧ c.maxLocals = nL ∧ s.vm.findClass own = some m.cls ∧ (∀ w ∈ zx_U, w.before args s = true) ∧ zx_Es s ∧ va_K D vwCl (zx_tys dA) s ∧ va_X b X.1 X.2 s s.heap ∧ b < base ∧ base ≤ s.heap.size ∧ (ini = true → meth.name = "<init>")
def zx_J (D : va_G) (dA : Nat → ClassId) (b base : Nat) (s : State) (c0 nL : Nat) (ls : zx_L) (st : List zx_V) (μ : zx_M) (H : Heap) (locs : List Loc) (L : Array Slot) : Prop :=
  zx_Rep D dA b base μ H ∧ zx_Gd μ ∧ c0 ≤ μ.2 ∧ (∀ q, q < base → H[q]? = s.heap[q]?) ∧ (∀ l ∈ locs, base ≤ l.base) ∧ zx_lc b base nL ls L ∧ (∀ v, some v ∈ ls → zx_okv μ.2 v) ∧ (∀ v ∈ st, zx_okv μ.2 v)
theorem zx_J.st {D : va_G} {dA : Nat → ClassId} {b base : Nat} {s : State} {c0 nL : Nat} {ls : zx_L} {st st' : List zx_V} {μ : zx_M} {H : Heap} {locs : List Loc} {L : Array Slot} (J : zx_J D dA b base s c0 nL ls st μ H locs L) (h : ∀ v ∈ st', zx_okv μ.2 v) : zx_J D dA b base s c0 nL ls st' μ H locs L :=
  ⟨J.1, J.2.1, J.2.2.1, J.2.2.2.1, J.2.2.2.2.1, J.2.2.2.2.2.1, J.2.2.2.2.2.2.1, h⟩
theorem zx_J.set {D : va_G} {dA : Nat → ClassId} {b base : Nat} {s : State} {c0 nL : Nat} {ls : zx_L} {st st' : List zx_V} {μ : zx_M} {H : Heap} {locs : List Loc} {L L' : Array Slot} {i : Nat} {v : zx_V} (J : zx_J D dA b base s c0 nL ls st μ H locs L)
    (h : lv_has L' nL ((i, zx_cv b base v) :: (zx_pr b base ls).filter (fun q => !(q.1 == i) && !(q.1 + 1 == i && q.2.category == 2)))) (hv : zx_okv μ.2 v) (hs : ∀ v ∈ st', zx_okv μ.2 v) : zx_J D dA b base s c0 nL (ls.set i (some v)) st' μ H locs L' :=
  ⟨J.1, J.2.1, J.2.2.1, J.2.2.2.1, J.2.2.2.2.1, zx_lc.put J.2.2.2.2.2.1.1 h, fun w hw => by
    rcases List.mem_or_eq_of_mem_set hw with q | q
    · exact J.2.2.2.2.2.2.1 w q
    · cases q; exact hv, hs⟩
/-- a write within a cell -/
theorem zx_J.mem {D : va_G} {dA : Nat → ClassId} {b base : Nat} {s : State} {c0 nL : Nat} {ls : zx_L} {st st' : List zx_V} {μ : zx_M} {H H1 : Heap} {locs : List Loc} {L : Array Slot} (J : zx_J D dA b base s c0 nL ls st μ H locs L) {h : zx_H} (ho : zx_ok μ.2 h) {m' : zx_F} (hG : zx_Gd (m', μ.2)) (i : Nat)
    (hsz : H1.size = H.size) (hoth : ∀ q, q ≠ base + zx_inv h → H1[q]? = H[q]?) (hat : va_at D vwCl (base + zx_inv h, zx_ce dA b base h (m' h)) H1) (hm : ∀ h', h' ≠ h → m' h' = μ.1 h') (hs : ∀ v ∈ st', zx_okv μ.2 v) : zx_J D dA b base s c0 nL ls st' (m', μ.2) H1 (locs ++ [⟨base + zx_inv h, i⟩]) L :=
  ⟨J.1.set J.2.1.1 ho hsz hoth hat hm, hG, J.2.2.1, fun q hq => (hoth q (by omega)).trans (J.2.2.2.1 q hq), fun l hl => by
    rcases List.mem_append.mp hl with q | q
    · exact J.2.2.2.2.1 l q
    · rw [List.mem_singleton.mp q]; exact Nat.le_add_right _ _, J.2.2.2.2.2.1, J.2.2.2.2.2.2.1, hs⟩
section ZX
variable {p : Program} {l : Launch} {e : Env} {R : Room} {s : State} {m : MethodId} {args : Array Value} {below : List Frame} {meth : Method} {c : Code} {H : Heap} {locs : List Loc} {Q : State → Prop}
variable {D : va_G} {dA : Nat → ClassId} {b base c0 nL : Nat} {X : zx_X} {own : String} {ini : Bool} {by_ : ByteArray} {ls : zx_L} {st : List zx_V} {μ : zx_M} {L : Array Slot}
/-- the goal at a state of the interpreter -/
def zx_Go (p : Program) (l : Launch) (e : Env) (R : Room) (s : State) (m : MethodId) (args : Array Value) (below : List Frame) (meth : Method) (c : Code) (Q : State → Prop) (b base c0 : Nat) (H : Heap) (locs : List Loc) (L : Array Slot) (pc : Nat) (st : List zx_V) (n : Nat) : Prop :=
  W p l e R s m args below meth c H locs (n - c0) (zx_ss n - zx_ss c0) Q (F0 m pc L (st.map (zx_cv b base)))
/-- what goes on from a state of the interpreter -/
def zx_Kt (p : Program) (l : Launch) (e : Env) (R : Room) (s : State) (m : MethodId) (args : Array Value) (below : List Frame) (meth : Method) (c : Code) (Q : State → Prop) (D : va_G) (dA : Nat → ClassId) (b base c0 nL : Nat) (z : zx_S) : Prop :=
  ∀ (H' : Heap) (locs' : List Loc) (L' : Array Slot), zx_J D dA b base s c0 nL z.2.1 z.2.2.1 z.2.2.2 H' locs' L' → zx_Go p l e R s m args below meth c Q b base c0 H' locs' L' z.1 z.2.2.1 z.2.2.2.2
theorem zx_mem_cons {α : Type} {P : α → Prop} {a : α} {l : List α} (h : P a) (hl : ∀ v ∈ l, P v) : ∀ v ∈ a :: l, P v := fun v hv => by
  rcases List.mem_cons.mp hv with q | q
  · rw [q]; exact h
  · exact hl v q
theorem zx_dec1 {x y : Bool} (h : (x && y) = true) : x = true := (Bool.and_eq_true _ _ ▸ h).1
theorem zx_dec2 {x y : Bool} (h : (x && y) = true) : y = true := (Bool.and_eq_true _ _ ▸ h).2
theorem zx_ldok {i : Nat} {v : zx_V} (J : zx_J D dA b base s c0 nL ls st μ H locs L) (h : zx_ld ls i = some v) : zx_okv μ.2 v := J.2.2.2.2.2.2.1 v (List.mem_of_getElem? (zx_ld_some h))
theorem zx_ldlt {i : Nat} {v : zx_V} (J : zx_J D dA b base s c0 nL ls st μ H locs L) (h : zx_ld ls i = some v) : i < nL := by
  have := (List.getElem?_eq_some_iff.mp (zx_ld_some h)).1
  rw [J.2.2.2.2.2.1.1] at this
  exact this
/-- constants -/
theorem zx_s_const {pc : Nat} {k : Int32} {n : Nat} (J : zx_J D dA b base s c0 nL ls st μ H locs L) (kk : zx_Kt p l e R s m args below meth c Q D dA b base c0 nL (pc + n, ls, .inl k :: st, μ)) :
    W p l e R s m args below meth c H locs (μ.2 - c0) (zx_ss μ.2 - zx_ss c0) Q (F0 m (pc + n) L (.int k :: st.map (zx_cv b base))) :=
  kk H locs L (J.st (zx_mem_cons (zx_okv_i _ _) J.2.2.2.2.2.2.2))
theorem zx_s_push {pc : Nat} {v : zx_V} {n : Nat} {st' : List zx_V} (J : zx_J D dA b base s c0 nL ls st μ H locs L) (hst : ∀ w ∈ st', zx_okv μ.2 w) (hv : zx_okv μ.2 v) (kk : zx_Kt p l e R s m args below meth c Q D dA b base c0 nL (pc + n, ls, v :: st', μ)) :
    W p l e R s m args below meth c H locs (μ.2 - c0) (zx_ss μ.2 - zx_ss c0) Q (F0 m (pc + n) L (zx_cv b base v :: st'.map (zx_cv b base))) :=
  kk H locs L (J.st (zx_mem_cons hv hst))
theorem zx_tl {a : zx_V} (h : ∀ v ∈ a :: st, zx_okv μ.2 v) : ∀ v ∈ st, zx_okv μ.2 v := fun v hv => h v (List.mem_cons_of_mem _ hv)
theorem zx_hd {a : zx_V} (h : ∀ v ∈ a :: st, zx_okv μ.2 v) : zx_okv μ.2 a := h a List.mem_cons_self
theorem zx_lay_of {C : String} {T : u_T} {N : Nat} (ps : List Nat) (hl : ps.length = N) (h : (List.range N).all (fun k => zx_wd (ps.getD k 0) (u_lay C T k)) = true) : ∀ w ∈ u_ws C T N, w ∈ zx_U := by
  intro w hw
  obtain ⟨k, hk, rfl⟩ := List.mem_map.mp hw
  exact zx_wd_in (List.all_eq_true.mp h k hk)
theorem zx_lay_in (a : Nat) (ha : a < 12) : ∀ w ∈ u_ws (zx_R a) (zx_T a) (zx_cs a).2.2, w ∈ zx_U := by
  match a, ha with
  | 0, _ => exact zx_lay_of [2137, 2139] (by decide +kernel) (by decide +kernel)
  | 1, _ => exact zx_lay_of [2067, 2069, 2071, 2073, 2075, 2077, 2079, 2081, 2083, 2085, 2087, 2089] (by decide +kernel) (by decide +kernel)
  | 2, _ => exact zx_lay_of [4124, 4126, 4128, 4130, 4132, 4134, 4136, 4138, 4140, 4142, 4144, 4146] (by decide +kernel) (by decide +kernel)
  | 3, _ => exact zx_lay_of [2155, 2157, 2159, 2161] (by decide +kernel) (by decide +kernel)
  | 4, _ => exact zx_lay_of [2122, 2124] (by decide +kernel) (by decide +kernel)
  | 5, _ => exact zx_lay_of [2219, 2221, 2223] (by decide +kernel) (by decide +kernel)
  | 6, _ => exact zx_lay_of [4003, 4005, 4007, 4009] (by decide +kernel) (by decide +kernel)
  | 7, _ => exact zx_lay_of [2195, 2197, 2199] (by decide +kernel) (by decide +kernel)
  | 8, _ => exact zx_lay_of [2102, 2104, 2106, 2108, 2110] (by decide +kernel) (by decide +kernel)
  | 9, _ => exact zx_lay_of [4055, 4057, 4059, 4061, 4063, 4065, 4067, 4069, 4071, 4073, 4075, 4077, 4079, 4081, 4083, 4085, 4087] (by decide +kernel) (by decide +kernel)
  | 10, _ => exact zx_lay_of [4157, 4159, 4161, 4163, 4165, 4167, 4169, 4171] (by decide +kernel) (by decide +kernel)
  | 11, _ => exact zx_lay_of [8176, 8178, 8180, 8182, 8184, 8186, 8188, 8190, 8192, 8194, 8196, 8198, 8200, 8202, 8204, 8206, 8208, 8210, 8212] (by decide +kernel) (by decide +kernel)
  | a + 12, h => exact absurd h (by omega)
def zx_tf (a : Nat) : Nat → FieldType := [tyX0, tyX1, tyX2, tyX3, tyX4, tyX5, tyX6, tyX7, tyX8, tyX9, tyX10, tyX11].getD a tyX0
theorem zx_tf_ok (a : Nat) (ha : a < 12) : ∀ k, k < (zx_cs a).2.2 → parseFieldDescriptor (zx_T a k).2.2.1 = some (zx_tf a k) := by
  match a, ha with
  | 0, _ => exact tyX0_ok
  | 1, _ => exact tyX1_ok
  | 2, _ => exact tyX2_ok
  | 3, _ => exact tyX3_ok
  | 4, _ => exact tyX4_ok
  | 5, _ => exact tyX5_ok
  | 6, _ => exact tyX6_ok
  | 7, _ => exact tyX7_ok
  | 8, _ => exact tyX8_ok
  | 9, _ => exact tyX9_ok
  | 10, _ => exact tyX10_ok
  | 11, _ => exact tyX11_ok
  | a + 12, h => exact absurd h (by omega)
theorem zx_nf_ok (a : Nat) (ha : a < 12) : ∀ x, x < (zx_cs a).2.2 → ∀ y, y < (zx_cs a).2.2 → x ≠ y → (zx_T a x).2.1 ≠ (zx_T a y).2.1 := by
  match a, ha with
  | 0, _ => exact fun x hx y hy h => nmX0 x hx y hy h
  | 1, _ => exact fun x hx y hy h => nmX1 x hx y hy h
  | 2, _ => exact fun x hx y hy h => nmX2 x hx y hy h
  | 3, _ => exact fun x hx y hy h => nmX3 x hx y hy h
  | 4, _ => exact fun x hx y hy h => nmX4 x hx y hy h
  | 5, _ => exact fun x hx y hy h => nmX5 x hx y hy h
  | 6, _ => exact fun x hx y hy h => nmX6 x hx y hy h
  | 7, _ => exact fun x hx y hy h => nmX7 x hx y hy h
  | 8, _ => exact fun x hx y hy h => nmX8 x hx y hy h
  | 9, _ => exact fun x hx y hy h => nmX9 x hx y hy h
  | 10, _ => exact fun x hx y hy h => nmX10 x hx y hy h
  | 11, _ => exact fun x hx y hy h => nmX11 x hx y hy h
  | a + 12, h => exact absurd h (by omega)
theorem zx_cs_at (a : Nat) (ha : a < 12) : vwCl[a]? = some (zx_R a, zx_T a, (zx_cs a).2.2) := by
  match a, ha with
  | 0, _ => rfl
  | 1, _ => rfl
  | 2, _ => rfl
  | 3, _ => rfl
  | 4, _ => rfl
  | 5, _ => rfl
  | 6, _ => rfl
  | 7, _ => rfl
  | 8, _ => rfl
  | 9, _ => rfl
  | 10, _ => rfl
  | 11, _ => rfl
  | a + 12, h => exact absurd h (by omega)
/-- what a field may hold: its type's sort -/
theorem zx_tf_r (a : Nat) (ha : a < 12) : ∀ k, k < (zx_cs a).2.2 → ((zx_tf a k = .int ∨ (zx_tf a k = .boolean ∧ (zx_T a k).2.2.1 = "Z")) ∧ (zx_rs a).contains k = false) ∨ ((zx_tf a k).isReference = true ∧ (zx_rs a).contains k = true) := by
  match a, ha with
  | 0, _ => exact by decide +kernel
  | 1, _ => exact by decide +kernel
  | 2, _ => exact by decide +kernel
  | 3, _ => exact by decide +kernel
  | 4, _ => exact by decide +kernel
  | 5, _ => exact by decide +kernel
  | 6, _ => exact by decide +kernel
  | 7, _ => exact by decide +kernel
  | 8, _ => exact by decide +kernel
  | 9, _ => exact by decide +kernel
  | 10, _ => exact by decide +kernel
  | 11, _ => exact by decide +kernel
  | a + 12, h => exact absurd h (by omega)
theorem zx_kd1 {h : zx_H} {n : Nat} (hn : n ≤ 308) (ho : zx_ok n h) (h1 : (zx_kd h.1).1 = 1) : (zx_kd h.1).2.1 < 12 ∧ (zx_cs (zx_kd h.1).2.1).2.2 = (zx_kd h.1).2.2 := by
  have := zx_sc (zx_inv h) (Nat.lt_of_lt_of_le ho.1 hn)
  rw [ho.2] at this
  exact this h1
theorem zx_ce1 {h : zx_H} {f : Nat → zx_V} (h1 : (zx_kd h.1).1 = 1) : zx_ce dA b base h f = .inr ((zx_kd h.1).2.1, (List.range (zx_kd h.1).2.2).map (fun j => zx_cv b base (f j))) := if_pos h1
theorem zx_ce2 {h : zx_H} {f : Nat → zx_V} (h1 : (zx_kd h.1).1 = 2) (h2 : (zx_kd h.1).2.1 = 0) : zx_ce dA b base h f = .inl (dA 0, ((zx_kd h.1).2.2, .inl (fun j => zx_vi (f j)))) := by
  unfold zx_ce
  rw [if_neg (by omega), if_pos h2]
theorem zx_ce3 {h : zx_H} {f : Nat → zx_V} (h1 : (zx_kd h.1).1 = 2) (h2 : (zx_kd h.1).2.1 ≠ 0) : zx_ce dA b base h f = .inl (dA (zx_kd h.1).2.1, ((zx_kd h.1).2.2, .inr (.inr (.inr (.inr (fun j => zx_vr b base (f j))))))) := by
  unfold zx_ce
  rw [if_neg (by omega), if_neg h2]
theorem zx_rg {n k : Nat} (f : Nat → Value) (h : k < n) : ((List.range n).map f)[k]? = some (f k) := by
  rw [List.getElem?_map, List.getElem?_range h]
  rfl
theorem zx_tys_at {t : Nat} (h : t < 7) : (zx_tys dA)[t]? = some (dA t, zx_aty t) := by
  unfold zx_tys
  rw [List.getElem?_map, List.getElem?_range h]
  rfl
/-- getfield -/
theorem zx_s_get {pc k fa fb : Nat} {h : zx_H} (F : zx_Fx p s m args meth c D dA b base X own ini by_ nL) (J : zx_J D dA b base s c0 nL ls (.inr (some h) :: st) μ H locs L)
    (h1 : (zx_kd h.1).1 = 1) (h2 : (zx_kd h.1).2.1 = fa) (h3 : fb < (zx_kd h.1).2.2) (hw : Cond.fieldLink own k (zx_T fa fb).1 (zx_T fa fb).2.1 (zx_T fa fb).2.2.1 ∈ zx_U) (hdg : decode by_ pc = .ok (.getfield k, 3))
    (kk : zx_Kt p l e R s m args below meth c Q D dA b base c0 nL (pc + 3, ls, μ.1 h fb :: st, μ)) : zx_Go p l e R s m args below meth c Q b base c0 H locs L pc (.inr (some h) :: st) μ.2 := by
  obtain ⟨hx, hb, hml, hown, hts, hE, hK, hX, hbb, hbs, hi⟩ := F
  have ho : zx_ok μ.2 h := zx_ok_kd (zx_hd J.2.2.2.2.2.2.2) (by omega)
  have hn := J.2.1.1
  obtain ⟨hc, hN⟩ := zx_kd1 hn ho h1
  subst h2
  have hat := J.1.get ho
  rw [zx_ce1 h1] at hat
  unfold zx_Go
  show W p l e R s m args below meth c H locs _ _ Q (F0 m pc L (.ref (zx_ad b base h) :: st.map (zx_cv b base)))
  rw [zx_ad_ok hn ho]
  refine va_get hx hb hts (zx_lay_in _ hc) hown hK (zx_P1 hat) 0 rfl (zx_cs_at _ hc) fb (by rw [hN]; exact h3) (hts _ hw) (fun x hx => hx) (zx_rg _ h3) hdg ?_
  exact zx_s_push J (zx_tl J.2.2.2.2.2.2.2) (zx_okv_of (J.2.1.at ho h3)) kk
/-- putfield -/
theorem zx_s_put {pc k fa fb : Nat} {h : zx_H} {v : zx_V} (F : zx_Fx p s m args meth c D dA b base X own ini by_ nL) (J : zx_J D dA b base s c0 nL ls (v :: .inr (some h) :: st) μ H locs L)
    (h1 : (zx_kd h.1).1 = 1) (h2 : (zx_kd h.1).2.1 = fa) (h3 : fb < (zx_kd h.1).2.2) (hr : v.isRight = zx_ir h.1 fb) (h33 : v ≠ .inr (some (33, 0, 0, 0))) (hz : (zx_T fa fb).2.2.1 = "Z" → v = .inl 0 ∨ v = .inl 1) (hw : Cond.fieldLink own k (zx_T fa fb).1 (zx_T fa fb).2.1 (zx_T fa fb).2.2.1 ∈ zx_U)
    (hfin : (zx_T fa fb).2.2.2 = true → ini = true ∧ (zx_T fa fb).1 = own) (hdg : decode by_ pc = .ok (.putfield k, 3))
    (kk : zx_Kt p l e R s m args below meth c Q D dA b base c0 nL (pc + 3, ls, st, (zx_wr μ.1 h fb v, μ.2))) : zx_Go p l e R s m args below meth c Q b base c0 H locs L pc (v :: .inr (some h) :: st) μ.2 := by
  obtain ⟨hx, hb, hml, hown, hts, hE, hK, hX, hbb, hbs, hi⟩ := F
  have ho : zx_ok μ.2 h := zx_ok_kd (zx_hd (zx_tl J.2.2.2.2.2.2.2)) (by omega)
  have hn := J.2.1.1
  obtain ⟨hc, hN⟩ := zx_kd1 hn ho h1
  subst h2
  have hat := J.1.get ho
  rw [zx_ce1 h1] at hat
  have hcl := zx_cs_at _ hc
  have hk3 : fb < (zx_cs (zx_kd h.1).2.1).2.2 := by rw [hN]; exact h3
  have hvk : zx_vk μ.2 (zx_ir h.1 fb) v := ⟨hr, fun h' e => by
    rcases zx_hd J.2.2.2.2.2.2.2 h' e with q | q
    · exact q
    · rw [q] at e; exact absurd e h33⟩
  have hir : zx_ir h.1 fb = (zx_rs (zx_kd h.1).2.1).contains fb := by
    unfold zx_ir
    rcases hq : zx_kd h.1 with ⟨q1, q2, q3⟩
    rw [hq] at h1
    subst h1
    rfl
  have hnf : narrow (zx_tf (zx_kd h.1).2.1 fb) (zx_cv b base v) = zx_cv b base v ∧ fits (zx_tf (zx_kd h.1).2.1 fb) (zx_cv b base v) = true := by
    rcases zx_tf_r _ hc fb hk3 with ⟨q, q2⟩ | ⟨q, q2⟩
    · rcases v with x | x
      · rcases q with q | ⟨q, q3⟩
        · rw [q]; exact ⟨rfl, rfl⟩
        · rw [q]
          rcases hz q3 with e | e <;> cases e
          · exact ⟨(by decide +kernel : narrow .boolean (.int 0) = .int 0), (by decide +kernel : fits .boolean (.int 0) = true)⟩
          · exact ⟨(by decide +kernel : narrow .boolean (.int 1) = .int 1), (by decide +kernel : fits .boolean (.int 1) = true)⟩
      · rw [hir, q2] at hr
        cases hr
    · rcases v with x | x
      · rw [hir, q2] at hr
        cases hr
      · rcases hty : zx_tf (zx_kd h.1).2.1 fb <;> rw [hty] at q <;> first | (cases q; done) | (rcases x with _ | x <;> exact ⟨rfl, rfl⟩)
  have hap := va_apart (own := own) hts (zx_lay_in _ hc) (zx_tf _) (zx_tf_ok _ hc) (zx_nf_ok _ hc) hK hcl
  obtain ⟨r, g1, cell, q1, q2, q3, q4⟩ := hat
  have hrr : r = (zx_R (zx_kd h.1).2.1, zx_T (zx_kd h.1).2.1, (zx_cs (zx_kd h.1).2.1).2.2) := Option.some.inj (g1.symm.trans hcl)
  subst hrr
  obtain ⟨hS, hfc, kC, hkC, hkind⟩ := hK.1 _ _ hcl
  obtain ⟨cf, kf, fi, f, hif, hsl⟩ := hS fb hk3
  have hst := (u_facts hfc hkC (u_lays hts (zx_lay_in _ hc) hk3) hif).1
  have key : ∀ H' : Heap, H'[base + zx_inv h]? = some (cell.setSlot f.slot (zx_cv b base v)) → H'.size = H.size → (∀ q, q ≠ base + zx_inv h → H'[q]? = H[q]?) → W p l e R s m args below meth c H' (locs ++ [⟨base + zx_inv h, f.slot⟩]) (μ.2 - c0) (zx_ss μ.2 - zx_ss c0) Q (F0 m (pc + 3) L (st.map (zx_cv b base))) := by
    intro H' e1 e2 e3
    refine kk H' _ L (J.mem ho (J.2.1.wr hvk) f.slot e2 e3 ?_ (fun h' hh => zx_wr_o _ _ _ _ hh) (zx_tl (zx_tl J.2.2.2.2.2.2.2)))
    rw [zx_ce1 h1]
    rw [hsl] at e1
    refine ⟨_, hcl, t_OB.to (V := updV (vp_V ((List.range (zx_kd h.1).2.2).map (fun j => zx_cv b base (μ.1 h j)))) fb (zx_cv b base v)) ⟨_, e1, q2, q3, t_set q4 hap hk3 _⟩ (fun j hj => ?_)⟩
    rw [hN] at hj
    simp only [updV, vp_V, List.getD_eq_getElem?_getD, zx_rg _ hj, Option.getD_some, zx_wr_h]
    by_cases hjb : j = fb
    · simp [hjb]
    · simp [hjb]
  unfold zx_Go
  show W p l e R s m args below meth c H locs _ _ Q (F0 m pc L (zx_cv b base v :: .ref (zx_ad b base h) :: st.map (zx_cv b base)))
  rw [zx_ad_ok hn ho]
  have hlay := hts _ (zx_lay_in _ hc _ (u_in_lay hk3))
  unfold u_lay at hlay
  by_cases hf : (zx_T (zx_kd h.1).2.1 fb).2.2.2 = true
  · rw [if_pos hf] at hlay
    obtain ⟨hini, hdecl⟩ := hfin hf
    have hcf : m.cls = cf := by
      obtain ⟨_, _, c', _, _, _, -, -, hf', -, -, -, hown2, -⟩ := Cond.laysFinal_spec hlay
      have e1 : c' = cf := by have := hif.symm.trans hf'; simp at this; exact this.1.symm
      rw [hdecl] at hown2
      rw [← e1]; exact Option.some.inj (hown.symm.trans hown2)
    have h6 := u_fits hfc hkC hkind (Or.inr hlay) hif (zx_tf_ok _ hc fb hk3) hnf.1 hnf.2
    exact W.putFinK hx hb hown (hts _ hw) hif hst hcf (hi hini) (by rw [q2]; exact h6) q1 q3 (by rw [hsl]; exact k2_hasslot (q4 fb hk3)) rfl rfl hdg key
  · rw [if_neg hf] at hlay
    have h6 := u_store hfc hkC hkind hlay hif (zx_tf_ok _ hc fb hk3) hnf.1 hnf.2
    exact W.putK hx hb (f := f) ⟨hown, hts _ hw, ⟨_, _, _, hif⟩, hst⟩ (by rw [q2]; exact h6) q1 q3 (by rw [hsl]; exact k2_hasslot (q4 fb hk3)) rfl rfl hdg key
theorem zx_in_v {i : Int32} {n : Nat} (h : zx_in i n = true) : vp_in i n := by
  simp only [zx_in, Bool.and_eq_true, decide_eq_true_eq] at h
  intro q
  rcases q with q | q
  · exact absurd q (Int32.not_lt.mpr h.1)
  · omega
theorem zx_in_lt {i : Int32} {n : Nat} (h : zx_in i n = true) : i.toNatClampNeg < n := by
  simp only [zx_in, Bool.and_eq_true, decide_eq_true_eq] at h
  exact h.2
theorem zx_ir2 {h : zx_H} (h1 : (zx_kd h.1).1 = 2) (j : Nat) : zx_ir h.1 j = !(Nat.beq (zx_kd h.1).2.1 0) := by
  unfold zx_ir
  rcases hq : zx_kd h.1 with ⟨q1, q2, q3⟩
  rw [hq] at h1
  subst h1
  rfl
theorem zx_ir20 {h : zx_H} (h1 : (zx_kd h.1).1 = 2) (h2 : (zx_kd h.1).2.1 = 0) (j : Nat) : zx_ir h.1 j = false := by rw [zx_ir2 h1, h2]; rfl
theorem zx_ir21 {h : zx_H} (h1 : (zx_kd h.1).1 = 2) (h2 : 0 < (zx_kd h.1).2.1) (j : Nat) : zx_ir h.1 j = true := by
  rw [zx_ir2 h1]
  have : Nat.beq (zx_kd h.1).2.1 0 = false := by
    rcases hq : (zx_kd h.1).2.1 with _ | q
    · omega
    · rfl
  rw [this]
  rfl
theorem zx_kd2 {h : zx_H} {n : Nat} (hn : n ≤ 308) (ho : zx_ok n h) (h1 : (zx_kd h.1).1 = 2) : (zx_kd h.1).2.1 < 7 := by
  have := zx_st (zx_inv h) (Nat.lt_of_lt_of_le ho.1 hn)
  rw [ho.2] at this
  exact this h1
/-- iaload -/
theorem zx_s_iald {pc : Nat} {h : zx_H} {i : Int32} (F : zx_Fx p s m args meth c D dA b base X own ini by_ nL) (J : zx_J D dA b base s c0 nL ls (.inl i :: .inr (some h) :: st) μ H locs L)
    (h1 : (zx_kd h.1).1 = 2) (h2 : (zx_kd h.1).2.1 = 0) (h3 : zx_in i (zx_kd h.1).2.2 = true) (hdg : decode by_ pc = .ok (.iaload, 1))
    (kk : zx_Kt p l e R s m args below meth c Q D dA b base c0 nL (pc + 1, ls, μ.1 h i.toNatClampNeg :: st, μ)) : zx_Go p l e R s m args below meth c Q b base c0 H locs L pc (.inl i :: .inr (some h) :: st) μ.2 := by
  obtain ⟨hx, hb, hml, hown, hts, hE, hK, hX, hbb, hbs, hi⟩ := F
  have ho : zx_ok μ.2 h := zx_ok_kd (zx_hd (zx_tl J.2.2.2.2.2.2.2)) (by omega)
  have hn := J.2.1.1
  have hat := J.1.get ho
  rw [zx_ce2 h1 h2] at hat
  have hv := J.2.1.at ho (zx_in_lt h3)
  unfold zx_Go
  show W p l e R s m args below meth c H locs _ _ Q (F0 m pc L (.int i :: .ref (zx_ad b base h) :: st.map (zx_cv b base)))
  rw [zx_ad_ok hn ho]
  refine va_iald hx hb hK (zx_P1 hat) 0 0 rfl (zx_tys_at (t := 0) (by omega)) (zx_in_v h3) hdg ?_
  show W p l e R s m args below meth c H locs _ _ Q (F0 m (pc + 1) L (.int (zx_vi (μ.1 h i.toNatClampNeg)) :: st.map (zx_cv b base)))
  rw [← zx_cv_i (b := b) (base := base) (by rw [hv.1, zx_ir20 h1 h2])]
  exact zx_s_push J (zx_tl (zx_tl J.2.2.2.2.2.2.2)) (zx_okv_of hv) kk
/-- the script's iaload, arraylength -/
theorem zx_s_sld {pc : Nat} {i : Int32} (F : zx_Fx p s m args meth c D dA b base X own ini by_ nL) (J : zx_J D dA b base s c0 nL ls (.inl i :: .inr (some (33, 0, 0, 0)) :: st) μ H locs L)
    (h3 : zx_in i X.1 = true) (hdg : decode by_ pc = .ok (.iaload, 1))
    (kk : zx_Kt p l e R s m args below meth c Q D dA b base c0 nL (pc + 1, ls, .inl (X.2 i.toNatClampNeg) :: st, μ)) : zx_Go p l e R s m args below meth c Q b base c0 H locs L pc (.inl i :: .inr (some (33, 0, 0, 0)) :: st) μ.2 := by
  obtain ⟨hx, hb, hml, hown, hts, hE, hK, hX, hbb, hbs, hi⟩ := F
  obtain ⟨scr, e1, e2, e3, e4, e5⟩ := hX
  unfold zx_Go
  show W p l e R s m args below meth c H locs _ _ Q (F0 m pc L (.int i :: .ref b :: st.map (zx_cv b base)))
  refine W.iald (v := .int (X.2 i.toNatClampNeg)) hx hb (by rw [J.2.2.2.1 b hbb]; exact e1) e2 e3 (by rw [e4]; exact zx_in_v h3) (e5 _ (zx_in_lt h3)) rfl rfl hdg ?_
  exact kk H locs L (J.st (zx_mem_cons (zx_okv_i _ _) (zx_tl (zx_tl J.2.2.2.2.2.2.2))))
theorem zx_s_slen {pc : Nat} (F : zx_Fx p s m args meth c D dA b base X own ini by_ nL) (J : zx_J D dA b base s c0 nL ls (.inr (some (33, 0, 0, 0)) :: st) μ H locs L)
    (hdg : decode by_ pc = .ok (.arraylength, 1))
    (kk : zx_Kt p l e R s m args below meth c Q D dA b base c0 nL (pc + 1, ls, .inl (Int32.ofNat X.1) :: st, μ)) : zx_Go p l e R s m args below meth c Q b base c0 H locs L pc (.inr (some (33, 0, 0, 0)) :: st) μ.2 := by
  obtain ⟨hx, hb, hml, hown, hts, hE, hK, hX, hbb, hbs, hi⟩ := F
  obtain ⟨scr, e1, e2, e3, e4, e5⟩ := hX
  unfold zx_Go
  show W p l e R s m args below meth c H locs _ _ Q (F0 m pc L (.ref b :: st.map (zx_cv b base)))
  refine W.alen (n := Int32.ofNat X.1) hx hb (by rw [J.2.2.2.1 b hbb]; exact e1) e2 (by rw [e4] <;> rfl) rfl rfl hdg ?_
  exact kk H locs L (J.st (zx_mem_cons (zx_okv_i _ _) (zx_tl J.2.2.2.2.2.2.2)))
/-- arraylength -/
theorem zx_s_alen {pc : Nat} {h : zx_H} (F : zx_Fx p s m args meth c D dA b base X own ini by_ nL) (J : zx_J D dA b base s c0 nL ls (.inr (some h) :: st) μ H locs L)
    (h1 : (zx_kd h.1).1 = 2) (hdg : decode by_ pc = .ok (.arraylength, 1))
    (kk : zx_Kt p l e R s m args below meth c Q D dA b base c0 nL (pc + 1, ls, .inl (Int32.ofNat (zx_kd h.1).2.2) :: st, μ)) : zx_Go p l e R s m args below meth c Q b base c0 H locs L pc (.inr (some h) :: st) μ.2 := by
  obtain ⟨hx, hb, hml, hown, hts, hE, hK, hX, hbb, hbs, hi⟩ := F
  have ho : zx_ok μ.2 h := zx_ok_kd (zx_hd J.2.2.2.2.2.2.2) (by omega)
  have hn := J.2.1.1
  have hat := J.1.get ho
  have hk := kk H locs L (J.st (zx_mem_cons (zx_okv_i _ _) (zx_tl J.2.2.2.2.2.2.2)))
  unfold zx_Go
  show W p l e R s m args below meth c H locs _ _ Q (F0 m pc L (.ref (zx_ad b base h) :: st.map (zx_cv b base)))
  rw [zx_ad_ok hn ho]
  by_cases h2 : (zx_kd h.1).2.1 = 0
  · rw [zx_ce2 h1 h2] at hat
    exact va_alen hx hb hK (zx_P1 hat) 0 0 rfl (zx_tys_at (t := 0) (by omega)) rfl hdg hk
  · rw [zx_ce3 h1 h2] at hat
    exact va_alen hx hb hK (zx_P1 hat) 0 _ rfl (zx_tys_at (zx_kd2 hn ho h1)) rfl hdg hk
/-- aaload -/
theorem zx_s_aald {pc : Nat} {h : zx_H} {i : Int32} (F : zx_Fx p s m args meth c D dA b base X own ini by_ nL) (J : zx_J D dA b base s c0 nL ls (.inl i :: .inr (some h) :: st) μ H locs L)
    (h1 : (zx_kd h.1).1 = 2) (h2 : 0 < (zx_kd h.1).2.1) (h3 : zx_in i (zx_kd h.1).2.2 = true) (hdg : decode by_ pc = .ok (.aaload, 1))
    (kk : zx_Kt p l e R s m args below meth c Q D dA b base c0 nL (pc + 1, ls, μ.1 h i.toNatClampNeg :: st, μ)) : zx_Go p l e R s m args below meth c Q b base c0 H locs L pc (.inl i :: .inr (some h) :: st) μ.2 := by
  obtain ⟨hx, hb, hml, hown, hts, hE, hK, hX, hbb, hbs, hi⟩ := F
  have ho : zx_ok μ.2 h := zx_ok_kd (zx_hd (zx_tl J.2.2.2.2.2.2.2)) (by omega)
  have hn := J.2.1.1
  have hat := J.1.get ho
  rw [zx_ce3 h1 (by omega)] at hat
  have hv := J.2.1.at ho (zx_in_lt h3)
  have hlt := zx_in_lt h3
  have hty := zx_tys_at (dA := dA) (zx_kd2 hn ho h1)
  unfold zx_Go
  show W p l e R s m args below meth c H locs _ _ Q (F0 m pc L (.int i :: .ref (zx_ad b base h) :: st.map (zx_cv b base)))
  rw [zx_ad_ok hn ho]
  have href : (zx_aty (zx_kd h.1).2.1).isReference = true := by
    match hq : (zx_kd h.1).2.1, h2 with
    | 1, _ => rfl
    | k + 2, _ => rfl
  refine W.aald (v := va_rf (zx_vr b base (μ.1 h i.toNatClampNeg))) hx hb ((zx_P1 hat) 0 _ rfl) ((hK.2 _ _ hty).1 _ (fun j => va_rf (zx_vr b base (μ.1 h j)))) href (fun q => by cases q) (by show ¬ (i < 0 ∨ (arrV _ _ _).slots.size ≤ _); rw [arrV_size]; exact zx_in_v h3) (by show (arrV _ _ _).slots[_]? = _; rw [arrV_read _ _ hlt]) rfl rfl hdg ?_
  show W p l e R s m args below meth c H locs _ _ Q (F0 m (pc + 1) L (va_rf (zx_vr b base (μ.1 h i.toNatClampNeg)) :: st.map (zx_cv b base)))
  rw [← zx_cv_r (b := b) (base := base) (by rw [hv.1, zx_ir21 h1 h2])]
  exact zx_s_push J (zx_tl (zx_tl J.2.2.2.2.2.2.2)) (zx_okv_of hv) kk
/-- iastore -/
theorem zx_s_iast {pc : Nat} {h : zx_H} {i x : Int32} (F : zx_Fx p s m args meth c D dA b base X own ini by_ nL) (J : zx_J D dA b base s c0 nL ls (.inl x :: .inl i :: .inr (some h) :: st) μ H locs L)
    (h1 : (zx_kd h.1).1 = 2) (h2 : (zx_kd h.1).2.1 = 0) (h3 : zx_in i (zx_kd h.1).2.2 = true) (hdg : decode by_ pc = .ok (.iastore, 1))
    (kk : zx_Kt p l e R s m args below meth c Q D dA b base c0 nL (pc + 1, ls, st, (zx_wr μ.1 h i.toNatClampNeg (.inl x), μ.2))) : zx_Go p l e R s m args below meth c Q b base c0 H locs L pc (.inl x :: .inl i :: .inr (some h) :: st) μ.2 := by
  obtain ⟨hx, hb, hml, hown, hts, hE, hK, hX, hbb, hbs, hi⟩ := F
  have ho : zx_ok μ.2 h := zx_ok_kd (zx_hd (zx_tl (zx_tl J.2.2.2.2.2.2.2))) (by omega)
  have hn := J.2.1.1
  have hat := J.1.get ho
  rw [zx_ce2 h1 h2] at hat
  have hvk : zx_vk μ.2 (zx_ir h.1 i.toNatClampNeg) (.inl x) := ⟨by rw [zx_ir20 h1 h2]; rfl, fun _ e => by cases e⟩
  unfold zx_Go
  show W p l e R s m args below meth c H locs _ _ Q (F0 m pc L (.int x :: .int i :: .ref (zx_ad b base h) :: st.map (zx_cv b base)))
  rw [zx_ad_ok hn ho]
  refine W.iast hx hb ((zx_P1 hat) 0 _ rfl) ((hK.2 0 _ (zx_tys_at (t := 0) (by omega))).1 _ (fun j => .int (zx_vi (μ.1 h j)))) (fun q => by cases q) (by show ¬ (i < 0 ∨ (arrV _ _ _).slots.size ≤ _); rw [arrV_size]; exact zx_in_v h3) rfl rfl hdg fun H1 e1 z oq => ?_
  refine kk H1 _ L (J.mem ho (J.2.1.wr hvk) i.toNatClampNeg z oq ?_ (fun h' hh => zx_wr_o _ _ _ _ hh) (zx_tl (zx_tl (zx_tl J.2.2.2.2.2.2.2))))
  rw [zx_ce2 h1 h2]
  show H1[_]? = some (vp_cell _ _)
  rw [e1]
  rw [vp_cell_i, vp_cell_i, arrV_store]
  congr 2
  funext q
  rw [zx_wr_h]
  by_cases hq : q = i.toNatClampNeg
  · subst hq
    simp [updV, zx_vi]
  · simp [updV, hq]
/-- aastore -/
theorem zx_s_aast {pc : Nat} {h v : zx_H} {i : Int32} (F : zx_Fx p s m args meth c D dA b base X own ini by_ nL) (J : zx_J D dA b base s c0 nL ls (.inr (some v) :: .inl i :: .inr (some h) :: st) μ H locs L)
    (h1 : (zx_kd h.1).1 = 2) (h2 : 1 < (zx_kd h.1).2.1) (h3 : zx_in i (zx_kd h.1).2.2 = true) (g1 : (zx_kd v.1).1 = 1) (g2 : (zx_kd v.1).2.1 = zx_ac (zx_kd h.1).2.1) (hdg : decode by_ pc = .ok (.aastore, 1))
    (kk : zx_Kt p l e R s m args below meth c Q D dA b base c0 nL (pc + 1, ls, st, (zx_wr μ.1 h i.toNatClampNeg (.inr (some v)), μ.2))) : zx_Go p l e R s m args below meth c Q b base c0 H locs L pc (.inr (some v) :: .inl i :: .inr (some h) :: st) μ.2 := by
  obtain ⟨hx, hb, hml, hown, hts, hE, hK, hX, hbb, hbs, hi⟩ := F
  have ho : zx_ok μ.2 h := zx_ok_kd (zx_hd (zx_tl (zx_tl J.2.2.2.2.2.2.2))) (by omega)
  have hov : zx_ok μ.2 v := zx_ok_kd (zx_hd J.2.2.2.2.2.2.2) (by omega)
  have hn := J.2.1.1
  have hat := J.1.get ho
  rw [zx_ce3 h1 (by omega)] at hat
  have hav := J.1.get hov
  rw [zx_ce1 g1] at hav
  have hvk : zx_vk μ.2 (zx_ir h.1 i.toNatClampNeg) (.inr (some v)) := ⟨by rw [zx_ir21 h1 (by omega)]; rfl, fun _ e => by cases e; exact hov⟩
  obtain ⟨hcv, hNv⟩ := zx_kd1 hn hov g1
  have hclv := zx_cs_at _ hcv
  obtain ⟨r', hr', cellV, c1, c2, c3, -⟩ := hav
  have hcls := (hK.1 _ _ hclv).2
  have hty := zx_tys_at (dA := dA) (zx_kd2 hn ho h1)
  have hao : zx_aty (zx_kd h.1).2.1 = .object (zx_R (zx_kd v.1).2.1) := by
    rw [g2]
    match hq : (zx_kd h.1).2.1, h2 with
    | k + 2, _ => rfl
  have hK2 := hK.2 _ _ hty
  rw [hao] at hK2
  obtain ⟨hA0, kA, comp, k1, k2, k3, -⟩ := hK2
  have hcomp : comp = D.1 (zx_kd v.1).2.1 := Option.some.inj (k3.symm.trans hcls.1)
  subst hcomp
  obtain ⟨kC, hkC, -⟩ := id hcls.2
  unfold zx_Go
  show W p l e R s m args below meth c H locs _ _ Q (F0 m pc L (.ref (zx_ad b base v) :: .int i :: .ref (zx_ad b base h) :: st.map (zx_cv b base)))
  rw [zx_ad_ok hn ho, zx_ad_ok hn hov]
  have hiv := zx_in_v h3
  refine W.aast hx hb ((zx_P1 hat) 0 _ rfl) (fun q h => by cases h) (fun h => by cases h) k1 k2 rfl hkC ⟨fun q => hiv (Or.inl q), by show _ < (arrV _ _ _).slots.size; rw [arrV_size]; exact zx_in_lt h3⟩ c1 (fun q h => by rw [c3] at h; cases h) (by rw [c2]; exact hkC) (by rw [c2]; exact va_assign hcls) rfl rfl hdg fun H1 e1 z oq => ?_
  refine kk H1 _ L (J.mem ho (J.2.1.wr hvk) i.toNatClampNeg z oq ?_ (fun h' hh => zx_wr_o _ _ _ _ hh) (zx_tl (zx_tl (zx_tl J.2.2.2.2.2.2.2))))
  rw [zx_ce3 h1 (by omega)]
  show H1[_]? = some (vp_cell _ _)
  rw [e1]
  rw [vp_cell_q, vp_cell_q, arrV_store]
  congr 2
  funext q
  rw [zx_wr_h]
  by_cases hq : q = i.toNatClampNeg
  · subst hq
    simp [updV, zx_vr, va_rf, zx_ad_ok hn hov]
  · simp [updV, hq]
end ZX
