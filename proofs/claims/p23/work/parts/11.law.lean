/-! THE CLAIM OUT OF ONE WALK OF THE LAW'S BODY. Your part is whole_start (and what it stands on); all else here is the same for every law, but numbers. -/
def R_law : String := "LineDispatcherLaw"
def lw_P (b : Addr) (xs : List Int32) (args : Array Value) (s : State) : Prop := args = #[.ref b] ∧ s.IntsAt b xs ∧ xs.length ≤ 3584 ∧ (Jvm.Cond.and given_1 narrow_1).before args s = true
def lw_Q (_ : Array Value) (s : State) (o : Outcome) (t : State) : Prop := o = .returned (some (.int 1)) ∧ Framed s o t [] 600000 7302250
def lw_Z (below : List Frame) (a : Array Value) (s : State) : State → Prop := fun t => ∃ o, t.status = .running ∧ Ended t below o ∧ lw_Q a s o t
/-- the law's own end, with 1 on the stack, nothing written that was there before, its room as the claim has it -/
theorem lw_ret {p : Program} {l : Launch} {e : Env} {s : State} {m : MethodId} {below : List Frame} {meth : Method} {c : Code} {b : Nat} (hx : p.tables.exec = Jvm.exec) (hb : c.code = code) (hr : meth.sig.returnType = ret) (hlocks : meth.locks = false) {pc : Nat} {H : Heap} {ls : Array Slot} (hdg : decode code pc = .ok (.ireturn, 1)) : W p l e room_1 s m #[Value.ref b] below meth c H [] 600000 7302250 (lw_Z below #[Value.ref b] s) (F0 m pc ls [.int 1]) := by
  intro T hT X
  obtain ⟨fs, hret, hrun, hended, hW, hframe⟩ := X.leave (v := some (.int 1)) (hlocks := hlocks) (fun h => by rw [hr] at h; cases h)
  have hmeth' : T.vm.method? m = some meth := X.method'
  refine ⟨T.setFrames fs, ?_, .returned (some (.int 1)), hrun, hended, rfl, ⟨_, rfl⟩, hW, hframe⟩
  jvm_step X.here [X.here.top, hx, hb, hdg, hmeth', hr, ret, narrow_b1]
  (try refine ⟨rfl, ?_⟩); (try refine ⟨rfl, ?_⟩)
  first | (intro acts; rw [hret _ acts rfl rfl rfl]) | rw [hret _ _ rfl rfl rfl]
  exact Steps.refl _
/-- what holds at the law's entry: the machine, the code, the tables' words (any of lw_tbl by 'hts w (by decide +kernel)'), the script of L ints xs at the cell b, what the Statement gives of the start (any of its parts by flat_of_before) -/
def lw_At (p : Program) (s : State) (m : MethodId) (meth : Method) (c : Code) (b L : Nat) (xs : Nat → Int32) : Prop :=
  p.tables.exec = Jvm.exec ∧ c.code = code ∧ meth.sig.returnType = ret ∧ c.maxLocals = 4 ∧ s.vm.findClass R_law = some m.cls ∧ (∀ w ∈ lw_tbl, w.before #[Value.ref b] s = true) ∧ va_X b L xs s s.heap ∧ b < s.heap.size ∧ meth.locks = false ∧ (Jvm.Cond.and given_1 narrow_1).before #[Value.ref b] s = true
/-! the law's own code by the interpreter -/
theorem zx_law_gd : zc_L_law.all (fun e => zx_gb R_law false code e) = true := by decide +kernel
theorem zx_lw_in {w : Cond} (h : w ∈ zx_U) : w ∈ lw_tbl := (List.mem_filter.mp h).1
theorem zx_ex_in : ∀ w ∈ zx_ex_w, ∃ (k i : Nat), (zx_tab k)[i]? = some w := by
  have h : zx_ex_w.all (fun w => (List.range 7).any (fun k => (zx_tab k).any (fun c => decide (c = w)))) = true := by decide +kernel
  intro w hw
  have h1 := List.all_eq_true.mp h w hw
  obtain ⟨k, -, hk⟩ := List.any_eq_true.mp h1
  obtain ⟨c, hc, e⟩ := List.any_eq_true.mp hk
  have e := of_decide_eq_true e
  subst e
  obtain ⟨i, hi⟩ := List.getElem?_of_mem hc
  exact ⟨k, i, hi⟩
theorem zx_ins (a : Nat) (ha : a < 12) : Cond.instantiable (zx_R a) (zx_cs a).2.2 ∈ lw_tbl := by
  have h : ∀ a, a < 12 → (List.range 7).any (fun k => (zx_tab k).any (fun c => decide (c = Cond.instantiable (zx_R a) (zx_cs a).2.2))) = true := by decide +kernel
  obtain ⟨k, -, hk⟩ := List.any_eq_true.mp (h a ha)
  obtain ⟨c, hc, e⟩ := List.any_eq_true.mp hk
  have e := of_decide_eq_true e
  subst e
  exact zx_tab_in k _ hc
theorem zx_ac_in : Cond.arrayClass .int ∈ lw_tbl := by
  have h : (List.range 7).any (fun k => (zx_tab k).any (fun c => decide (c = Cond.arrayClass .int))) = true := by decide +kernel
  obtain ⟨k, -, hk⟩ := List.any_eq_true.mp h
  obtain ⟨c, hc, e⟩ := List.any_eq_true.mp hk
  have e := of_decide_eq_true e
  subst e
  exact zx_tab_in k _ hc
theorem zx_arr_of {s : State} {cA : ClassId} {kA : Class} {comp : ClassId} {ty : FieldType} (h2 : s.vm.classes[cA]? = some kA) (h3 : kA.kind = .array comp ty) : ArrOfT s cA ty := fun n z => ⟨fun k h => (by cases h), kA, h2, comp, h3⟩
theorem zx_known {s : State} {args : Array Value} (hts : ∀ w ∈ lw_tbl, w.before args s = true) : ∃ (D : va_G) (dA : Nat → ClassId), va_K D vwCl (zx_tys dA) s := by
  have hU : ∀ w ∈ zx_U, w.before args s = true := fun w hw => hts w (zx_lw_in hw)
  have h1 : ∀ a : Nat, ∃ (cC : ClassId) (iS : Nat → Nat), a < 12 → u_Kn s (zx_R a) (zx_T a) (zx_cs a).2.2 cC iS := fun a => by
    by_cases ha : a < 12
    · obtain ⟨cC, iS, h⟩ := u_known (C := zx_R a) (T := zx_T a) (N := (zx_cs a).2.2) hU (zx_lay_in a ha) (hts _ (zx_ins a ha))
      exact ⟨cC, iS, fun _ => h⟩
    · exact ⟨0, fun _ => 0, fun h => absurd h ha⟩
  have hE : zx_Es s := fun w hw => by
    obtain ⟨k, i, hi⟩ := zx_ex_in w hw
    have hb := hts w (zx_tab_in k w (List.mem_of_getElem? hi))
    have hg := zx_exg_all w hw
    unfold zx_exg at hg
    split at hg
    · exact va_Nw.of rfl hb
    · exact va_AO.of hb
    · exact hb
    · cases hg
  have h2 : ∀ t : Nat, ∃ cA : ClassId, t < 7 → ArrOfT s cA (zx_aty t) ∧ va_RA s cA (zx_aty t) := fun t => by
    by_cases ht : t < 7
    · match t, ht with
      | 0, _ =>
        obtain ⟨cA, kA, comp, g1, g2, g3⟩ := Cond.arrayClass_spec (hts _ zx_ac_in)
        exact ⟨cA, fun _ => ⟨zx_arr_of g2 g3, g1⟩⟩
      | 1, _ =>
        obtain ⟨comp, cA, k, g1, g2, g3, g4, g5⟩ := arrayOverA_spec (idx := []) (args := #[]) (first := s) (o := none) (show va_Nw (.arrayOver (.array .int)) s from hE _ (by decide +kernel))
        exact ⟨cA, fun _ => ⟨zx_arr_of g3 g4, g5⟩⟩
      | t + 2, ht =>
        obtain ⟨comp, cA, k, g1, g2, g3, g4, g5⟩ := Cond.arrayOver_spec (zx_Es_ao hE (t + 2) ⟨by omega, ht⟩)
        exact ⟨cA, fun _ => ⟨zx_arr_of g3 g4, k, comp, g3, g4, g1, g5⟩⟩
    · exact ⟨0, fun h => absurd h ht⟩
  refine ⟨(fun a => Classical.choose (h1 a), fun a => Classical.choose (Classical.choose_spec (h1 a))), fun t => Classical.choose (h2 t), ⟨fun a q hq => ?_, fun t q hq => ?_⟩⟩
  · have ha : a < 12 := (List.getElem?_eq_some_iff.mp hq).1
    rw [zx_cs_at a ha] at hq
    cases hq
    exact Classical.choose_spec (Classical.choose_spec (h1 a)) ha
  · have ht : t < 7 := by
      have := (List.getElem?_eq_some_iff.mp hq).1
      unfold zx_tys at this
      rw [List.length_map, List.length_range] at this
      exact this
    rw [zx_tys_at ht] at hq
    cases hq
    exact Classical.choose_spec (h2 t) ht
theorem zx_extra {s : State} {args : Array Value} (hts : ∀ w ∈ lw_tbl, w.before args s = true) : zx_Es s := fun w hw => by
  obtain ⟨k, i, hi⟩ := zx_ex_in w hw
  have hb := hts w (zx_tab_in k w (List.mem_of_getElem? hi))
  have hg := zx_exg_all w hw
  unfold zx_exg at hg
  split at hg
  · exact va_Nw.of rfl hb
  · exact va_AO.of hb
  · exact hb
  · cases hg
/-- a run of the law by the interpreter, over nothing, that answers 1 -/
def zx_Law (X : zx_X) : Prop := ∃ (n : Nat) (μ : zx_M), μ.2 ≤ 308 ∧ zx_ex X (zx_run X 11) zc_L_law n (0, zx_en 4 [.inr (some (33, 0, 0, 0))], [], (fun _ _ => .inl 0, 0)) (some (.inl 1), μ)
theorem zx_ss308 : zx_ss 308 ≤ 10000 := by decide +kernel
set_option maxHeartbeats 4000000 in
theorem zx_law_walk {p : Program} {e : Env} {s : State} {m : MethodId} {below : List Frame} {meth : Method} {c : Code} (l : Launch) {b L : Nat} {xs : Nat → Int32} (C0 : lw_At p s m meth c b L xs) (hrun : zx_Law (L, xs)) :
    W p l e room_1 s m #[Value.ref b] below meth c s.heap [] 0 0 (lw_Z below #[Value.ref b] s) (entryFrame m ([Value.ref b] : List Value).toArray 4) := by
  obtain ⟨hx, hb, hr, hml, hown, hts, hX, hbl, hlocks, hgv⟩ := id C0
  obtain ⟨D, dA, hK⟩ := zx_known hts
  obtain ⟨n, μ, hμ, hex⟩ := hrun
  have hv : ([.inr (some (33, 0, 0, 0))] : List zx_V).map (zx_cv b s.heap.size) = [Value.ref b] := rfl
  obtain ⟨Lo, hent, hlc⟩ := zx_entry (b := b) (base := s.heap.size) (m := m) (as := [.inr (some (33, 0, 0, 0))]) (ml := 4) (by decide)
  rw [hv] at hent
  rw [hent]
  have hok : ∀ v ∈ ([.inr (some (33, 0, 0, 0))] : List zx_V), zx_okv 0 v := fun v hv => by
    rw [List.mem_singleton.mp hv]
    intro h e
    cases e
    exact Or.inr rfl
  have F : zx_Fx p s m #[Value.ref b] meth c D dA b s.heap.size (L, xs) R_law false code 4 := ⟨hx, hb, hml, hown, fun w hw => hts w (zx_lw_in hw), zx_extra hts, hK, hX, hbl, Nat.le_refl _, fun h => by cases h⟩
  have hss := zx_ss_mono hμ
  have hss2 := zx_ss308
  have key := zx_ex_ok (l := l) (e := e) (R := room_1) (below := below) (c0 := 0) (r := (some (.inl 1), μ)) (Q := lw_Z below #[Value.ref b] s) F (fun e he => List.all_eq_true.mp zx_law_gd e he) (zx_met (L, xs) l 11) (by decide) (by decide) (by show μ.2 - 0 ≤ 600000; omega) (by show zx_ss μ.2 - zx_ss 0 ≤ 7302250; omega) ?_ n _ hex
  · have hk := key s.heap [] Lo ⟨⟨rfl, fun k hk => absurd hk (Nat.not_lt_zero _)⟩, ⟨Nat.zero_le _, fun k hk => absurd hk (Nat.not_lt_zero _)⟩, Nat.le_refl _, fun _ _ => rfl, (fun _ h => absurd h List.not_mem_nil), hlc, zx_en_ok hok, (fun _ h => absurd h List.not_mem_nil)⟩
    exact hk
  · intro i pc fa fb fc t ls st ν H locs L2 he hrt J
    obtain ⟨e1, e2⟩ := zx_rt_mem hrt
    have e1 : μ = ν := e1
    subst e1
    have e2 : st = [.inl 1] := e2
    subst e2
    have g1 := List.all_eq_true.mp zx_law_gd _ he
    unfold zx_Go
    cases i <;> first | exact zx_no hrt | skip
    case ireturn =>
      simp only [zx_gb, decide_eq_true_eq] at g1
      refine va_forget (fun q hq => J.2.2.2.2.1 q hq) ?_
      refine W.widen (k := 600000) (n := 7302250) (by omega) (by omega) ?_
      exact lw_ret hx hb hr hlocks g1
