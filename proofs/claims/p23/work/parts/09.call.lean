/-! calls, whole methods: what the interpreter's run says is the machine's contract -/
def zx_run (X : zx_X) : Nat → Nat → List zx_V → zx_M → zx_O → Prop
  | 0 => fun _ _ _ _ => False
  | d + 1 => fun y as μ r => ∃ n, zx_ex X (zx_run X d) (zx_cd y) n (0, zx_en (zx_ml y) as, [], μ) r
def zx_ws (y : Nat) : List Cond := .code (zx_nm y) (zx_by y) (zx_ml y) (zx_ty y) :: zx_U
def zx_rm (d : Nat) (μ : zx_M) (r : zx_O) : Room := { frames := d, cells := r.2.2 - μ.2, slots := zx_ss r.2.2 - zx_ss μ.2, locals := 36 * d }
def zx_Pc (D : va_G) (dA : Nat → ClassId) (b base : Nat) (X : zx_X) (as : List zx_V) (μ : zx_M) : Array Value → State → Prop := fun v U =>
  v = (as.map (zx_cv b base)).toArray ∧ zx_Rep D dA b base μ U.heap ∧ zx_Gd μ ∧ va_K D vwCl (zx_tys dA) U ∧ zx_Es U ∧ va_X b X.1 X.2 U U.heap ∧ b < base ∧ ∀ v ∈ as, zx_okv μ.2 v
def zx_Qc (D : va_G) (dA : Nat → ClassId) (b base : Nat) (r : zx_O) : Array Value → State → Outcome → State → Prop := fun _ st o t =>
  o = .returned (r.1.map (zx_cv b base)) ∧ zx_Rep D dA b base r.2 t.heap ∧ zx_Gd r.2 ∧ (∀ q, q < base → t.heap[q]? = st.heap[q]?) ∧ ∀ v, r.1 = some v → zx_okv r.2.2 v
def zx_MetOk (X : zx_X) (l : Launch) (d : Nat) : Prop := ∀ (y : Nat) (as : List zx_V) (μ : zx_M) (r : zx_O), zx_run X d y as μ r → as.length = zx_np y → ∀ (D : va_G) (dA : Nat → ClassId) (b base : Nat),
  Met l (zx_nm y) (zx_ws y) (zx_rm d μ r) (zx_Pc D dA b base X as μ) (zx_Qc D dA b base r) (r.2.2 - μ.2) (zx_ss r.2.2 - zx_ss μ.2) (fun q => base ≤ q)
theorem zx_GU {ws : List Cond} (h : ∀ w ∈ ws, w ∈ zx_U) : GoodIn zx_U ws := fun w hw => ⟨h w hw, good_of_word (List.mem_filter.mp (h w hw)).2⟩
/-- the words that the tables alone don't say stay over what the machine warms -/
theorem zx_AOA_moved {t : FieldType} {u U : State} (hvm : u.vm.Alike U.vm) (h : va_Nw (.arrayOver (.array t)) u) : va_Nw (.arrayOver (.array t)) U := by
  obtain ⟨comp, c, k, h1, h2, h3, h4, h5⟩ := arrayOverA_spec (idx := []) (args := #[]) (first := u) (o := none) h
  obtain ⟨k', hk', he⟩ := hvm.2.2 _ _ h3
  have hi : (U.vm.classes.findIdx? fun (x : Class) => match x.kind with | .array component _ => component == comp | _ => false) = some c := by
    have e1 := va_idx_bare U.vm comp
    have e2 := va_idx_bare u.vm comp
    first | rw [hvm.bare_eq] at e2 | rw [← hvm.bare_eq] at e2
    exact e1.symm.trans (e2.trans h2)
  have hkind : k'.kind = .array comp (.array t) := by rw [he]; exact h4
  have f1 : U.vm.findClass (FieldType.array t).toString = some comp := by rw [hvm.findClass]; exact h1
  have f2 : U.vm.findClass ("[" ++ (FieldType.array t).toString) = some c := by rw [hvm.findClass]; exact h5
  unfold va_Nw Cond.before Cond.holds
  simp only [Cond.value]
  rw [f1, Option.bind_some]
  refine (congrArg (fun o : Option Nat => (o.bind (fun c => (U.vm.classes[c]?).map fun (k : Class) => match k.kind with | .array _ ty => decide (ty = FieldType.array t) && decide (U.vm.findClass ("[" ++ (FieldType.array t).toString) = some c) | _ => false) == some true)) hi).trans ?_
  simp [hk', hkind, f2]
def zx_exg : Cond → Bool
  | .methodLinkNest .. => true
  | .arrayOver (.object _) => true
  | .arrayOver (.array _) => true
  | _ => false
theorem zx_exg_all : ∀ w ∈ zx_ex_w, zx_exg w = true := by decide +kernel
theorem zx_Es.warm {u U : State} (hW : u.WarmedH U.vm) (h : zx_Es u) : zx_Es U := by
  intro w hw
  have hu := h w hw
  have hg := zx_exg_all w hw
  unfold zx_exg at hg
  split at hg
  · exact va_Nw.warmM hW hu
  · exact va_AO.moved hW.alike hu
  · exact zx_AOA_moved hW.alike hu
  · cases hg
theorem zx_Es.same {u U : State} (hv : u.vm = U.vm) (h : zx_Es u) : zx_Es U := by
  intro w hw
  have hu := h w hw
  have hg := zx_exg_all w hw
  unfold zx_exg at hg
  split at hg
  · exact va_Nw.same rfl hv hu
  · exact va_AO.moved (hv ▸ Vm.Alike.refl _) hu
  · exact zx_AOA_moved (hv ▸ Vm.Alike.refl _) hu
  · cases hg
theorem zx_Pc_blind (D : va_G) (dA : Nat → ClassId) (b base : Nat) (X : zx_X) (as : List zx_V) (μ : zx_M) : FrameBlind (zx_Pc D dA b base X as μ) := fun a U g mk h =>
  ⟨h.1, h.2.1, h.2.2.1, va_K.moved (u := U) (U := U.calling g mk a) (Vm.Alike.refl U.vm) h.2.2.2.1, zx_Es.same (u := U) (U := U.calling g mk a) rfl h.2.2.2.2.1, va_X.moved (u := U) (U := U.calling g mk a) (Vm.Alike.refl U.vm) h.2.2.2.2.2.1, h.2.2.2.2.2.2⟩
set_option maxHeartbeats 4000000 in
theorem zx_do_mono {X : zx_X} {i : Instr} {pc fa fb : Nat} {fc : Int32} {t : List Nat} {ls : zx_L} {st : List zx_V} {μ : zx_M} {z : zx_S} (h : zx_do X i pc fa fb fc t ls st μ = some z) : μ.2 ≤ z.2.2.2.2 := by
  unfold zx_do at h
  (repeat' split at h) <;> first | exact zx_no h | (obtain rfl := zx_sm h; first | exact Nat.le_refl _ | exact Nat.le_add_right _ _ | (dsimp only; omega) | (split <;> exact Nat.le_refl _))
theorem zx_rt_mem {i : Instr} {fc : Int32} {st : List zx_V} {μ : zx_M} {r : zx_O} (h : zx_rt i fc st μ = some r) : r.2 = μ ∧ st = r.1.toList := by
  unfold zx_rt at h
  (repeat' split at h) <;> first | exact zx_no h | (obtain rfl := zx_sm h; exact ⟨rfl, rfl⟩)
theorem zx_ex_mono {X : zx_X} {R : Nat → List zx_V → zx_M → zx_O → Prop} {code : List zx_I} (hR : ∀ y as μ r, R y as μ r → μ.2 ≤ r.2.2) : ∀ (n : Nat) (z : zx_S) (r : zx_O), zx_ex X R code n z r → z.2.2.2.2 ≤ r.2.2
  | 0, _, _, h => absurd h id
  | n + 1, (pc, ls, st, μ), r, h => by
    rcases h with ⟨ν, he, h⟩ | h
    · exact Nat.le_trans (Nat.le_of_eq he.1) (zx_ex_mono hR n _ r h)
    obtain ⟨i, a, b, c, t, hat, h | h | h⟩ := h
    · obtain ⟨z', h1, h2⟩ := h
      exact Nat.le_trans (zx_do_mono h1) (zx_ex_mono hR n z' r h2)
    · rw [(zx_rt_mem h).1]
      exact Nat.le_refl _
    · obtain ⟨y, as, rest, v, μ', h1, h2, h3⟩ := h
      exact Nat.le_trans (hR _ _ _ _ h2) (zx_ex_mono hR n _ r h3)
theorem zx_run_mono (X : zx_X) : ∀ (d y : Nat) (as : List zx_V) (μ : zx_M) (r : zx_O), zx_run X d y as μ r → μ.2 ≤ r.2.2
  | 0, _, _, _, _, h => absurd h id
  | d + 1, y, as, μ, r, h => by
    obtain ⟨n, h⟩ := h
    exact zx_ex_mono (zx_run_mono X d) n _ r h
theorem zx_at_mem {code : List zx_I} {pc : Nat} {e : zx_I} (h : zx_at code pc = some e) : e ∈ code := List.mem_of_find?_eq_some h
section ZC
variable {p : Program} {l : Launch} {e : Env} {R : Room} {s : State} {m : MethodId} {args : Array Value} {below : List Frame} {meth : Method} {c : Code} {H : Heap} {locs : List Loc} {Q : State → Prop}
variable {D : va_G} {dA : Nat → ClassId} {b base c0 nL : Nat} {X : zx_X} {own : String} {ini : Bool} {by_ : ByteArray} {ls : zx_L} {st : List zx_V} {μ : zx_M} {L : Array Slot}
/-- behind a call -/
theorem zx_call_go {pc : Nat} {stk : List Value} {rest : List zx_V} {r : zx_O} {a : Array Value} (J : zx_J D dA b base s c0 nL ls st μ H locs L) (hm : μ.2 ≤ r.2.2) (hrest : ∀ v ∈ rest, zx_okv μ.2 v)
    (hr : CallRun p l e R s m args below meth c H locs (μ.2 - c0) (zx_ss μ.2 - zx_ss c0) (r.2.2 - μ.2) (zx_ss r.2.2 - zx_ss μ.2) (F0 m pc L stk) (rest.map (zx_cv b base)) (zx_Qc D dA b base r a) (fun q => base ≤ q))
    (kk : zx_Kt p l e R s m args below meth c Q D dA b base c0 nL (pc + 3, ls, r.1.toList ++ rest, r.2)) : W p l e R s m args below meth c H locs (μ.2 - c0) (zx_ss μ.2 - zx_ss c0) Q (F0 m pc L stk) := by
  intro T hT Xs
  obtain ⟨v, st₀, t, T', Lc, h0, X', hL, e1, ⟨hv, hRep, hGd, hlow, hok⟩, hst⟩ := hr T hT Xs
  have hv := Outcome.returned.inj hv
  subst hv
  have h1 := J.2.2.1
  have h2 := zx_ss_mono J.2.2.1
  have h3 := zx_ss_mono hm
  have hJ : zx_J D dA b base s c0 nL ls (r.1.toList ++ rest) r.2 T'.heap (locs ++ Lc) L := by
    refine ⟨by rw [e1]; exact hRep, hGd, Nat.le_trans h1 hm, fun q hq => by rw [e1, hlow q hq, h0]; exact J.2.2.2.1 q hq, fun z hz => ?_, J.2.2.2.2.2.1, fun w hw => zx_okv_up (J.2.2.2.2.2.2.1 w hw) hm, fun w hw => ?_⟩
    · rcases List.mem_append.mp hz with q | q
      · exact J.2.2.2.2.1 z q
      · exact hL z q
    · rcases List.mem_append.mp hw with q | q
      · exact hok w (Option.mem_toList.mp q)
      · exact zx_okv_up (hrest w q) hm
  have hk := kk T'.heap (locs ++ Lc) L hJ
  unfold zx_Go at hk
  have hk2 : W p l e R s m args below meth c T'.heap (locs ++ Lc) (μ.2 - c0 + (r.2.2 - μ.2)) (zx_ss μ.2 - zx_ss c0 + (zx_ss r.2.2 - zx_ss μ.2)) Q (F0 m (pc + 3) L ((r.1.toList ++ rest).map (zx_cv b base))) := W.cs (by dsimp only; omega) (by dsimp only; omega) hk
  obtain ⟨t2, a1, b1⟩ := hk2 T' rfl X'
  refine ⟨t2, hst t2 ?_, b1⟩
  have e9 : (r.1.toList ++ rest).map (zx_cv b base) = (r.1.map (zx_cv b base)).toList ++ rest.map (zx_cv b base) := by
    rw [List.map_append]
    cases r.1 <;> rfl
  rw [e9] at a1
  exact a1
theorem zx_pre {as : List zx_V} (F : zx_Fx p s m args meth c D dA b base X own ini by_ nL) (J : zx_J D dA b base s c0 nL ls st μ H locs L) (has : ∀ v ∈ as, zx_okv μ.2 v) : ∀ U : State, U.heap = H → s.WarmedH U.vm → zx_Pc D dA b base X as μ (as.map (zx_cv b base)).toArray U := by
  obtain ⟨hx, hb, hml, hown, hts, hE, hK, hX, hbb, hbs, hi⟩ := F
  intro U hU hW
  refine ⟨rfl, by rw [hU]; exact J.1, J.2.1, va_K.moved hW.alike hK, zx_Es.warm hW hE, ?_, hbb, has⟩
  refine (va_X.moved hW.alike hX).kept ?_
  rw [hU]
  exact J.2.2.2.1 b hbb
theorem zx_mb_all {y : Nat} (hy : y < 201) : zx_mb y = true ∧ ∀ e ∈ zx_cd y, zx_gb (zx_nm y).cls (decide ((zx_nm y).name = "<init>")) (zx_by y) e = true ∧ zx_rb (zx_ty y) e = true := by
  have h := zx_gy_all y hy
  unfold zx_gy at h
  simp only [Bool.and_eq_true, List.all_eq_true] at h
  exact h
/-- a call by the interpreter is one by the machine -/
theorem zx_call_ok {i : Instr} {pc fa fb y : Nat} {fc : Int32} {t : List Nat} {as rest : List zx_V} {r : zx_O} {d : Nat} (F : zx_Fx p s m args meth c D dA b base X own ini by_ nL) (G : zx_gb own ini by_ (pc, i, fa, fb, fc, t) = true) (J : zx_J D dA b base s c0 nL ls st μ H locs L)
    (h : zx_iv i fa fb t st = some (y, as, rest)) (hM : zx_MetOk X l d) (hrun : zx_run X d y as μ r) (hfr : d + 1 ≤ R.frames) (hlo : 36 * d + 31 ≤ R.locals) (hrc : r.2.2 - c0 ≤ R.cells) (hrs : zx_ss r.2.2 - zx_ss c0 ≤ R.slots)
    (kk : zx_Kt p l e R s m args below meth c Q D dA b base c0 nL (pc + 3, ls, r.1.toList ++ rest, r.2)) : zx_Go p l e R s m args below meth c Q b base c0 H locs L pc st μ.2 := by
  have hst := J.2.2.2.2.2.2.2
  have hlh := J.2.2.2.2.2.1.2
  have hm := zx_run_mono X d y as μ r hrun
  have h1 := J.2.2.1
  have h2 := zx_ss_mono J.2.2.1
  have h3 := zx_ss_mono hm
  have F0' := F
  obtain ⟨hx, hb, hml, hown, hts, hE, hK, hX, hbb, hbs, hi⟩ := F
  have hroom : ∀ ml, ml ≤ 12 → d + 1 ≤ R.frames ∧ 8 + (ml + 11) + 36 * d ≤ R.locals := fun ml h => ⟨hfr, by omega⟩
  have hff : μ.2 - c0 + (r.2.2 - μ.2) ≤ R.cells ∧ zx_ss μ.2 - zx_ss c0 + (zx_ss r.2.2 - zx_ss μ.2) ≤ R.slots := ⟨by omega, by omega⟩
  unfold zx_Go
  cases i <;> first | exact zx_no h | skip
  case invokestatic k =>
    unfold zx_iv at h
    dsimp only at h
    split at h
    · exact zx_no h
    · rename_i hc
      have h := zx_sm h
      simp only [Prod.mk.injEq] at h
      obtain ⟨rfl, rfl, rfl⟩ := h
      simp only [Bool.or_eq_false_iff] at hc
      have c1 : y < 900 := Nat.lt_of_not_le fun q => by rw [Nat.ble_eq_true_of_le q] at hc; exact absurd hc.1.1 (by decide)
      have c2 : fb ≤ st.length := Nat.le_of_not_lt fun q => by have := Nat.ble_eq_true_of_le (show st.length + 1 ≤ fb by omega); rw [this] at hc; exact absurd hc.1.2 (by decide)
      have c3 : st.length ≤ fb + 8 := Nat.le_of_not_lt fun q => by have := Nat.ble_eq_true_of_le (show fb + 9 ≤ st.length by omega); rw [this] at hc; exact absurd hc.2 (by decide)
      simp only [zx_gb, Bool.and_eq_true, decide_eq_true_eq, if_neg (show ¬ y = 901 by omega), if_neg (show ¬ y = 902 by omega), if_neg (show ¬ y = 903 by omega)] at G
      obtain ⟨g0, ⟨⟨⟨⟨⟨g1, g2⟩, g3⟩, g4⟩, g5⟩, g6⟩, g7⟩ := G
      have hmb := (zx_mb_all g1).1
      simp only [zx_mb, Bool.and_eq_true, decide_eq_true_eq] at hmb
      obtain ⟨⟨⟨⟨⟨⟨m1, m2⟩, m3⟩, m4⟩, m5⟩, m6⟩, m7⟩ := hmb
      have hlen : ((st.take fb).reverse).length = zx_np y := by rw [List.length_reverse, List.length_take, ← g5]; omega
      have hMM := hM y _ μ r hrun hlen D dA b base
      have has : ∀ v ∈ (st.take fb).reverse, zx_okv μ.2 v := fun v hv => hst v (List.mem_of_mem_take (List.mem_reverse.mp hv))
      refine zx_call_go (a := (((st.take fb).reverse).map (zx_cv b base)).toArray) J hm (fun v hv => hst v (List.mem_of_mem_drop hv)) ?_ kk
      exact W.runS (As := ((st.take fb).reverse).map (zx_cv b base)) ⟨hx, hb, hml, hown, hts⟩ hMM (cwS fb hts (zx_GU (by
          intro w hw
          unfold wsS zx_ws at hw
          simp only [List.cons_append, List.nil_append, List.mem_cons] at hw
          rcases hw with rfl | rfl | rfl | rfl | hw
          · exact zx_wd_in g2
          · exact zx_wd_in g3
          · rw [← g7]; exact zx_wd_in g4
          · exact zx_wd_in m2
          · exact hw)) rfl rfl rfl ⟨g7, m3.1, m3.2, g6⟩ (hroom _ m4)) ⟨zx_Pc_blind _ _ _ _ _ _ _, zx_pre F0' J has⟩ rfl (by rw [List.length_map, hlen, g5]) hlh.1 (by
          show st.map (zx_cv b base) = _
          rw [← List.map_reverse, List.reverse_reverse, ← List.map_append, List.take_append_drop]) (by
          show 2 * 0 + _ ≤ 8
          rw [zx_cats, List.length_drop]
          omega) g0 hff
  case invokevirtual k =>
    unfold zx_iv at h
    dsimp only at h
    split at h
    · rename_i hd rst hdr
      split at h
      · rename_i hc
        have h := zx_sm h
        simp only [Prod.mk.injEq] at h
        obtain ⟨rfl, rfl, rfl⟩ := h
        simp only [Bool.and_eq_true] at hc
        have c1 := Nat.eq_of_beq_eq_true hc.1.1
        have c2 := Nat.eq_of_beq_eq_true hc.1.2
        have c3 := Nat.le_of_ble_eq_true hc.2
        simp only [zx_gb, Bool.and_eq_true, decide_eq_true_eq] at G
        obtain ⟨⟨⟨⟨⟨⟨⟨⟨⟨g0, g1⟩, g2⟩, g3⟩, g4⟩, g5⟩, g6⟩, g7⟩, g8⟩, g9⟩ := G
        have hmb := (zx_mb_all g1).1
        simp only [zx_mb, Bool.and_eq_true, decide_eq_true_eq] at hmb
        obtain ⟨⟨⟨⟨⟨⟨m1, m2⟩, m3⟩, m4⟩, m5⟩, m6⟩, m7⟩ := hmb
        have hstd : st = st.take fb ++ .inr (some hd) :: rest := by rw [← hdr, List.take_append_drop]
        have hfb : fb ≤ st.length := by
          rcases Nat.lt_or_ge st.length fb with q | q
          · rw [List.drop_eq_nil_of_le (by omega)] at hdr
            cases hdr
          · exact q
        have hlen : (Sum.inr (some hd) :: (st.take fb).reverse : List zx_V).length = zx_np y := by rw [List.length_cons, List.length_reverse, List.length_take, ← g8]; omega
        have hMM := hM y _ μ r hrun hlen D dA b base
        have hokh : zx_okv μ.2 (.inr (some hd)) := hst _ (by rw [hstd]; exact List.mem_append_right _ List.mem_cons_self)
        have has : ∀ v ∈ (Sum.inr (some hd) :: (st.take fb).reverse : List zx_V), zx_okv μ.2 v := zx_mem_cons hokh fun v hv => hst v (List.mem_of_mem_take (List.mem_reverse.mp hv))
        have hrest : ∀ v ∈ rest, zx_okv μ.2 v := fun v hv => hst v (by rw [hstd]; exact List.mem_append_right _ (List.mem_cons_of_mem _ hv))
        have ho := zx_ok_kd hokh (by omega)
        have hat := J.1.get ho
        rw [zx_ce1 c1] at hat
        have hrv := va_recv hK (zx_P1 hat) (q0 := 0) (ci := (zx_kd hd.1).2.1) (q := (zx_R (t.headD 0), zx_T (t.headD 0), (zx_cs (t.headD 0)).2.2)) (by rw [c2]; exact zx_cs_at _ g6) rfl
        rw [← zx_ad_ok J.2.1.1 ho] at hrv
        refine zx_call_go (a := (Value.ref (zx_ad b base hd) :: ((st.take fb).reverse).map (zx_cv b base)).toArray) J hm hrest ?_ kk
        exact W.runV (C := zx_R (t.headD 0)) (b := zx_ad b base hd) (As := ((st.take fb).reverse).map (zx_cv b base)) ⟨hx, hb, hml, hown, hts⟩ hMM (cwV fb hts (zx_GU (by
          intro w hw
          unfold wsV zx_ws at hw
          simp only [List.cons_append, List.nil_append, List.mem_cons] at hw
          rcases hw with rfl | rfl | rfl | rfl | rfl | hw
          · exact zx_wd_in g2
          · exact zx_wd_in g3
          · rw [g7]; exact zx_wd_in g4
          · rw [g7]; exact zx_wd_in g5
          · exact zx_wd_in m2
          · exact hw)) rfl rfl rfl ⟨g7.symm, m3.1, m3.2, g9⟩ (hroom _ m4)) ⟨zx_Pc_blind _ _ _ _ _ _ _, hrv, zx_pre F0' J has⟩ rfl (by rw [List.length_map, List.length_reverse, List.length_take]; omega) hlh.1 (by
          show st.map (zx_cv b base) = _
          rw [← List.map_reverse, List.reverse_reverse]
          show _ = (st.take fb).map (zx_cv b base) ++ (Sum.inr (some hd) :: rest : List zx_V).map (zx_cv b base)
          rw [← List.map_append, ← hstd]) (by
          show 2 * 0 + _ ≤ 8
          rw [zx_cats]
          omega) g0 hff
      · exact zx_no h
    · exact zx_no h
  case invokespecial k =>
    unfold zx_iv at h
    dsimp only at h
    split at h
    · exact zx_no h
    · rename_i hc9
      split at h
      · rename_i hd rst hdr
        split at h
        · rename_i hc
          have h := zx_sm h
          simp only [Prod.mk.injEq] at h
          obtain ⟨rfl, rfl, rfl⟩ := h
          simp only [Bool.and_eq_true] at hc
          have c1 := Nat.eq_of_beq_eq_true hc.1.1
          have c2 := Nat.eq_of_beq_eq_true hc.1.2
          have c3 := Nat.le_of_ble_eq_true hc.2
          have c4 : y < 900 := Nat.lt_of_not_le fun q => by rw [Nat.ble_eq_true_of_le q] at hc9; exact absurd hc9 (by decide)
          simp only [zx_gb, Bool.and_eq_true, decide_eq_true_eq, if_neg (show ¬ y = 900 by omega)] at G
          obtain ⟨g0, ⟨⟨⟨⟨⟨⟨g1, g2⟩, g3⟩, g4⟩, g5⟩, g6⟩, g7⟩, g8⟩ := G
          have hmb := (zx_mb_all g1).1
          simp only [zx_mb, Bool.and_eq_true, decide_eq_true_eq] at hmb
          obtain ⟨⟨⟨⟨⟨⟨m1, m2⟩, m3⟩, m4⟩, m5⟩, m6⟩, m7⟩ := hmb
          have hstd : st = st.take fb ++ .inr (some hd) :: rest := by rw [← hdr, List.take_append_drop]
          have hfb : fb ≤ st.length := by
            rcases Nat.lt_or_ge st.length fb with q | q
            · rw [List.drop_eq_nil_of_le (by omega)] at hdr
              cases hdr
            · exact q
          have hlen : (Sum.inr (some hd) :: (st.take fb).reverse : List zx_V).length = zx_np y := by rw [List.length_cons, List.length_reverse, List.length_take, ← g7]; omega
          have hMM := hM y _ μ r hrun hlen D dA b base
          have hokh : zx_okv μ.2 (.inr (some hd)) := hst _ (by rw [hstd]; exact List.mem_append_right _ List.mem_cons_self)
          have has : ∀ v ∈ (Sum.inr (some hd) :: (st.take fb).reverse : List zx_V), zx_okv μ.2 v := zx_mem_cons hokh fun v hv => hst v (List.mem_of_mem_take (List.mem_reverse.mp hv))
          have hrest : ∀ v ∈ rest, zx_okv μ.2 v := fun v hv => hst v (by rw [hstd]; exact List.mem_append_right _ (List.mem_cons_of_mem _ hv))
          have hws : zx_ws y = Cond.code (zx_nm y) (zx_by y) (zx_ml y) none :: zx_U := by rw [← g6]; rfl
          have hGI : GoodIn zx_U (zx_ws y) := zx_GU (by
            intro w hw
            unfold zx_ws at hw
            rcases List.mem_cons.mp hw with rfl | hw
            · exact zx_wd_in m2
            · exact hw)
          have hn : (((st.take fb).reverse).map (zx_cv b base)).length = fb := by rw [List.length_map, List.length_reverse, List.length_take]; omega
          have hstk : st.map (zx_cv b base) = (((st.take fb).reverse).map (zx_cv b base)).reverse ++ .ref (zx_ad b base hd) :: rest.map (zx_cv b base) := by
            rw [← List.map_reverse, List.reverse_reverse]
            show _ = (st.take fb).map (zx_cv b base) ++ (Sum.inr (some hd) :: rest : List zx_V).map (zx_cv b base)
            rw [← List.map_append, ← hstd]
          have hcat : 2 * 0 + ((rest.map (zx_cv b base)).map fun v => v.category).sum ≤ 8 := by rw [zx_cats]; omega
          refine zx_call_go (a := (Value.ref (zx_ad b base hd) :: ((st.take fb).reverse).map (zx_cv b base)).toArray) J hm hrest ?_ kk
          by_cases hc1 : fc = 1
          · rw [if_pos hc1] at g2
            have hr := va_runIN (b := zx_ad b base hd) (As := ((st.take fb).reverse).map (zx_cv b base)) (rest := rest.map (zx_cv b base)) (g := F0 m pc L (st.map (zx_cv b base))) (cells := μ.2 - c0) (slots := zx_ss μ.2 - zx_ss c0) (H := H) (locs := locs) (below := below) (meth := meth) (e := e) ⟨hx, hb, hml, hown, hts⟩ hMM ⟨va_cnB fb hts hGI hws rfl rfl (hE _ (of_decide_eq_true g2)) (hts _ (zx_wd_in g4)) ⟨m3.1, m3.2, g8⟩ (hroom _ m4), g5, hts _ (zx_wd_in g3)⟩ ⟨zx_Pc_blind _ _ _ _ _ _ _, zx_pre F0' J has⟩ rfl hn hlh.1 hstk hcat g0 hff
            intro T hT Xs
            obtain ⟨v, st₀, t, T', Lc, q1, q2, q3, q4, -, q5, q6⟩ := hr T hT Xs
            exact ⟨v, st₀, t, T', Lc, q1, q2, q3, q4, q5, q6⟩
          · rw [if_neg hc1] at g2
            exact W.runI (b := zx_ad b base hd) (As := ((st.take fb).reverse).map (zx_cv b base)) ⟨hx, hb, hml, hown, hts⟩ hMM ⟨callB_of fb hts hGI hws rfl rfl (hts _ (zx_wd_in g4)) (hts _ (zx_wd_in g2)) ⟨m3.1, m3.2, g8⟩ (hroom _ m4), g5, hts _ (zx_wd_in g3)⟩ ⟨zx_Pc_blind _ _ _ _ _ _ _, zx_pre F0' J has⟩ rfl hn hlh.1 hstk hcat g0 hff
        · exact zx_no h
      · exact zx_no h
end ZC
