section ZM
variable {p : Program} {l : Launch} {e : Env} {R : Room} {s : State} {m : MethodId} {args : Array Value} {below : List Frame} {meth : Method} {c : Code} {Q : State → Prop}
variable {D : va_G} {dA : Nat → ClassId} {b base c0 nL : Nat} {X : zx_X} {own : String} {ini : Bool} {by_ : ByteArray}
theorem zx_ce_eqv {dA : Nat → ClassId} {k : Nat} {f g : Nat → zx_V} {H : Heap} (h : ∀ j, j < (zx_kd (zx_seq k).1).2.2 → f j = g j) (hat : va_at D vwCl (base + k, zx_ce dA b base (zx_seq k) f) H) : va_at D vwCl (base + k, zx_ce dA b base (zx_seq k) g) H := by
  by_cases h1 : (zx_kd (zx_seq k).1).1 = 1
  · rw [zx_ce1 h1] at hat ⊢
    have e : (List.range (zx_kd (zx_seq k).1).2.2).map (fun j => zx_cv b base (f j)) = (List.range (zx_kd (zx_seq k).1).2.2).map (fun j => zx_cv b base (g j)) := List.map_congr_left fun j hj => by rw [h j (List.mem_range.mp hj)]
    rw [← e]
    exact hat
  · have ar : ∀ (cA : ClassId) (N : Nat) (F G : Nat → Value), (∀ j, j < N → F j = G j) → arrV cA N F = arrV cA N G := fun cA N F G hFG => by
      unfold arrV
      refine congrArg (fun z => ({ cls := cA, slots := z, vm := .none } : Cell)) ?_
      refine congrArg Array.ofFn (funext fun j => hFG j.1 j.2)
    unfold zx_ce at hat ⊢
    rw [if_neg h1] at hat ⊢
    split at hat
    · rename_i h2
      rw [if_pos h2]
      have e : vp_cell (dA 0) ((zx_kd (zx_seq k).1).2.2, .inl (fun j => zx_vi (f j))) = vp_cell (dA 0) ((zx_kd (zx_seq k).1).2.2, .inl (fun j => zx_vi (g j))) := by
        rw [vp_cell_i, vp_cell_i]
        exact ar _ _ _ _ fun j hj => by rw [h j hj]
      have hat : H[base + k]? = some _ := hat
      exact hat.trans (congrArg some e)
    · rename_i h2
      rw [if_neg h2]
      have e : vp_cell (dA (zx_kd (zx_seq k).1).2.1) ((zx_kd (zx_seq k).1).2.2, .inr (.inr (.inr (.inr (fun j => zx_vr b base (f j)))))) = vp_cell (dA (zx_kd (zx_seq k).1).2.1) ((zx_kd (zx_seq k).1).2.2, .inr (.inr (.inr (.inr (fun j => zx_vr b base (g j)))))) := by
        rw [vp_cell_q, vp_cell_q]
        exact ar _ _ _ _ fun j hj => by rw [h j hj]
      have hat : H[base + k]? = some _ := hat
      exact hat.trans (congrArg some e)
theorem zx_J.eqv {dA : Nat → ClassId} {ls : zx_L} {st : List zx_V} {μ ν : zx_M} {H : Heap} {locs : List Loc} {L : Array Slot} (J : zx_J D dA b base s c0 nL ls st μ H locs L) (he : zx_eqv μ ν) : zx_J D dA b base s c0 nL ls st ν H locs L := by
  obtain ⟨hR, hG, hc, hlow, hlo, hlc, hlv, hst⟩ := J
  obtain ⟨e1, e2⟩ := he
  refine ⟨⟨by rw [← e1]; exact hR.1, fun k hk => zx_ce_eqv (fun j hj => e2 k (by omega) j hj) (hR.2 k (by omega))⟩, ⟨by rw [← e1]; exact hG.1, fun k hk j hj => by rw [← e2 k (by omega) j hj, ← e1]; exact hG.2 k (by omega) j hj⟩, by rw [← e1]; exact hc, hlow, hlo, hlc, fun v hv => by rw [← e1]; exact hlv v hv, fun v hv => by rw [← e1]; exact hst v hv⟩
/-- a whole run of the interpreter over one frame -/
theorem zx_ex_ok {code : List zx_I} {d : Nat} {r : zx_O} (F : zx_Fx p s m args meth c D dA b base X own ini by_ nL) (G : ∀ e ∈ code, zx_gb own ini by_ e = true) (hM : zx_MetOk X l d) (hfr : d + 1 ≤ R.frames) (hlo : 36 * d + 36 ≤ R.locals) (hrc : r.2.2 - c0 ≤ R.cells) (hrs : zx_ss r.2.2 - zx_ss c0 ≤ R.slots)
    (hret : ∀ (i : Instr) (pc fa fb : Nat) (fc : Int32) (t : List Nat) (ls : zx_L) (st : List zx_V) (μ : zx_M) (H : Heap) (locs : List Loc) (L : Array Slot), (pc, i, fa, fb, fc, t) ∈ code → zx_rt i fc st μ = some r → zx_J D dA b base s c0 nL ls st μ H locs L → zx_Go p l e R s m args below meth c Q b base c0 H locs L pc st μ.2) :
    ∀ (n : Nat) (z : zx_S), zx_ex X (zx_run X d) code n z r → zx_Kt p l e R s m args below meth c Q D dA b base c0 nL z
  | 0, _, h => absurd h id
  | n + 1, (pc, ls, st, μ), h => by
    intro H locs L J
    rcases h with ⟨ν, he, h⟩ | h
    · have hk := zx_ex_ok F G hM hfr hlo hrc hrs hret n _ h H locs L (J.eqv he)
      have e2 := he.1
      unfold zx_Go at hk ⊢
      exact W.cs (by dsimp only; omega) (by dsimp only; rw [e2]) hk
    obtain ⟨i, fa, fb, fc, t, hat, h | h | h⟩ := h
    · obtain ⟨z', h1, h2⟩ := h
      have hm := zx_ex_mono (zx_run_mono X d) n z' r h2
      have hs := zx_ss_mono hm
      exact zx_step_ok F (G _ (zx_at_mem hat)) J h1 (by omega) (by omega) (by omega) (by omega) (zx_ex_ok F G hM hfr hlo hrc hrs hret n z' h2)
    · exact hret i pc fa fb fc t ls st μ H locs L (zx_at_mem hat) h J
    · obtain ⟨y, as, rest, v, μ', h1, h2, h3⟩ := h
      have hm := zx_ex_mono (zx_run_mono X d) n _ r h3
      have hm : μ'.2 ≤ r.2.2 := hm
      have hs := zx_ss_mono hm
      exact zx_call_ok (r := (v, μ')) F (G _ (zx_at_mem hat)) J h1 hM h2 hfr (by omega) (by dsimp only; omega) (by dsimp only; omega) (zx_ex_ok F G hM hfr hlo hrc hrs hret n _ h3)
theorem zx_args_mem : ∀ (vs : List Value) (k i : Nat) (v : Value), (∀ v ∈ vs, v.category = 1) → vs[i]? = some v → (k + i, v) ∈ lv_args k vs
  | [], _, _, _, _, h => by simp at h
  | w :: vs, k, 0, v, hc, h => by
    cases h
    exact List.mem_cons_self
  | w :: vs, k, i + 1, v, hc, h => by
    unfold lv_args
    have h1 : ¬ w.category = 2 := by rw [hc w List.mem_cons_self]; decide
    rw [if_neg h1]
    have := zx_args_mem vs (k + 1) i v (fun u hu => hc u (List.mem_cons_of_mem _ hu)) h
    rw [show k + (i + 1) = k + 1 + i by omega]
    exact List.mem_cons_of_mem _ this
theorem zx_sl_len : ∀ (vs : List Value), (∀ v ∈ vs, v.category = 1) → (lg_sl vs).length = vs.length
  | [], _ => rfl
  | v :: vs, h => by
    have h1 : ¬ v.category = 2 := by rw [h v List.mem_cons_self]; decide
    have := zx_sl_len vs (fun u hu => h u (List.mem_cons_of_mem _ hu))
    unfold lg_sl at this ⊢
    rw [List.flatMap_cons, if_neg h1, List.length_append, this]
    simp only [List.length_cons, List.length_nil]
    omega
theorem zx_cat_map {as : List zx_V} : ∀ v ∈ as.map (zx_cv b base), v.category = 1 := fun v hv => by
  obtain ⟨w, -, rfl⟩ := List.mem_map.mp hv
  exact zx_cv_cat _ _ _
/-- the locals at a method's entry -/
theorem zx_entry {as : List zx_V} {ml : Nat} (h : as.length ≤ ml) : ∃ L : Array Slot, entryFrame m (as.map (zx_cv b base)).toArray ml = F0 m 0 L [] ∧ zx_lc b base ml (zx_en ml as) L := by
  have hlen : (lg_sl (as.map (zx_cv b base))).length ≤ ml := by rw [zx_sl_len _ zx_cat_map, List.length_map]; exact h
  have hl := lv_entry (as.map (zx_cv b base)) (n := ml) hlen
  refine ⟨_, lg_entry_eq m (as.map (zx_cv b base)) ml, by unfold zx_en; rw [List.length_append, List.length_map, List.length_replicate]; omega, hl.1, hl.2.1, fun q hq => ?_⟩
  obtain ⟨i, w⟩ := q
  obtain ⟨v, hv, rfl⟩ := zx_pr_mem.mp hq
  refine hl.2.2 (i, zx_cv b base v) ?_
  unfold zx_en at hv
  have hi : as[i]? = some v := by
    rcases Nat.lt_or_ge i as.length with q | q
    · rw [List.getElem?_append_left (by rw [List.length_map]; exact q), List.getElem?_map] at hv
      cases h9 : as[i]? with
      | none => rw [h9] at hv; cases hv
      | some w => rw [h9] at hv; cases hv; rfl
    · rw [List.getElem?_append_right (by rw [List.length_map]; exact q), List.getElem?_replicate] at hv
      split at hv <;> cases hv
  have := zx_args_mem (as.map (zx_cv b base)) 0 i (zx_cv b base v) zx_cat_map (by rw [List.getElem?_map, hi]; rfl)
  rw [Nat.zero_add] at this
  exact this
theorem zx_en_ok {n ml : Nat} {as : List zx_V} (h : ∀ v ∈ as, zx_okv n v) : ∀ v, some v ∈ zx_en ml as → zx_okv n v := fun v hv => by
  unfold zx_en at hv
  rcases List.mem_append.mp hv with q | q
  · obtain ⟨w, hw, e⟩ := List.mem_map.mp q
    cases e
    exact h _ hw
  · have := List.eq_of_mem_replicate q
    cases this
end ZM
theorem zx_ex_nil (X : zx_X) (R : Nat → List zx_V → zx_M → zx_O → Prop) : ∀ (n : Nat) (z : zx_S) (r : zx_O), ¬ zx_ex X R [] n z r
  | 0, _, _ => id
  | n + 1, (pc, ls, st, μ), r => by
    rintro (⟨ν, -, h⟩ | ⟨i, a, b, c, t, hat, -⟩)
    · exact zx_ex_nil X R n _ r h
    · cases hat
theorem zx_run_lt {X : zx_X} {d y : Nat} {as : List zx_V} {μ : zx_M} {r : zx_O} (h : zx_run X d y as μ r) : y < 201 := by
  rcases Nat.lt_or_ge y 201 with q | q
  · exact q
  · cases d with
    | zero => exact absurd h id
    | succ d =>
      obtain ⟨n, h⟩ := h
      cases n with
      | zero => exact absurd h id
      | succ n =>
        have : zx_cd y = [] := by
          unfold zx_cd
          have hl : zx_cds.length = 201 := by decide +kernel
          rw [List.getD_eq_getElem?_getD, List.getElem?_eq_none (by omega)]
          rfl
        rw [this] at h
        exact absurd h (zx_ex_nil _ _ (n + 1) _ _)
set_option maxHeartbeats 4000000 in
/-- every run of the interpreter is a contract of the machine -/
theorem zx_met (X : zx_X) (l : Launch) : ∀ d, zx_MetOk X l d
  | 0 => fun _ _ _ _ h => absurd h id
  | d + 1 => by
    intro y as μ r hrun hlen D dA b base
    have hy := zx_run_lt hrun
    have hmono := zx_run_mono X (d + 1) y as μ r hrun
    obtain ⟨n, hex⟩ := hrun
    obtain ⟨hmb, hall⟩ := zx_mb_all hy
    simp only [zx_mb, Bool.and_eq_true, decide_eq_true_eq] at hmb
    obtain ⟨⟨⟨⟨⟨⟨m1, m2⟩, m3⟩, m4⟩, m5⟩, m6⟩, m7⟩ := hmb
    refine Met.ofW (cc := zx_by y) (maxL := zx_ml y) (ret := zx_ty y) m1 rfl ?_
    intro p e s m args below meth c s₁ B hml hv
    obtain ⟨rfl, hRep, hGd, hK, hE, hX, hbb, hok⟩ := hv
    have hts := atoms_spec (ws := zx_ws y) B.pre
    have hts' : ∀ w ∈ zx_U, w.before (as.map (zx_cv b base)).toArray s = true := fun w hw => hts w (List.mem_cons_of_mem _ hw)
    have hown : s.vm.findClass (zx_nm y).cls = some m.cls := findClass_of_methodNamed B.named
    have hin : meth.name = (zx_nm y).name := (name_of_methodNamed B.named B.method).1
    have hlocks := B.notSynchronized
    have hr := B.returns
    have F : zx_Fx p s m (as.map (zx_cv b base)).toArray meth c D dA b base X (zx_nm y).cls (decide ((zx_nm y).name = "<init>")) (zx_by y) (zx_ml y) :=
      ⟨B.exec, B.bytes, hml, hown, hts', hE, hK, hX, hbb, by rw [hRep.1]; exact Nat.le_add_right _ _, fun h => by rw [hin]; exact of_decide_eq_true h⟩
    obtain ⟨L, hent, hlc⟩ := zx_entry (b := b) (base := base) (m := m) (as := as) (ml := zx_ml y) (by rw [hlen]; exact m5)
    rw [hent]
    have key := zx_ex_ok (l := l) (e := e) (R := (headSpec (zx_ws y) (zx_rm (d + 1) μ r)).room) (below := below) (c0 := μ.2) (Q := MQ below (zx_Qc D dA b base r) (as.map (zx_cv b base)).toArray s (r.2.2 - μ.2) (zx_ss r.2.2 - zx_ss μ.2) (fun q => base ≤ q)) F (fun e he => (hall e he).1) (zx_met X l d) (Nat.le_refl _) (by show 36 * d + 36 ≤ 36 * (d + 1); omega) (Nat.le_refl _) (Nat.le_refl _) ?_ n _ hex
    · have hk := key s.heap [] L ⟨hRep, hGd, Nat.le_refl _, fun _ _ => rfl, (fun _ h => absurd h List.not_mem_nil), hlc, zx_en_ok hok, (fun _ h => absurd h List.not_mem_nil)⟩
      unfold zx_Go at hk
      refine W.cs ?_ ?_ hk
      · show 0 = μ.2 - μ.2
        omega
      · show 0 = zx_ss μ.2 - zx_ss μ.2
        omega
    · intro i pc fa fb fc t ls st ν H locs L he hrt J
      obtain ⟨e1, e2⟩ := zx_rt_mem hrt
      subst e1
      have g1 := (hall _ he).1
      have g2 := (hall _ he).2
      have hres : ∀ v, r.1 = some v → zx_okv r.2.2 v := fun v hv => J.2.2.2.2.2.2.2 v (by rw [e2, hv]; exact List.mem_cons_self)
      have hQ : ∀ t : State, t.heap = H → zx_Qc D dA b base r (as.map (zx_cv b base)).toArray s (.returned (r.1.map (zx_cv b base))) t := fun t ht => ⟨rfl, by rw [ht]; exact J.1, J.2.1, fun q hq => by rw [ht]; exact J.2.2.2.1 q hq, hres⟩
      unfold zx_Go
      cases i <;> first | exact zx_no hrt | skip
      case ireturn =>
        unfold zx_rt at hrt
        dsimp only at hrt
        split at hrt
        · rename_i v
          split at hrt
          · rename_i hb01
            have hrt := zx_sm hrt
            simp only [zx_gb, decide_eq_true_eq] at g1
            simp only [zx_rb, Bool.or_eq_true, Bool.and_eq_true, decide_eq_true_eq] at g2
            have hr1 : r.1 = some (.inl v) := by rw [hrt]
            rw [hr1] at hQ
            rcases g2 with g2 | ⟨g2, g3⟩
            · exact W.iret B.exec B.bytes (hr.trans g2) (fun t ht _ => hQ t ht) J.2.2.2.2.1 g1 hlocks
            · refine W.zret B.exec B.bytes (hr.trans g2) ?_ (fun t ht _ => hQ t ht) J.2.2.2.2.1 g1 hlocks
              rcases hb01 g3 with q | q <;> subst q
              · exact (by decide +kernel : narrow .boolean (.int 0) = .int 0)
              · exact (by decide +kernel : narrow .boolean (.int 1) = .int 1)
          · exact zx_no hrt
        · exact zx_no hrt
      case areturn =>
        unfold zx_rt at hrt
        dsimp only at hrt
        split at hrt
        · rename_i v
          have hrt := zx_sm hrt
          simp only [zx_gb, decide_eq_true_eq] at g1
          have hr1 : r.1 = some (.inr v) := by rw [hrt]
          rw [hr1] at hQ
          unfold zx_rb at g2
          dsimp only at g2
          split at g2
          · rename_i rt hrt2
            exact W.aret B.exec B.bytes (hr.trans hrt2) (Or.inl ⟨_, rfl⟩) (by rcases v with _ | v; exact Or.inl rfl; exact Or.inr ⟨_, rfl⟩) (fun t ht _ => hQ t ht) J.2.2.2.2.1 g1 hlocks
          · rename_i rt hrt2
            exact W.aret B.exec B.bytes (hr.trans hrt2) (Or.inr ⟨_, rfl⟩) (by rcases v with _ | v; exact Or.inl rfl; exact Or.inr ⟨_, rfl⟩) (fun t ht _ => hQ t ht) J.2.2.2.2.1 g1 hlocks
          · cases g2
        · exact zx_no hrt
      case return_ =>
        unfold zx_rt at hrt
        dsimp only at hrt
        split at hrt
        · have hrt := zx_sm hrt
          simp only [zx_gb, decide_eq_true_eq] at g1
          simp only [zx_rb, decide_eq_true_eq] at g2
          have hr1 : r.1 = none := by rw [hrt]
          rw [hr1] at hQ
          exact W.vret B.exec B.bytes (hr.trans g2) (fun t ht _ => hQ t ht) J.2.2.2.2.1 g1 hlocks
        · exact zx_no hrt
