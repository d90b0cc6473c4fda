section ZW
variable {p : Program} {l : Launch} {e : Env} {R : Room} {s : State} {m : MethodId} {args : Array Value} {below : List Frame} {meth : Method} {c : Code} {H : Heap} {locs : List Loc} {Q : State → Prop}
variable {D : va_G} {dA : Nat → ClassId} {b base c0 nL : Nat} {X : zx_X} {own : String} {ini : Bool} {by_ : ByteArray} {ls : zx_L} {st : List zx_V} {μ : zx_M} {L : Array Slot}
theorem zx_no {α : Type} {z : α} {P : Prop} (h : (none : Option α) = some z) : P := by cases h
theorem zx_sm {α : Type} {y z : α} (h : some y = some z) : z = y := by cases h; rfl
theorem zx_pick_in (x : Int32) (d : Nat) : ∀ (qs : List Nat) (k : Int32), k.toInt + (qs.length : Int) < 2147483648 → k.toInt ≤ x.toInt → x.toInt < k.toInt + (qs.length : Int) → qs[(x.toInt - k.toInt).toNat]? = some (zx_pick x k qs d)
  | [], k, hb, h1, h2 => absurd h2 (by simp only [List.length_nil]; omega)
  | q :: qs, k, hb, h1, h2 => by
    simp only [List.length_cons] at hb h2
    unfold zx_pick
    by_cases e : x = k
    · subst e
      rw [if_pos rfl]
      simp
    · rw [if_neg e]
      have hne : x.toInt ≠ k.toInt := fun q => e (Int32.toInt_inj.mp q)
      have hk1 : (k + 1).toInt = k.toInt + 1 := by
        rw [Int32.toInt_add]
        rw [Int32.toInt_one]
        have : -2147483648 ≤ k.toInt := by have h9 := Int32.le_toInt k; simpa using h9
        rw [Int.bmod_eq_of_le] <;> omega
      have ih := zx_pick_in x d qs (k + 1) (by rw [hk1]; omega) (by rw [hk1]; omega) (by rw [hk1]; omega)
      rw [hk1] at ih
      rw [show (x.toInt - k.toInt).toNat = (x.toInt - (k.toInt + 1)).toNat + 1 by omega, List.getElem?_cons_succ]
      exact ih
theorem zx_pick_out (x : Int32) (d : Nat) : ∀ (qs : List Nat) (k : Int32), k.toInt + (qs.length : Int) < 2147483648 → (x.toInt < k.toInt ∨ k.toInt + (qs.length : Int) ≤ x.toInt) → zx_pick x k qs d = d
  | [], k, hb, h => rfl
  | q :: qs, k, hb, h => by
    simp only [List.length_cons] at hb h
    unfold zx_pick
    have e : ¬ x = k := by rintro rfl; omega
    rw [if_neg e]
    have hk1 : (k + 1).toInt = k.toInt + 1 := by
      rw [Int32.toInt_add]
      rw [Int32.toInt_one]
      have : -2147483648 ≤ k.toInt := by have h9 := Int32.le_toInt k; simpa using h9
      rw [Int.bmod_eq_of_le] <;> omega
    exact zx_pick_out x d qs (k + 1) (by rw [hk1]; omega) (by rw [hk1]; omega)
set_option maxHeartbeats 4000000 in
set_option maxRecDepth 100000 in
theorem zx_step_ok {i : Instr} {pc fa fb : Nat} {fc : Int32} {t : List Nat} {z : zx_S} (F : zx_Fx p s m args meth c D dA b base X own ini by_ nL) (G : zx_gb own ini by_ (pc, i, fa, fb, fc, t) = true) (J : zx_J D dA b base s c0 nL ls st μ H locs L)
    (h : zx_do X i pc fa fb fc t ls st μ = some z) (hfr : 1 ≤ R.frames) (hlo : 36 ≤ R.locals) (hrc : z.2.2.2.2 - c0 ≤ R.cells) (hrs : zx_ss z.2.2.2.2 - zx_ss c0 ≤ R.slots)
    (kk : zx_Kt p l e R s m args below meth c Q D dA b base c0 nL z) : zx_Go p l e R s m args below meth c Q b base c0 H locs L pc st μ.2 := by
  have hst := J.2.2.2.2.2.2.2
  have hlc := J.2.2.2.2.2.1
  have hlh := hlc.2
  cases i <;> first | exact zx_no h | skip
  case iconst n =>
    simp only [zx_gb, Bool.and_eq_true, decide_eq_true_eq] at G
    obtain rfl := zx_sm h
    obtain ⟨hx, hb, -⟩ := F
    exact lv_iconst hx hb G.1 G.2 (zx_s_const J kk)
  case bipush n =>
    simp only [zx_gb, Bool.and_eq_true, decide_eq_true_eq] at G
    obtain rfl := zx_sm h
    obtain ⟨hx, hb, -⟩ := F
    exact lv_bipush hx hb G.1 G.2 (zx_s_const J kk)
  case sipush n =>
    simp only [zx_gb, Bool.and_eq_true, decide_eq_true_eq] at G
    obtain rfl := zx_sm h
    obtain ⟨hx, hb, -⟩ := F
    exact lv_sipush hx hb G.1 G.2 (zx_s_const J kk)
  case ldc n =>
    simp only [zx_gb, Bool.and_eq_true, decide_eq_true_eq] at G
    obtain rfl := zx_sm h
    obtain ⟨hx, hb, hml, hown, hts, -⟩ := F
    exact W.ldc hx hb hown (hts _ (zx_wd_in G.2)) rfl G.1 (zx_s_const J kk)
  case aconst_null =>
    simp only [zx_gb, decide_eq_true_eq] at G
    obtain rfl := zx_sm h
    obtain ⟨hx, hb, -⟩ := F
    exact lv_null hx hb G (zx_s_push J hst (zx_okv_n _) kk)
  case iload_n k =>
    simp only [zx_gb, Bool.and_eq_true, decide_eq_true_eq] at G
    obtain ⟨hx, hb, -⟩ := F
    unfold zx_do at h
    dsimp only at h
    split at h
    · rename_i x hx2
      obtain rfl := zx_sm h
      have hL := hlc.at hx2
      exact lv_iload_n hx hb G.1 G.2 hL (zx_s_const J kk)
    · exact zx_no h
  case iload k =>
    simp only [zx_gb, Bool.and_eq_true, decide_eq_true_eq] at G
    obtain ⟨hx, hb, -⟩ := F
    unfold zx_do at h
    dsimp only at h
    split at h
    · rename_i x hx2
      obtain rfl := zx_sm h
      have hL := hlc.at hx2
      exact lv_iload (i := k) hx hb G.1 (by rw [G.2]; exact hL) (zx_s_const J kk)
    · exact zx_no h
  case aload_n k =>
    simp only [zx_gb, Bool.and_eq_true, decide_eq_true_eq] at G
    obtain ⟨hx, hb, -⟩ := F
    unfold zx_do at h
    dsimp only at h
    split at h
    · rename_i x hx2
      obtain rfl := zx_sm h
      exact lv_aload_n hx hb G.1 G.2 (hlc.at hx2) (zx_s_push J hst (zx_ldok J hx2) kk)
    · rename_i hx2
      obtain rfl := zx_sm h
      exact lv_aload_nN hx hb G.1 G.2 (hlc.at hx2) (zx_s_push J hst (zx_okv_n _) kk)
    · exact zx_no h
  case aload k =>
    simp only [zx_gb, Bool.and_eq_true, decide_eq_true_eq] at G
    obtain ⟨hx, hb, -⟩ := F
    unfold zx_do at h
    dsimp only at h
    split at h
    · rename_i x hx2
      obtain rfl := zx_sm h
      exact lv_aload hx hb G.1 (by rw [G.2]; exact hlc.at hx2) (zx_s_push J hst (zx_ldok J hx2) kk)
    · rename_i hx2
      obtain rfl := zx_sm h
      exact lv_aloadN hx hb G.1 (by rw [G.2]; exact hlc.at hx2) (zx_s_push J hst (zx_okv_n _) kk)
    · exact zx_no h
  case istore_n k =>
    simp only [zx_gb, Bool.and_eq_true, decide_eq_true_eq] at G
    obtain ⟨hx, hb, -⟩ := F
    unfold zx_do at h
    dsimp only at h
    split at h
    · rename_i x st
      split at h
      · rename_i hbl
        obtain rfl := zx_sm h
        have hlt : fa < nL := by rw [← hlc.1]; exact Nat.le_of_ble_eq_true hbl
        exact lv_istore_n hx hb G.1 G.2 hlh hlt rfl (fun ls2 hl2 => kk H locs ls2 (J.set (v := .inl x) hl2 (zx_hd hst) (zx_tl hst)))
      · exact zx_no h
    · exact zx_no h
  case istore k =>
    simp only [zx_gb, Bool.and_eq_true, decide_eq_true_eq] at G
    obtain ⟨hx, hb, -⟩ := F
    unfold zx_do at h
    dsimp only at h
    split at h
    · rename_i x st
      split at h
      · rename_i hbl
        obtain rfl := zx_sm h
        have hlt : fa < nL := by rw [← hlc.1]; exact Nat.le_of_ble_eq_true hbl
        exact lv_istore hx hb (by rw [← G.2]; exact G.1) hlh hlt rfl (fun ls2 hl2 => kk H locs ls2 (J.set (v := .inl x) hl2 (zx_hd hst) (zx_tl hst)))
      · exact zx_no h
    · exact zx_no h
  case astore_n k =>
    simp only [zx_gb, Bool.and_eq_true, decide_eq_true_eq] at G
    obtain ⟨hx, hb, -⟩ := F
    unfold zx_do at h
    dsimp only at h
    split at h
    · rename_i x st
      split at h
      · rename_i hbl
        obtain rfl := zx_sm h
        have hlt : fa < nL := by rw [← hlc.1]; exact Nat.le_of_ble_eq_true hbl
        exact lv_astore_n hx hb G.1 G.2 hlh hlt rfl (fun ls2 hl2 => kk H locs ls2 (J.set (v := .inr (some x)) hl2 (zx_hd hst) (zx_tl hst)))
      · exact zx_no h
    · rename_i st
      split at h
      · rename_i hbl
        obtain rfl := zx_sm h
        have hlt : fa < nL := by rw [← hlc.1]; exact Nat.le_of_ble_eq_true hbl
        exact lv_astore_nN hx hb G.1 G.2 hlh hlt rfl (fun ls2 hl2 => kk H locs ls2 (J.set (v := .inr none) hl2 (zx_hd hst) (zx_tl hst)))
      · exact zx_no h
    · exact zx_no h
  case astore k =>
    simp only [zx_gb, Bool.and_eq_true, decide_eq_true_eq] at G
    obtain ⟨hx, hb, -⟩ := F
    unfold zx_do at h
    dsimp only at h
    split at h
    · rename_i x st
      split at h
      · rename_i hbl
        obtain rfl := zx_sm h
        have hlt : fa < nL := by rw [← hlc.1]; exact Nat.le_of_ble_eq_true hbl
        exact lv_astore hx hb (by rw [← G.2]; exact G.1) hlh hlt rfl (fun ls2 hl2 => kk H locs ls2 (J.set (v := .inr (some x)) hl2 (zx_hd hst) (zx_tl hst)))
      · exact zx_no h
    · rename_i st
      split at h
      · rename_i hbl
        obtain rfl := zx_sm h
        have hlt : fa < nL := by rw [← hlc.1]; exact Nat.le_of_ble_eq_true hbl
        exact lv_astoreN hx hb (by rw [← G.2]; exact G.1) hlh hlt rfl (fun ls2 hl2 => kk H locs ls2 (J.set (v := .inr none) hl2 (zx_hd hst) (zx_tl hst)))
      · exact zx_no h
    · exact zx_no h
  case iinc k n =>
    simp only [zx_gb, Bool.and_eq_true, decide_eq_true_eq] at G
    obtain ⟨hx, hb, -⟩ := F
    unfold zx_do at h
    dsimp only at h
    split at h
    · rename_i x hx2
      obtain rfl := zx_sm h
      have hlt := zx_ldlt J hx2
      obtain ⟨g1, g2⟩ := G
      obtain ⟨g0, g1⟩ := g1
      subst g1
      subst g2
      obtain ⟨q, hq⟩ := List.getElem?_of_mem (zx_pr_mem.mpr ⟨_, zx_ld_some hx2, rfl⟩ : (k, zx_cv b base (.inl x)) ∈ zx_pr b base ls)
      exact lv_iinc hx hb g0 hlh hq rfl hlt rfl (fun ls2 hl2 => kk H locs ls2 (J.set (v := .inl (x + Int32.ofInt n)) hl2 (zx_okv_i _ _) hst))
    · exact zx_no h
  case iadd =>
    simp only [zx_gb, decide_eq_true_eq] at G
    obtain ⟨hx, hb, -⟩ := F
    unfold zx_do at h
    dsimp only at h
    split at h
    · obtain rfl := zx_sm h
      exact lv_iadd hx hb G (kk H locs L (J.st (zx_mem_cons (zx_okv_i _ _) (zx_tl (zx_tl hst)))))
    · exact zx_no h
  case isub =>
    simp only [zx_gb, decide_eq_true_eq] at G
    obtain ⟨hx, hb, -⟩ := F
    unfold zx_do at h
    dsimp only at h
    split at h
    · obtain rfl := zx_sm h
      exact lv_isub hx hb G (kk H locs L (J.st (zx_mem_cons (zx_okv_i _ _) (zx_tl (zx_tl hst)))))
    · exact zx_no h
  case imul =>
    simp only [zx_gb, decide_eq_true_eq] at G
    obtain ⟨hx, hb, -⟩ := F
    unfold zx_do at h
    dsimp only at h
    split at h
    · obtain rfl := zx_sm h
      exact lv_imul hx hb G (kk H locs L (J.st (zx_mem_cons (zx_okv_i _ _) (zx_tl (zx_tl hst)))))
    · exact zx_no h
  case iand =>
    simp only [zx_gb, decide_eq_true_eq] at G
    obtain ⟨hx, hb, -⟩ := F
    unfold zx_do at h
    dsimp only at h
    split at h
    · obtain rfl := zx_sm h
      exact lv_iand hx hb G (kk H locs L (J.st (zx_mem_cons (zx_okv_i _ _) (zx_tl (zx_tl hst)))))
    · exact zx_no h
  case ior =>
    simp only [zx_gb, decide_eq_true_eq] at G
    obtain ⟨hx, hb, -⟩ := F
    unfold zx_do at h
    dsimp only at h
    split at h
    · obtain rfl := zx_sm h
      exact lv_ior hx hb G (kk H locs L (J.st (zx_mem_cons (zx_okv_i _ _) (zx_tl (zx_tl hst)))))
    · exact zx_no h
  case ishl =>
    simp only [zx_gb, decide_eq_true_eq] at G
    obtain ⟨hx, hb, -⟩ := F
    unfold zx_do at h
    dsimp only at h
    split at h
    · obtain rfl := zx_sm h
      exact lv_ishl hx hb G (kk H locs L (J.st (zx_mem_cons (zx_okv_i _ _) (zx_tl (zx_tl hst)))))
    · exact zx_no h
  case dup =>
    simp only [zx_gb, decide_eq_true_eq] at G
    obtain ⟨hx, hb, -⟩ := F
    unfold zx_do at h
    dsimp only at h
    split at h
    · obtain rfl := zx_sm h
      exact lv_dup hx hb G (zx_cv_cat _ _ _) (kk H locs L (J.st (zx_mem_cons (zx_hd hst) hst)))
    · exact zx_no h
  case dup2 =>
    simp only [zx_gb, decide_eq_true_eq] at G
    obtain ⟨hx, hb, -⟩ := F
    unfold zx_do at h
    dsimp only at h
    split at h
    · obtain rfl := zx_sm h
      exact lv_dup2_11 hx hb G (zx_cv_cat _ _ _) (zx_cv_cat _ _ _) (kk H locs L (J.st (zx_mem_cons (zx_hd hst) (zx_mem_cons (zx_hd (zx_tl hst)) hst))))
    · exact zx_no h
  case pop =>
    simp only [zx_gb, decide_eq_true_eq] at G
    obtain ⟨hx, hb, -⟩ := F
    unfold zx_do at h
    dsimp only at h
    split at h
    · obtain rfl := zx_sm h
      exact lv_pop hx hb G (zx_cv_cat _ _ _) (kk H locs L (J.st (zx_tl hst)))
    · exact zx_no h
  case goto off =>
    simp only [zx_gb, Bool.and_eq_true, decide_eq_true_eq] at G
    obtain rfl := zx_sm h
    obtain ⟨hx, hb, -⟩ := F
    exact lv_goto hx hb G.1 G.2 (kk H locs L (J.st hst))
  case ifCond cnd off =>
    simp only [zx_gb, Bool.and_eq_true, decide_eq_true_eq] at G
    obtain ⟨hx, hb, -⟩ := F
    cases cnd
    case eq =>
      unfold zx_do at h
      dsimp only at h
      split at h
      · rename_i x st
        obtain rfl := zx_sm h
        exact lv_if_eq hx hb G.1 G.2 (fun hc => by rw [if_pos hc] at kk; exact kk H locs L (J.st (zx_tl hst))) (fun hc => by rw [if_neg hc] at kk; exact kk H locs L (J.st (zx_tl hst)))
      · exact zx_no h
    case ne =>
      unfold zx_do at h
      dsimp only at h
      split at h
      · rename_i x st
        obtain rfl := zx_sm h
        exact lv_if_ne hx hb G.1 G.2 (fun hc => by rw [if_neg hc] at kk; exact kk H locs L (J.st (zx_tl hst))) (fun hc => by rw [if_pos hc] at kk; exact kk H locs L (J.st (zx_tl hst)))
      · exact zx_no h
    case lt =>
      unfold zx_do at h
      dsimp only at h
      split at h
      · rename_i x st
        obtain rfl := zx_sm h
        exact lv_if_lt hx hb G.1 G.2 (fun hc => by rw [if_pos hc] at kk; exact kk H locs L (J.st (zx_tl hst))) (fun hc => by rw [if_neg hc] at kk; exact kk H locs L (J.st (zx_tl hst)))
      · exact zx_no h
    case ge =>
      unfold zx_do at h
      dsimp only at h
      split at h
      · rename_i x st
        obtain rfl := zx_sm h
        exact lv_if_ge hx hb G.1 G.2 (fun hc => by rw [if_pos hc] at kk; exact kk H locs L (J.st (zx_tl hst))) (fun hc => by rw [if_neg hc] at kk; exact kk H locs L (J.st (zx_tl hst)))
      · exact zx_no h
    case gt =>
      unfold zx_do at h
      dsimp only at h
      split at h
      · rename_i x st
        obtain rfl := zx_sm h
        exact lv_if_gt hx hb G.1 G.2 (fun hc => by rw [if_pos hc] at kk; exact kk H locs L (J.st (zx_tl hst))) (fun hc => by rw [if_neg hc] at kk; exact kk H locs L (J.st (zx_tl hst)))
      · exact zx_no h
    case le =>
      unfold zx_do at h
      dsimp only at h
      split at h
      · rename_i x st
        obtain rfl := zx_sm h
        exact lv_if_le hx hb G.1 G.2 (fun hc => by rw [if_pos hc] at kk; exact kk H locs L (J.st (zx_tl hst))) (fun hc => by rw [if_neg hc] at kk; exact kk H locs L (J.st (zx_tl hst)))
      · exact zx_no h
  case if_icmp cnd off =>
    simp only [zx_gb, Bool.and_eq_true, decide_eq_true_eq] at G
    obtain ⟨hx, hb, -⟩ := F
    cases cnd
    case eq =>
      unfold zx_do at h
      dsimp only at h
      split at h
      · rename_i y x st
        obtain rfl := zx_sm h
        exact lv_icmp_eq hx hb G.1 G.2 (fun hc => by rw [if_pos hc] at kk; exact kk H locs L (J.st (zx_tl (zx_tl hst)))) (fun hc => by rw [if_neg hc] at kk; exact kk H locs L (J.st (zx_tl (zx_tl hst))))
      · exact zx_no h
    case ne =>
      unfold zx_do at h
      dsimp only at h
      split at h
      · rename_i y x st
        obtain rfl := zx_sm h
        exact lv_icmp_ne hx hb G.1 G.2 (fun hc => by rw [if_neg hc] at kk; exact kk H locs L (J.st (zx_tl (zx_tl hst)))) (fun hc => by rw [if_pos hc] at kk; exact kk H locs L (J.st (zx_tl (zx_tl hst))))
      · exact zx_no h
    case lt =>
      unfold zx_do at h
      dsimp only at h
      split at h
      · rename_i y x st
        obtain rfl := zx_sm h
        exact lv_icmp_lt hx hb G.1 G.2 (fun hc => by rw [if_pos hc] at kk; exact kk H locs L (J.st (zx_tl (zx_tl hst)))) (fun hc => by rw [if_neg hc] at kk; exact kk H locs L (J.st (zx_tl (zx_tl hst))))
      · exact zx_no h
    case ge =>
      unfold zx_do at h
      dsimp only at h
      split at h
      · rename_i y x st
        obtain rfl := zx_sm h
        exact lv_icmp_ge hx hb G.1 G.2 (fun hc => by rw [if_pos hc] at kk; exact kk H locs L (J.st (zx_tl (zx_tl hst)))) (fun hc => by rw [if_neg hc] at kk; exact kk H locs L (J.st (zx_tl (zx_tl hst))))
      · exact zx_no h
    case gt =>
      unfold zx_do at h
      dsimp only at h
      split at h
      · rename_i y x st
        obtain rfl := zx_sm h
        exact lv_icmp_gt hx hb G.1 G.2 (fun hc => by rw [if_pos hc] at kk; exact kk H locs L (J.st (zx_tl (zx_tl hst)))) (fun hc => by rw [if_neg hc] at kk; exact kk H locs L (J.st (zx_tl (zx_tl hst))))
      · exact zx_no h
    case le =>
      unfold zx_do at h
      dsimp only at h
      split at h
      · rename_i y x st
        obtain rfl := zx_sm h
        exact lv_icmp_le hx hb G.1 G.2 (fun hc => by rw [if_pos hc] at kk; exact kk H locs L (J.st (zx_tl (zx_tl hst)))) (fun hc => by rw [if_neg hc] at kk; exact kk H locs L (J.st (zx_tl (zx_tl hst))))
      · exact zx_no h
  case ifnull off =>
    simp only [zx_gb, Bool.and_eq_true, decide_eq_true_eq] at G
    obtain ⟨hx, hb, -⟩ := F
    unfold zx_do at h
    dsimp only at h
    split at h
    · obtain rfl := zx_sm h
      exact lv_ifnullN hx hb G.1 G.2 (kk H locs L (J.st (zx_tl hst)))
    · obtain rfl := zx_sm h
      exact lv_ifnull hx hb G.1 (kk H locs L (J.st (zx_tl hst)))
    · exact zx_no h
  case ifnonnull off =>
    simp only [zx_gb, Bool.and_eq_true, decide_eq_true_eq] at G
    obtain ⟨hx, hb, -⟩ := F
    unfold zx_do at h
    dsimp only at h
    split at h
    · obtain rfl := zx_sm h
      exact lv_ifnonnullN hx hb G.1 (kk H locs L (J.st (zx_tl hst)))
    · obtain rfl := zx_sm h
      exact lv_ifnonnull hx hb G.1 G.2 (kk H locs L (J.st (zx_tl hst)))
    · exact zx_no h
  case tableswitch d lo hi offs =>
    simp only [zx_gb, Bool.and_eq_true, decide_eq_true_eq] at G
    obtain ⟨hx, hb, -⟩ := F
    unfold zx_do at h
    dsimp only at h
    split at h
    · rename_i x st
      obtain rfl := zx_sm h
      obtain ⟨⟨⟨⟨⟨g1, g2⟩, g3⟩, g4⟩, g5⟩, g6⟩ := G
      obtain ⟨len, hdg⟩ : ∃ len, decode by_ pc = .ok (.tableswitch d lo hi offs, len) := by
        split at g1
        · rename_i j l2 hd2
          exact ⟨l2, by rw [hd2]; simp only [decide_eq_true_eq] at g1; rw [g1]⟩
        · cases g1
      have hk := kk H locs L (J.st (zx_tl hst))
      have hoff : ∀ n : Nat, offs[n]? = (t.tail[n]?).map (fun q : Nat => (q : Int) - (pc : Int)) := fun n => by
        rw [← Array.getElem?_toList, g6, List.getElem?_map]
      by_cases ho : x.toInt < lo ∨ hi < x.toInt
      · have hp := zx_pick_out x (t.headD 0) t.tail fc g4 (by omega)
        dsimp only at hk
        rw [hp] at hk
        exact lv_tableOut hx hb hdg ho g5.symm hk
      · have hp := zx_pick_in x (t.headD 0) t.tail fc g4 (by omega) (by omega)
        rw [g2] at hp
        exact lv_tableIn hx hb hdg (fun q => ho (Or.inl q)) (fun q => ho (Or.inr q)) (by rw [hoff, hp]; rfl) (by dsimp only; omega) hk
    · exact zx_no h
  case getfield k =>
    simp only [zx_gb, Bool.and_eq_true, decide_eq_true_eq] at G
    unfold zx_do at h
    dsimp only at h
    split at h
    · split at h
      · rename_i hcnd
        obtain rfl := zx_sm h
        simp only [Bool.and_eq_true] at hcnd
        exact zx_s_get F J (Nat.eq_of_beq_eq_true hcnd.1.1) (Nat.eq_of_beq_eq_true hcnd.1.2) (Nat.le_of_ble_eq_true hcnd.2) (zx_wd_in G.2) G.1 kk
      · exact zx_no h
    · exact zx_no h
  case putfield k =>
    simp only [zx_gb, Bool.and_eq_true, decide_eq_true_eq] at G
    unfold zx_do at h
    dsimp only at h
    split at h
    · split at h
      · exact zx_no h
      · rename_i h33
        split at h
        · rename_i hcnd
          obtain rfl := zx_sm h
          obtain ⟨⟨⟨g1, g2⟩, g3⟩, g4⟩ := G
          refine zx_s_put F J hcnd.1.1 hcnd.1.2.1 hcnd.1.2.2.1 hcnd.1.2.2.2 h33 (fun q => hcnd.2 ?_) (zx_wd_in g2) (fun q => ?_) g1 kk
          · rw [if_pos q] at g4
            exact of_decide_eq_true g4
          · rw [if_pos q] at g3
            simp only [Bool.and_eq_true, decide_eq_true_eq] at g3
            exact g3
        · exact zx_no h
    · exact zx_no h
  case arraylength =>
    simp only [zx_gb, decide_eq_true_eq] at G
    unfold zx_do at h
    dsimp only at h
    split at h
    · split at h
      · rename_i e33
        subst e33
        obtain rfl := zx_sm h
        exact zx_s_slen F J G kk
      · split at h
        · rename_i h2
          obtain rfl := zx_sm h
          exact zx_s_alen F J h2 G kk
        · exact zx_no h
    · exact zx_no h
  case iaload =>
    simp only [zx_gb, decide_eq_true_eq] at G
    unfold zx_do at h
    dsimp only at h
    split at h
    · split at h
      · rename_i e33
        subst e33
        split at h
        · rename_i hin
          obtain rfl := zx_sm h
          exact zx_s_sld F J hin G kk
        · exact zx_no h
      · split at h
        · rename_i h2
          obtain rfl := zx_sm h
          exact zx_s_iald F J h2.1 h2.2.1 h2.2.2 G kk
        · exact zx_no h
    · exact zx_no h
  case aaload =>
    simp only [zx_gb, decide_eq_true_eq] at G
    unfold zx_do at h
    dsimp only at h
    split at h
    · split at h
      · rename_i h2
        obtain rfl := zx_sm h
        exact zx_s_aald F J h2.1 h2.2.1 h2.2.2 G kk
      · exact zx_no h
    · exact zx_no h
  case iastore =>
    simp only [zx_gb, decide_eq_true_eq] at G
    unfold zx_do at h
    dsimp only at h
    split at h
    · split at h
      · rename_i h2
        obtain rfl := zx_sm h
        exact zx_s_iast F J h2.1 h2.2.1 h2.2.2 G kk
      · exact zx_no h
    · exact zx_no h
  case aastore =>
    simp only [zx_gb, decide_eq_true_eq] at G
    unfold zx_do at h
    dsimp only at h
    split at h
    · split at h
      · rename_i h2
        obtain rfl := zx_sm h
        exact zx_s_aast F J h2.1.1 h2.1.2.1 h2.1.2.2 h2.2.1 h2.2.2 G kk
      · exact zx_no h
    · exact zx_no h
  case new k =>
    simp only [zx_gb, Bool.and_eq_true, decide_eq_true_eq] at G
    unfold zx_do at h
    dsimp only at h
    split at h
    · rename_i h2
      obtain rfl := zx_sm h
      exact zx_s_new F J h2.1 h2.2 (zx_wd_in G.1.1.1.2) (zx_wd_in G.1.1.2) (zx_wd_in G.1.2) G.1.1.1.1 hrc hrs kk
    · exact zx_no h
  case newarray q =>
    simp only [zx_gb, Bool.and_eq_true, decide_eq_true_eq] at G
    obtain ⟨⟨g1, rfl⟩, g3⟩ := G
    unfold zx_do at h
    dsimp only at h
    split at h
    · split at h
      · rename_i h2
        obtain rfl := zx_sm h
        exact zx_s_newa F J h2.1 h2.2.1 h2.2.2 (zx_wd_in g3) g1 hrc hrs kk
      · exact zx_no h
    · exact zx_no h
  case anewarray k =>
    simp only [zx_gb, Bool.and_eq_true, decide_eq_true_eq] at G
    unfold zx_do at h
    dsimp only at h
    split at h
    · split at h
      · rename_i h2
        obtain rfl := zx_sm h
        exact zx_s_anew F J h2.1 h2.2.1 G.2 h2.2.2 (zx_wd_in G.1.2) G.1.1 hrc hrs kk
      · exact zx_no h
    · exact zx_no h
  case multianewarray k q =>
    simp only [zx_gb, Bool.and_eq_true, decide_eq_true_eq] at G
    obtain ⟨⟨⟨g1, rfl⟩, g3⟩, g4⟩ := G
    unfold zx_do at h
    dsimp only at h
    split at h
    · split at h
      · rename_i h2
        obtain rfl := zx_sm h
        exact zx_s_mna F J h2.1.1 h2.1.2.1 h2.1.2.2 h2.2.1 h2.2.2 (zx_len_lt _) (zx_wd_in g3) (zx_wd_in g4) g1 hrc hrs kk
      · exact zx_no h
    · exact zx_no h
  case invokespecial k =>
    unfold zx_do at h
    dsimp only at h
    split at h
    · rename_i h9
      simp only [Bool.and_eq_true] at h9
      split at h
      · rename_i v st
        obtain rfl := zx_sm h
        obtain ⟨hx, hb, hml, hown, hts, -⟩ := F
        have e9 := Nat.eq_of_beq_eq_true h9.1
        subst e9
        simp only [zx_gb, Bool.and_eq_true, decide_eq_true_eq, if_true] at G
        have hle := Nat.le_of_ble_eq_true h9.2
        simp only [List.length_cons] at hle
        exact W.objInit hx hb hown (hts _ (zx_wd_in G.2.1.1)) (hts _ (zx_wd_in G.2.1.2)) (hts _ (zx_wd_in G.2.2)) rfl (by show L.size = _; rw [hlh.1, hml]) rfl G.1 hfr (by show 2 * 0 + _ + 12 ≤ _; rw [zx_cats]; omega) (kk H locs L (J.st (zx_tl hst)))
      · exact zx_no h
    · exact zx_no h
  case invokestatic k =>
    unfold zx_do at h
    dsimp only at h
    split at h
    · split at h
      · rename_i h2
        obtain rfl := zx_sm h
        obtain ⟨⟨e9, hl8, hn, hd, hs⟩, hq, hdd⟩ := h2
        subst e9
        simp only [zx_gb, Bool.and_eq_true, decide_eq_true_eq, if_true] at G
        exact zx_s_copy F J hn hd hs hq.1 hq.2.1 hq.2.2 hdd.1 hdd.2.1 hdd.2.2 (zx_wd_in G.2.1.1.1) (zx_wd_in G.2.1.1.2) (zx_wd_in G.2.1.2) (zx_wd_in G.2.2) G.1 hfr (by omega) kk
      · exact zx_no h
    · rename_i y x st
      obtain ⟨hx, hb, hml, hown, hts, -⟩ := F
      split at h
      · rename_i h9
        simp only [Bool.and_eq_true] at h9
        obtain rfl := zx_sm h
        have e9 := Nat.eq_of_beq_eq_true h9.1
        subst e9
        have hl8 := Nat.le_of_ble_eq_true h9.2
        simp only [zx_gb, Bool.and_eq_true, decide_eq_true_eq, if_true, if_neg (show ¬ (902 : Nat) = 901 by decide)] at G
        exact va_mmax hx hb (by rw [hml, hlh.1]) hown (hts _ (zx_wd_in G.2.1.1.1)) (hts _ (zx_wd_in G.2.1.1.2)) (hts _ (zx_wd_in G.2.1.2)) (hts _ (zx_wd_in G.2.2)) hfr (by rw [zx_cats]; omega) hrc hrs G.1 (kk H locs L (J.st (zx_mem_cons (zx_okv_i _ _) (zx_tl (zx_tl hst)))))
      · split at h
        · rename_i h9
          simp only [Bool.and_eq_true] at h9
          obtain rfl := zx_sm h
          have e9 := Nat.eq_of_beq_eq_true h9.1
          subst e9
          have hl8 := Nat.le_of_ble_eq_true h9.2
          simp only [zx_gb, Bool.and_eq_true, decide_eq_true_eq, if_true, if_neg (show ¬ (903 : Nat) = 901 by decide), if_neg (show ¬ (903 : Nat) = 902 by decide)] at G
          exact va_mmin hx hb (by rw [hml, hlh.1]) hown (hts _ (zx_wd_in G.2.1.1.1)) (hts _ (zx_wd_in G.2.1.1.2)) (hts _ (zx_wd_in G.2.1.2)) (hts _ (zx_wd_in G.2.2)) hfr (by rw [zx_cats]; omega) hrc hrs G.1 (kk H locs L (J.st (zx_mem_cons (zx_okv_i _ _) (zx_tl (zx_tl hst)))))
        · exact zx_no h
    · exact zx_no h
end ZW
