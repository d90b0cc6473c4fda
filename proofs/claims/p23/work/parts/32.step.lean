theorem adm_step {l S N O T B : Nat} (kc kr : Int32 → zx_Y → Option zx_Y) (t : Nat) (C D : zx_Y) (ht : t < N) (hR : R l S N O T B C (D (26, 0, 0, 0))) : ∃ C' D', R l S N O T B C' (D' (26, 0, 0, 0)) ∧ (∀ j, 475 ≤ j → D' (26, 0, 0, 0) j = D (26, 0, 0, 0) j) ∧ (∀ q, lg_X2_admitTrains_2 l kc (q + 1) (nI t) C = lg_X2_admitTrains_2 l kc q (nI (t + 1)) C') ∧ (∀ q, lg_X11_minute_66 kr (q + 1) (nI t) D = lg_X11_minute_66 kr q (nI (t + 1)) D') := by
  have hR0 := hR
  obtain ⟨hb, hs, hk, ho, hn, hts⟩ := hR0
  obtain ⟨hS, hS1, hN, hO, hT⟩ := hb.2.2.2.2.2.1
  have h0 := hb.1.1
  have h0d := hb.1.2
  have h3 := hb.2.2.1.1
  have h1d := hb.2.2.1.2
  have h4 := hb.2.2.2.1.1
  have h27 := hb.2.2.2.1.2
  obtain ⟨f, g, e, r, hw, hx, hp, ha, hord, hst⟩ := hts t ht
  obtain ⟨q1, q2, q2d, q3, q3d, q4, q5, q5d, q6, q6d, q7, q8, q9, q11, q14⟩ := id hx
  have ht10 : t < 10 := by omega
  have e4 : ¬ C (1, l, 0, 0) 4 ≤ nI t := by rw [h4]; exact nI_ge ht (by omega)
  have e27 : ¬ D (26, 0, 0, 0) 27 ≤ nI t := by rw [h27]; exact nI_ge ht (by omega)
  have no : D (26, 0, 0, 0) (75 + 40 * t) ≠ 0 → ∃ C' D', R l S N O T B C' (D' (26, 0, 0, 0)) ∧ (∀ j, 475 ≤ j → D' (26, 0, 0, 0) j = D (26, 0, 0, 0) j) ∧ (∀ q, lg_X2_admitTrains_2 l kc (q + 1) (nI t) C = lg_X2_admitTrains_2 l kc q (nI (t + 1)) C') ∧ (∀ q, lg_X11_minute_66 kr (q + 1) (nI t) D = lg_X11_minute_66 kr q (nI (t + 1)) D') := fun hne => by
    refine ⟨C, D, hR, fun _ _ => rfl, fun q => ?_, fun q => ?_⟩
    · rw [lg_X2_admitTrains_2.eq_2, if_neg e4, zi_n _ ht10 (by omega), q1, if_neg hne, nI_1]
    · rw [lg_X11_minute_66.eq_2, if_neg e27, bat_0 ht10, if_neg hne, nI_1]
  rcases hst with ⟨a1, a2, a3, a4, a5⟩ | ⟨a1, -⟩ | ⟨a1, -⟩ | ⟨a1, -⟩ | ⟨a1, -⟩
  · have bc : ∀ q, lg_X2_admitTrains_2 l kc (q + 1) (nI t) C = (if nI T < nI r then lg_X2_admitTrains_2 l kc q (nI (t + 1)) C else zb (g_X2_hasFreeTrack C l (nI f)) fun v1 => if v1 = 0 then lg_X2_admitTrains_2 l kc q (nI (t + 1)) C else zl (zx_up C (7, l, t, 0) 14 (nI T)) fun M1 => zm (g_X2_bringInto M1 l t (M1 (7, l, t, 0) 2)) fun M2 => lg_X2_admitTrains_2 l kc q (nI (t + 1)) M2) := fun q => by
      rw [lg_X2_admitTrains_2.eq_2, if_neg e4, zi_n _ ht10 (by omega), q1, if_pos a1, h0, q5, q2, nI_1]
    have br : ∀ q, lg_X11_minute_66 kr (q + 1) (nI t) D = (if nI T < nI r then lg_X11_minute_66 kr q (nI (t + 1)) D else zb (g_X11_hasTrack D (nI f)) fun v1 => if v1 = 0 then lg_X11_minute_66 kr q (nI (t + 1)) D else zm (g_X11_comeIn D (nI t) (nI f)) fun M1 => zm (g_X11_set M1 (nI t) 9 (M1 (26, 0, 0, 0) 0)) fun M2 => lg_X11_minute_66 kr q (nI (t + 1)) M2) := fun q => by
      rw [lg_X11_minute_66.eq_2, if_neg e27, bat_0 ht10, if_pos a1, bat_4 ht10, h0d, q5d, bat_1 ht10, bat_1 ht10, q2d, nI_1]
    by_cases c : nI T < nI r
    · exact ⟨C, D, hR, fun _ _ => rfl, fun q => by rw [bc, if_pos c], fun q => by rw [br, if_pos c]⟩
    · obtain ⟨b, hb01, f1, f2⟩ := free_pair hR hw.1
      rcases hb01 with rfl | rfl
      · exact ⟨C, D, hR, fun _ _ => rfl, fun q => by rw [bc, if_neg c, f1, zb_some, if_pos rfl], fun q => by rw [br, if_neg c, f2, zb_some, if_pos rfl]⟩
      · refine ⟨_, _, adm_R hR ht a5 hw hx hp ha hord, (fun j hj => (by first | (simp (disch := omega) only [up_n]; done) | rfl)), fun q => ?_, fun q => ?_⟩
        · rw [bc, if_neg c, f1, zb_some, if_neg (by decide), zl_def, show zx_up C (7, l, t, 0) 14 (nI T) (7, l, t, 0) 2 = nI f from by simp (disch := omega) only [up_n]; exact q2,
            bri_n hS (show g < 8 by omega) hw.1 (by simp (disch := omega) only [up_n]; exact h3) (show _ = nI T by simp (disch := omega) only [up_n]; exact h0) (show _ = nI g by simp (disch := omega) only [up_n]; exact q3) hw.2.2.1, zm_some]
          simp (disch := omega) only [up_n]
        · rw [br, if_neg c, f2, zb_some, if_neg (by decide), com_e ht10 (by omega) h0d, zm_some, mset_9 ht10]
          simp (disch := omega) only [up_n, h0d]
  · exact no (by rw [a1]; decide)
  · exact no (by rw [a1]; decide)
  · exact no (by rw [a1]; decide)
  · exact no (by rcases a1 with a1 | a1 <;> rw [a1] <;> decide)
theorem rlf_step {l S N O T B : Nat} (hBT : B ≤ T) (kc kr : Int32 → zx_Y → Option zx_Y) (t : Nat) (C D : zx_Y) (ht : t < N) (hR : R l S N O T B C (D (26, 0, 0, 0))) : ∃ C' D', R l S N O T B C' (D' (26, 0, 0, 0)) ∧ (∀ j, 475 ≤ j → D' (26, 0, 0, 0) j = D (26, 0, 0, 0) j) ∧ (∀ q, lg_X2_endReliefs_2 l kc (q + 1) (nI t) C = lg_X2_endReliefs_2 l kc q (nI (t + 1)) C') ∧ (∀ q, lg_X11_minute_146 kr (q + 1) (nI t) D = lg_X11_minute_146 kr q (nI (t + 1)) D') := by
  have hR0 := hR
  obtain ⟨hb, hs, hk, ho, hn, hts⟩ := hR0
  obtain ⟨hS, hS1, hN, hO, hT⟩ := hb.2.2.2.2.2.1
  have h0 := hb.1.1
  have h0d := hb.1.2
  have h3 := hb.2.2.1.1
  have h1d := hb.2.2.1.2
  have h4 := hb.2.2.2.1.1
  have h27 := hb.2.2.2.1.2
  obtain ⟨f, g, e, r, hw, hx, hp, ha, hord, hst⟩ := hts t ht
  obtain ⟨q1, q2, q2d, q3, q3d, q4, q5, q5d, q6, q6d, q7, q8, q9, q11, q14⟩ := id hx
  have ht10 : t < 10 := by omega
  have e4 : ¬ C (1, l, 0, 0) 4 ≤ nI t := by rw [h4]; exact nI_ge ht (by omega)
  have e27 : ¬ D (26, 0, 0, 0) 27 ≤ nI t := by rw [h27]; exact nI_ge ht (by omega)
  have no : D (26, 0, 0, 0) (75 + 40 * t) ≠ 3 → ∃ C' D', R l S N O T B C' (D' (26, 0, 0, 0)) ∧ (∀ j, 475 ≤ j → D' (26, 0, 0, 0) j = D (26, 0, 0, 0) j) ∧ (∀ q, lg_X2_endReliefs_2 l kc (q + 1) (nI t) C = lg_X2_endReliefs_2 l kc q (nI (t + 1)) C') ∧ (∀ q, lg_X11_minute_146 kr (q + 1) (nI t) D = lg_X11_minute_146 kr q (nI (t + 1)) D') := fun hne => by
    refine ⟨C, D, hR, fun _ _ => rfl, fun q => ?_, fun q => ?_⟩
    · rw [lg_X2_endReliefs_2.eq_2, if_neg e4, zi_n _ ht10 (by omega), q1, if_neg hne, nI_1]
    · rw [lg_X11_minute_146.eq_2, if_neg e27, bat_0 ht10, if_neg hne, nI_1]
  rcases hst with ⟨a1, -⟩ | ⟨a1, -⟩ | ⟨a1, -⟩ | ⟨a1, a2, p, s0, u, w, a3, a4, a5, a6, a7, a8, a9, a10, a11⟩ | ⟨a1, -⟩
  · exact no (by rw [a1]; decide)
  · exact no (by rw [a1]; decide)
  · exact no (by rw [a1]; decide)
  · by_cases c : T < u
    · have hwu : w = u := by omega
      subst hwu
      refine ⟨C, D, hR, fun _ _ => rfl, fun q => ?_, fun q => ?_⟩
      · rw [lg_X2_endReliefs_2.eq_2, if_neg e4, zi_n _ ht10 (by omega), q1, if_pos a1, h0, a10, if_pos (nI_lt c (by omega)), nI_1]
      · rw [lg_X11_minute_146.eq_2, if_neg e27, bat_0 ht10, if_pos a1, bat_8 ht10, h0d, a8, if_pos (nI_lt c (by omega)), nI_1]
    · refine ⟨_, _, rlf_R hR ht a2 a3 a4 a5 hw hx hp ha hord, (fun j hj => (by first | (simp (disch := omega) only [up_n]; done) | rfl)), fun q => ?_, fun q => ?_⟩
      · rw [lg_X2_endReliefs_2.eq_2, if_neg e4, zi_n _ ht10 (by omega), q1, if_pos a1, h0, a10, if_neg (nI_nlt (by omega) (by omega)), nI_1]
        simp (disch := omega) only [zl_def, up_n, h0]
      · rw [lg_X11_minute_146.eq_2, if_neg e27, bat_0 ht10, if_pos a1, bat_8 ht10, h0d, a8, if_neg (nI_nlt (by omega) (by omega)), nI_1, bat_11 ht10, a3, bec_e ht10 h0d, zm_some, mset_9 ht10]
        simp (disch := omega) only [up_n, h0d]
  · exact no (by rcases a1 with a1 | a1 <;> rw [a1] <;> decide)
theorem zmax_1 {k : Nat} (h : k < 2 ^ 31) : zmax 1 (nI k) = nI (if k = 0 then 1 else k) := by
  unfold zmax
  rcases Nat.lt_or_ge 1 k with c | c
  · rw [if_pos (by rw [show (1 : Int32) = nI 1 from rfl]; exact nI_lt c h), if_neg (by omega)]
  · rw [if_neg (by rw [show (1 : Int32) = nI 1 from rfl]; exact nI_nlt c (by omega))]
    by_cases z : k = 0
    · rw [if_pos z]; rfl
    · rw [if_neg z, show k = 1 by omega]; rfl
/-- one train of the ranking is dispatched -/
theorem dis_step {l S N O T B t : Nat} {C D : zx_Y} (hB : T < B) (ht : t < N) (hR : R l S N O T B C (D (26, 0, 0, 0))) (hs1 : D (26, 0, 0, 0) (75 + 40 * t) = 1) : ∃ C' D', R l S N O T B C' (D' (26, 0, 0, 0)) ∧ (∀ j, 475 ≤ j → D' (26, 0, 0, 0) j = D (26, 0, 0, 0) j) ∧ (∀ u, u < N → u ≠ t → D' (26, 0, 0, 0) (75 + 40 * u) = D (26, 0, 0, 0) (75 + 40 * u)) ∧ (∀ j, C' (10, l, 0, 0) j = C (10, l, 0, 0) j) ∧ C' (1, l, 0, 0) 11 = C (1, l, 0, 0) 11 ∧ (∀ j, D' (27, 0, 0, 0) j = D (27, 0, 0, 0) j) ∧ D' (25, 0, 0, 0) 2 = D (25, 0, 0, 0) 2 ∧
    (∀ F : zx_Y → Option zx_Y, (zb (g_X2_obstacleOf C l t) fun v1 => if v1 = 8 then (zb (g_X9_nextBlock C l t) fun v2 => zm (g_X2_enter C l t v2) fun M1 => F M1) else (zb (g_X2_isCrewAlone C l t v1) fun v3 => if v3 = 0 then F C else (zm (g_X2_beginRelief C l t) fun M2 => F M2))) = F C') ∧
    (∀ F : zx_Y → Option zx_Y, (zb (g_X11_mayRun D (nI t)) fun v1 => if v1 = 0 then (zb (g_X11_isWayFree D (nI t)) fun v2 => if v2 = 0 then F D else (zb (g_X11_minutesFor D (nI t)) fun v3 => zb (g_X11_at D (nI t) 6) fun v4 => if v4 < v3 then F D else (zm (g_X11_relieve D (nI t)) fun M1 => F M1))) else (zm (g_X11_enter D (nI t)) fun M2 => F M2)) = F D') := by
  have hR0 := hR
  obtain ⟨hb, hs, hk, ho, hn, hts⟩ := hR0
  obtain ⟨hS, hS1, hN, hO, hT⟩ := hb.2.2.2.2.2.1
  have h0 := hb.1.1
  have h0d := hb.1.2
  have h3 := hb.2.2.1.1
  have h1d := hb.2.2.1.2
  have h4 := hb.2.2.2.1.1
  have h27 := hb.2.2.2.1.2
  obtain ⟨f', g', p', w, oc, fr, ov, wf, wg, wfg, wy, w2, w3, w1d, w2d, w9, w11, hw12, hoc, hfr, n1, n2, n3, n4, o1, o2, f1, f2, m1, m2, v1, v2, w7, ob, wfr, may⟩ := way_pair hR ht hs1
  obtain ⟨f, g, e, r, hw, hx, hp, ha, hord, hst⟩ := hts t ht
  obtain ⟨q1, q2, q2d, q3, q3d, q4, q5, q5d, q6, q6d, q7, q8, q9, q11, q14⟩ := id hx
  have ht10 : t < 10 := by omega
  have ef : f' = f := nI_inj (w2.symm.trans q2) (by omega) (by omega)
  have eg : g' = g := nI_inj (w3.symm.trans q3) (by omega) (by omega)
  subst ef eg
  rcases hst with ⟨a1, -⟩ | ⟨a1, a2, a3, p, a4, a5, a6⟩ | ⟨a1, -⟩ | ⟨a1, -⟩ | ⟨a1, -⟩
  · rw [hs1] at a1; exact absurd a1 (by decide)
  · obtain ⟨b1, b2, b3, b4, b5, b6⟩ := Wy_b a5 hw.1 hw.2.1
    have b1' := (Wy_b wy wf wg).1
    have ep : p' = p := nI_inj (w11.symm.trans a4) (by omega) (by omega)
    subst ep
    have cr : ∀ x, g_X2_isCrewAlone C l t x = some (if x = 6 ∧ ¬ D (26, 0, 0, 0) (75 + 40 * t + 6) < nI w then 1 else 0) := fun x => by
      unfold g_X2_isCrewAlone
      rw [n2, zb_some, m1, zb_some, q7]
      grind
    by_cases c1 : oc = -5 ∧ (nx f' g' p' = g' ∨ fr = 1) ∧ ov ≤ 0
    · refine ⟨_, _, ent_R hR ht hw12.1 hw12.2 a5 a6 hw hx hp ha hord, (fun j hj => (by first | (simp (disch := omega) only [up_n]; done) | rfl)), ?_, ?_, ?_, ?_, ?_, fun F => ?_, fun F => ?_⟩
      · intro u hu hne
        simp (disch := omega) only [up_n]
      · intro j
        simp (disch := omega) only [up_n]
      · simp (disch := omega) only [up_n]
      · intro j
        simp (disch := omega) only [up_n]
      · simp (disch := omega) only [up_n]
      · rw [ob, zb_some, if_pos c1.1, if_pos c1.2.1, if_pos c1.2.2, if_pos rfl, n2, zb_some]
        unfold g_X2_enter
        rw [hbl_1 h3 hS b2, zb_some, if_neg (by decide), m1, zb_some, zi_n _ (by omega) (by omega), zl_def]
        rw [show (zx_up C (5, l, bk f' g' p', 0) 2 (C (5, l, bk f' g' p', 0) 2 + 1)) (7, l, t, 0) 9 = nI p' from by simp (disch := omega) only [up_n]; exact w9, note_1 (by omega), zm_some]
        rw [(nxt_1 (by omega) (by omega) a5 (by simp (disch := omega) only [up_n]; exact q2) (by simp (disch := omega) only [up_n]; exact q3) (by simp (disch := omega) only [up_n]; exact w9)).1, zb_some]
        simp (disch := omega) only [zl_def, zm_some, up_n, h0, nI_add]
      · rw [may, zb_some, if_pos c1, if_neg (by decide)]
        unfold g_X11_enter
        rw [bat_11 ht10, w11, n4, zb_some, m2, zb_some, set_dep ht10 (by omega), zm_some, h0d, bec_e (T := T) ht10 (by simp (disch := omega) only [up_n]; exact h0d), zm_some, mset_8 ht10, show (43 : Int32) = nI 43 from rfl, nI_add, zi_n _ (by omega) (by omega), zi_n _ (by omega) (by omega), zl_def, zm_some]
        simp (disch := omega) only [up_n, h0d, nI_add]
    · have may0 : g_X11_mayRun D (nI t) = some 0 := by rw [may, if_neg c1]
      by_cases c2 : (oc = -5 ∧ (nx f' g' p' = g' ∨ fr = 1)) ∧ ¬ D (26, 0, 0, 0) (75 + 40 * t + 6) < nI w
      · have ob6 : g_X2_obstacleOf C l t = some 6 := by
          rw [ob, if_pos c2.1.1, if_pos c2.1.2, if_neg (fun q => c1 ⟨c2.1.1, c2.1.2, q⟩)]
        obtain ⟨m, hm, hd26⟩ := hb.2.2.2.2.2.2
        have hc2 : C (1, l, 0, 0) 2 = nI m := hb.2.1.2.trans hd26
        have rl : ∀ las, las ≤ 180 → ((if D (26, 0, 0, 0) (17 + p') = 1 then m else 3 * m) = las) → g_X2_beginRelief C l t = some (zx_up (zx_up (zx_up (zx_up (zx_up C (7, l, t, 0) 1 3) (7, l, t, 0) 11 (nI T)) (7, l, t, 0) 12 (nI (T + (if las = 0 then 1 else las)))) (7, l, t, 0) 14 (-5)) (7, l, t, 0) 8 (C (7, l, t, 0) 8 + 1)) ∧ g_X11_relieve D (nI t) = some (zx_up (zx_up (zx_up (zx_up (zx_up (zx_up (zx_up D (26, 0, 0, 0) (75 + 40 * t) 3) (26, 0, 0, 0) (75 + 40 * t + 11) (nI p')) (26, 0, 0, 0) (75 + 40 * t + 7) (nI T)) (26, 0, 0, 0) (75 + 40 * t + 8) (-5)) (26, 0, 0, 0) (75 + 40 * t + 8) (nI (T + las))) (26, 0, 0, 0) (75 + 40 * t + 9) (-5)) (26, 0, 0, 0) (75 + 40 * t + 10) (D (26, 0, 0, 0) (75 + 40 * t + 10) + 1)) := fun las hl1 hl2 => by
          have hsp := (hs p' (by omega)).2 b1
          constructor
          · unfold g_X2_beginRelief
            rw [w9, hst_1 h3 hS b1, zb_some, if_neg (by decide), zi_n _ (by omega) (by omega), hsp.2.1]
            by_cases z : D (26, 0, 0, 0) (17 + p') = 1
            · rw [if_pos z] at hl2
              subst hl2
              rw [z, if_neg (by decide)]
              simp (disch := omega) only [zl_def, up_n, h0, hc2, zmax_1, nI_add]
            · rw [if_neg z] at hl2
              subst hl2
              have z0 : D (26, 0, 0, 0) (17 + p') = 0 := by
                rcases (hs p' (by omega)).1 with y | y
                · rw [← hsp.2.1]; exact y
                · exact absurd (hsp.2.1.symm.trans y) z
              rw [if_pos z0]
              simp (disch := omega) only [zl_def, up_n, h0, hc2, show (3 : Int32) = nI 3 from rfl, pk_mul, zmax_1, nI_add]
          · unfold g_X11_relieve
            rw [bat_11 ht10, w11, bec_e ht10 h0d, zm_some, show (17 : Int32) = nI 17 from rfl, nI_add, zi_n _ (by omega) (by omega)]
            simp (disch := omega) only [up_n, h0d, hd26]
            by_cases z : D (26, 0, 0, 0) (17 + p') = 1
            · rw [if_pos z] at hl2 ⊢
              subst hl2
              rw [mset_8 ht10, mset_9 ht10, bat_10 ht10, mset_10 ht10]
              simp (disch := omega) only [up_n, Int32.mul_one, nI_add]
            · rw [if_neg z] at hl2 ⊢
              subst hl2
              rw [mset_8 ht10, mset_9 ht10, bat_10 ht10, mset_10 ht10]
              simp (disch := omega) only [up_n, show (3 : Int32) = nI 3 from rfl, pk_mul, nI_add, Nat.mul_comm]
        generalize hlas : (if D (26, 0, 0, 0) (17 + p') = 1 then m else 3 * m) = las
        have hlas2 : las ≤ 180 := by rw [← hlas]; split <;> omega
        obtain ⟨r1, r2⟩ := rl las hlas2 hlas
        have huw : (T + (if las = 0 then 1 else las) = T + las ∧ T + 1 ≤ T + las) ∨ (T + (if las = 0 then 1 else las) = T + 1 ∧ T + las ≤ T) := by split <;> omega
        refine ⟨_, _, rlb_R hR ht hB (show T + las ≤ 20000 by omega) huw a3 a4 a5 a6 hw hx hp ha hord, (fun j hj => (by first | (simp (disch := omega) only [up_n]; done) | rfl)), ?_, ?_, ?_, ?_, ?_, fun F => ?_, fun F => ?_⟩
        · intro u hu hne
          simp (disch := omega) only [up_n]
        · intro j
          simp (disch := omega) only [up_n]
        · simp (disch := omega) only [up_n]
        · intro j
          simp (disch := omega) only [up_n]
        · simp (disch := omega) only [up_n]
        · have cr6 : g_X2_isCrewAlone C l t 6 = some 1 := by rw [cr, if_pos ⟨rfl, c2.2⟩]
          rw [ob6, zb_some, if_neg (show ¬ (6 : Int32) = 8 by decide), cr6, zb_some, if_neg (show ¬ (1 : Int32) = 0 by decide), r1, zm_some]
        · rw [may0, zb_some, if_pos rfl, wfr, zb_some, if_pos c2.1, if_neg (by decide), m2, zb_some, bat_6 ht10, if_neg c2.2, r2, zm_some]
      · refine ⟨C, D, hR, fun _ _ => rfl, fun _ _ _ => rfl, fun _ => rfl, rfl, fun _ => rfl, rfl, fun F => ?_, fun F => ?_⟩
        · rw [ob, zb_some]
          simp only [cr, zb_some]
          grind
        · rw [may0, zb_some, if_pos rfl, wfr, zb_some, m2, zb_some, bat_6 ht10]
          grind
  · rw [hs1] at a1; exact absurd a1 (by decide)
  · rw [hs1] at a1; exact absurd a1 (by decide)
  · rw [hs1] at a1; rcases a1 with a1 | a1 <;> exact absurd a1 (by decide)
