theorem fr_X8_append {M : zx_Y} {x0 : Int32} {rM : zx_Y} {c : zx_H} {j_ : Nat} (h : g_X8_append M x0 = some rM) (q_1 : zc c j_ ≠ 1) : rM c j_ = M c j_ := by
  unfold g_X8_append at h
  have hf : M c j_ = M c j_ := rfl
  rcases fr_br h with h | h
  · exact fr_r0 h hf
  · rcases fr_br h with h | h
    · obtain ⟨k1, h⟩ := fr_ix h
      obtain ⟨M1, hf, h⟩ := fr_pu h hf q_1
      obtain ⟨M2, hf, h⟩ := fr_pu h hf q_1
      exact fr_r0 h hf
    · exact fr_r0 h hf
theorem fr_X10_feed {M : zx_Y} {x0 : Int32} {x1 : Int32} {x2 : Int32} {x3 : Int32} {x4 : Int32} {x5 : Int32} {rv : Int32} {rM : zx_Y} {c : zx_H} {j_ : Nat} (h : g_X10_feed M x0 x1 x2 x3 x4 x5 = some (rv, rM)) (q_1 : zc c j_ ≠ 1) : rM c j_ = M c j_ := by
  unfold g_X10_feed at h
  have hf : M c j_ = M c j_ := rfl
  obtain ⟨v1, h⟩ := fr_cb h
  rcases fr_br h with h | h
  · rcases fr_br h with h | h
    · exact fr_ri h hf
    · rcases fr_br h with h | h
      · exact fr_ri h hf
      · exact fr_ri h hf
  · obtain ⟨v2, h⟩ := fr_cb h
    rcases fr_br h with h | h
    · rcases fr_br h with h | h
      · exact fr_ri h hf
      · rcases fr_br h with h | h
        · exact fr_ri h hf
        · exact fr_ri h hf
    · obtain ⟨v3, h⟩ := fr_cb h
      rcases fr_br h with h | h
      · rcases fr_br h with h | h
        · exact fr_ri h hf
        · rcases fr_br h with h | h
          · exact fr_ri h hf
          · exact fr_ri h hf
      · obtain ⟨v4, h⟩ := fr_cb h
        rcases fr_br h with h | h
        · rcases fr_br h with h | h
          · exact fr_ri h hf
          · rcases fr_br h with h | h
            · exact fr_ri h hf
            · exact fr_ri h hf
        · obtain ⟨v5, h⟩ := fr_cb h
          rcases fr_br h with h | h
          · rcases fr_br h with h | h
            · exact fr_ri h hf
            · rcases fr_br h with h | h
              · exact fr_ri h hf
              · exact fr_ri h hf
          · rcases fr_br h with h | h
            · exact fr_ri h hf
            · rcases fr_br h with h | h
              · exact fr_ri h hf
              · rcases fr_br h with h | h
                · obtain ⟨M1, hf, h⟩ := fr_cm h (fun _ hv => fr_X8_append hv q_1) hf
                  rcases fr_br h with h | h
                  · rcases fr_br h with h | h
                    · rcases fr_br h with h | h
                      · rcases fr_br h with h | h
                        · exact fr_ri h hf
                        · obtain ⟨M2, hf, h⟩ := fr_cm h (fun _ hv => fr_X8_append hv q_1) hf
                          exact fr_ri h hf
                      · obtain ⟨M3, hf, h⟩ := fr_cm h (fun _ hv => fr_X8_append hv q_1) hf
                        rcases fr_br h with h | h
                        · exact fr_ri h hf
                        · obtain ⟨M4, hf, h⟩ := fr_cm h (fun _ hv => fr_X8_append hv q_1) hf
                          exact fr_ri h hf
                    · obtain ⟨M5, hf, h⟩ := fr_cm h (fun _ hv => fr_X8_append hv q_1) hf
                      rcases fr_br h with h | h
                      · rcases fr_br h with h | h
                        · exact fr_ri h hf
                        · obtain ⟨M6, hf, h⟩ := fr_cm h (fun _ hv => fr_X8_append hv q_1) hf
                          exact fr_ri h hf
                      · obtain ⟨M7, hf, h⟩ := fr_cm h (fun _ hv => fr_X8_append hv q_1) hf
                        rcases fr_br h with h | h
                        · exact fr_ri h hf
                        · obtain ⟨M8, hf, h⟩ := fr_cm h (fun _ hv => fr_X8_append hv q_1) hf
                          exact fr_ri h hf
                  · obtain ⟨M9, hf, h⟩ := fr_cm h (fun _ hv => fr_X8_append hv q_1) hf
                    rcases fr_br h with h | h
                    · rcases fr_br h with h | h
                      · rcases fr_br h with h | h
                        · exact fr_ri h hf
                        · obtain ⟨M10, hf, h⟩ := fr_cm h (fun _ hv => fr_X8_append hv q_1) hf
                          exact fr_ri h hf
                      · obtain ⟨M11, hf, h⟩ := fr_cm h (fun _ hv => fr_X8_append hv q_1) hf
                        rcases fr_br h with h | h
                        · exact fr_ri h hf
                        · obtain ⟨M12, hf, h⟩ := fr_cm h (fun _ hv => fr_X8_append hv q_1) hf
                          exact fr_ri h hf
                    · obtain ⟨M13, hf, h⟩ := fr_cm h (fun _ hv => fr_X8_append hv q_1) hf
                      rcases fr_br h with h | h
                      · rcases fr_br h with h | h
                        · exact fr_ri h hf
                        · obtain ⟨M14, hf, h⟩ := fr_cm h (fun _ hv => fr_X8_append hv q_1) hf
                          exact fr_ri h hf
                      · obtain ⟨M15, hf, h⟩ := fr_cm h (fun _ hv => fr_X8_append hv q_1) hf
                        rcases fr_br h with h | h
                        · exact fr_ri h hf
                        · obtain ⟨M16, hf, h⟩ := fr_cm h (fun _ hv => fr_X8_append hv q_1) hf
                          exact fr_ri h hf
                · exact fr_ri h hf
theorem fl_X11_feed_94 {M0 : zx_Y} {x0 : Int32} {x1 : Int32} {x2 : Int32} {x3 : Int32} {x4 : Int32} {x5 : Int32} {kk : Int32 → zx_Y → Option (Int32 × zx_Y)} {rv : Int32} {rM : zx_Y} {c : zx_H} {j_ : Nat} (hk : ∀ (w8 : Int32) (M : zx_Y), kk w8 M = some (rv, rM) → M c j_ = M0 c j_ → rM c j_ = M0 c j_) (q_12 : zc c j_ ≠ 12) (q_24 : zc c j_ ≠ 24) : ∀ (q : Nat) (w8 : Int32) (M : zx_Y), lg_X11_feed_94 x0 x1 x2 x3 x4 x5 kk q w8 M = some (rv, rM) → M c j_ = M0 c j_ → rM c j_ = M0 c j_
  | 0, w8, M, h, hf => by
    rw [lg_X11_feed_94.eq_1] at h
    cases h
  | q + 1, w8, M, h, hf => by
    rw [lg_X11_feed_94.eq_2] at h
    rcases fr_br h with h | h
    · exact hk _ _ h hf
    · rcases fr_br h with h | h
      · obtain ⟨k1, h⟩ := fr_ix h
        obtain ⟨M1, hf, h⟩ := fr_pu h hf q_12
        obtain ⟨M2, hf, h⟩ := fr_pu h hf q_24
        exact fl_X11_feed_94 hk q_12 q_24 q (w8 + 1) M2 h hf
      · rcases fr_br h with h | h
        · obtain ⟨k2, h⟩ := fr_ix h
          obtain ⟨M3, hf, h⟩ := fr_pu h hf q_12
          obtain ⟨M4, hf, h⟩ := fr_pu h hf q_24
          exact fl_X11_feed_94 hk q_12 q_24 q (w8 + 1) M4 h hf
        · rcases fr_br h with h | h
          · obtain ⟨k3, h⟩ := fr_ix h
            obtain ⟨M5, hf, h⟩ := fr_pu h hf q_12
            obtain ⟨M6, hf, h⟩ := fr_pu h hf q_24
            exact fl_X11_feed_94 hk q_12 q_24 q (w8 + 1) M6 h hf
          · rcases fr_br h with h | h
            · obtain ⟨k4, h⟩ := fr_ix h
              obtain ⟨M7, hf, h⟩ := fr_pu h hf q_12
              obtain ⟨M8, hf, h⟩ := fr_pu h hf q_24
              exact fl_X11_feed_94 hk q_12 q_24 q (w8 + 1) M8 h hf
            · obtain ⟨k5, h⟩ := fr_ix h
              obtain ⟨M9, hf, h⟩ := fr_pu h hf q_12
              obtain ⟨M10, hf, h⟩ := fr_pu h hf q_24
              exact fl_X11_feed_94 hk q_12 q_24 q (w8 + 1) M10 h hf
theorem fr_X11_feed {M : zx_Y} {x0 : Int32} {x1 : Int32} {x2 : Int32} {x3 : Int32} {x4 : Int32} {x5 : Int32} {rv : Int32} {rM : zx_Y} {c : zx_H} {j_ : Nat} (h : g_X11_feed M x0 x1 x2 x3 x4 x5 = some (rv, rM)) (q_12 : zc c j_ ≠ 12) (q_24 : zc c j_ ≠ 24) : rM c j_ = M c j_ := by
  unfold g_X11_feed at h
  have hf : M c j_ = M c j_ := rfl
  obtain ⟨v1, h⟩ := fr_cb h
  rcases fr_br h with h | h
  · obtain ⟨v2, h⟩ := fr_cb h
    rcases fr_br h with h | h
    · exact fr_ri h hf
    · exact fr_ri h hf
  · obtain ⟨v3, h⟩ := fr_cb h
    rcases fr_br h with h | h
    · obtain ⟨v4, h⟩ := fr_cb h
      rcases fr_br h with h | h
      · exact fr_ri h hf
      · exact fr_ri h hf
    · obtain ⟨v5, h⟩ := fr_cb h
      rcases fr_br h with h | h
      · obtain ⟨v6, h⟩ := fr_cb h
        rcases fr_br h with h | h
        · exact fr_ri h hf
        · exact fr_ri h hf
      · obtain ⟨v7, h⟩ := fr_cb h
        rcases fr_br h with h | h
        · obtain ⟨v8, h⟩ := fr_cb h
          rcases fr_br h with h | h
          · exact fr_ri h hf
          · exact fr_ri h hf
        · obtain ⟨v9, h⟩ := fr_cb h
          rcases fr_br h with h | h
          · obtain ⟨v10, h⟩ := fr_cb h
            rcases fr_br h with h | h
            · exact fr_ri h hf
            · exact fr_ri h hf
          · obtain ⟨v11, h⟩ := fr_cb h
            rcases fr_br h with h | h
            · exact fr_ri h hf
            · rcases fr_br h with h | h
              · refine fl_X11_feed_94 (fun v12 M1 h hf => ?_) q_12 q_24 1000 0 M h hf
                exact fr_ri h hf
              · exact fr_ri h hf
theorem fr_X8_readDigit {M : zx_Y} {x0 : Int32} {rv : Int32} {rM : zx_Y} {c : zx_H} {j_ : Nat} (h : g_X8_readDigit M x0 = some (rv, rM)) (q_1 : zc c j_ ≠ 1) : rM c j_ = M c j_ := by
  unfold g_X8_readDigit at h
  have hf : M c j_ = M c j_ := rfl
  obtain ⟨v1, h⟩ := fr_cb h
  rcases fr_br h with h | h
  · exact fr_ri h hf
  · rcases fr_br h with h | h
    · obtain ⟨M1, hf, h⟩ := fr_pu h hf q_1
      exact fr_ri h hf
    · exact fr_ri h hf
theorem fl_X8_readNumber_15 {M0 : zx_Y} {kk : Int32 → Int32 → zx_Y → Option (Int32 × zx_Y)} {rv : Int32} {rM : zx_Y} {c : zx_H} {j_ : Nat} (hk : ∀ (w1 : Int32) (w2 : Int32) (M : zx_Y), kk w1 w2 M = some (rv, rM) → M c j_ = M0 c j_ → rM c j_ = M0 c j_) (q_1 : zc c j_ ≠ 1) : ∀ (q : Nat) (w1 : Int32) (w2 : Int32) (M : zx_Y), lg_X8_readNumber_15 kk q w1 w2 M = some (rv, rM) → M c j_ = M0 c j_ → rM c j_ = M0 c j_
  | 0, w1, w2, M, h, hf => by
    rw [lg_X8_readNumber_15.eq_1] at h
    cases h
  | q + 1, w1, w2, M, h, hf => by
    rw [lg_X8_readNumber_15.eq_2] at h
    rcases fr_br h with h | h
    · exact hk _ _ _ h hf
    · obtain ⟨v1, M1, hf, h⟩ := fr_cv h (fun _ _ hv => fr_X8_readDigit hv q_1) hf
      rcases fr_br h with h | h
      · exact fl_X8_readNumber_15 hk q_1 q ((10 * w1) + v1) (w2 + 1) M1 h hf
      · exact fr_ri h hf
theorem fr_X8_readNumber {M : zx_Y} {rv : Int32} {rM : zx_Y} {c : zx_H} {j_ : Nat} (h : g_X8_readNumber M = some (rv, rM)) (q_1 : zc c j_ ≠ 1) : rM c j_ = M c j_ := by
  unfold g_X8_readNumber at h
  have hf : M c j_ = M c j_ := rfl
  obtain ⟨v1, M1, hf, h⟩ := fr_cv h (fun _ _ hv => fr_X8_readDigit hv q_1) hf
  rcases fr_br h with h | h
  · refine fl_X8_readNumber_15 (fun v2 v3 M2 h hf => ?_) q_1 1000 v1 1 M1 h hf
    exact fr_ri h hf
  · exact fr_ri h hf
theorem fr_X8_take {M : zx_Y} {x0 : Int32} {rv : Int32} {rM : zx_Y} {c : zx_H} {j_ : Nat} (h : g_X8_take M x0 = some (rv, rM)) (q_1 : zc c j_ ≠ 1) : rM c j_ = M c j_ := by
  unfold g_X8_take at h
  have hf : M c j_ = M c j_ := rfl
  obtain ⟨v1, h⟩ := fr_cb h
  rcases fr_br h with h | h
  · obtain ⟨M1, hf, h⟩ := fr_pu h hf q_1
    exact fr_ri h hf
  · exact fr_ri h hf
theorem fl_X8_readLengths_2 {M0 : zx_Y} {i : Nat} {kk : Int32 → zx_Y → Option (Int32 × zx_Y)} {rv : Int32} {rM : zx_Y} {c : zx_H} {j_ : Nat} (hk : ∀ (w2 : Int32) (M : zx_Y), kk w2 M = some (rv, rM) → M c j_ = M0 c j_ → rM c j_ = M0 c j_) (q_1 : zc c j_ ≠ 1) : ∀ (q : Nat) (w2 : Int32) (M : zx_Y), lg_X8_readLengths_2 i kk q w2 M = some (rv, rM) → M c j_ = M0 c j_ → rM c j_ = M0 c j_
  | 0, w2, M, h, hf => by
    rw [lg_X8_readLengths_2.eq_1] at h
    cases h
  | q + 1, w2, M, h, hf => by
    rw [lg_X8_readLengths_2.eq_2] at h
    rcases fr_br h with h | h
    · exact hk _ _ h hf
    · obtain ⟨v1, M1, hf, h⟩ := fr_cv h (fun _ _ hv => fr_X8_readNumber hv q_1) hf
      obtain ⟨k1, h⟩ := fr_ix h
      obtain ⟨M2, hf, h⟩ := fr_pu h hf q_1
      obtain ⟨M3, hf, h⟩ := fr_pu h hf q_1
      obtain ⟨k2, h⟩ := fr_ix h
      rcases fr_br h with h | h
      · rcases fr_br h with h | h
        · exact fr_ri h hf
        · obtain ⟨v2, M4, hf, h⟩ := fr_cv h (fun _ _ hv => fr_X8_take hv q_1) hf
          rcases fr_br h with h | h
          · exact fr_ri h hf
          · exact fl_X8_readLengths_2 hk q_1 q (w2 + 1) M4 h hf
      · exact fr_ri h hf
theorem fr_X8_readLengths {M : zx_Y} {i : Nat} {rv : Int32} {rM : zx_Y} {c : zx_H} {j_ : Nat} (h : g_X8_readLengths M i = some (rv, rM)) (q_1 : zc c j_ ≠ 1) : rM c j_ = M c j_ := by
  unfold g_X8_readLengths at h
  have hf : M c j_ = M c j_ := rfl
  refine fl_X8_readLengths_2 (fun v1 M1 h hf => ?_) q_1 1000 0 M h hf
  exact fr_ri h hf
theorem fr_X8_readOrder {M : zx_Y} {i : Nat} {rv : Int32} {rM : zx_Y} {c : zx_H} {j_ : Nat} (h : g_X8_readOrder M i = some (rv, rM)) (q_1 : zc c j_ ≠ 1) : rM c j_ = M c j_ := by
  unfold g_X8_readOrder at h
  have hf : M c j_ = M c j_ := rfl
  obtain ⟨v1, M1, hf, h⟩ := fr_cv h (fun _ _ hv => fr_X8_readDigit hv q_1) hf
  obtain ⟨M2, hf, h⟩ := fr_pu h hf q_1
  rcases fr_br h with h | h
  · exact fr_ri h hf
  · obtain ⟨v2, M3, hf, h⟩ := fr_cv h (fun _ _ hv => fr_X8_take hv q_1) hf
    rcases fr_br h with h | h
    · exact fr_ri h hf
    · obtain ⟨v3, M4, hf, h⟩ := fr_cv h (fun _ _ hv => fr_X8_readNumber hv q_1) hf
      obtain ⟨M5, hf, h⟩ := fr_pu h hf q_1
      rcases fr_br h with h | h
      · exact fr_ri h hf
      · obtain ⟨v4, M6, hf, h⟩ := fr_cv h (fun _ _ hv => fr_X8_take hv q_1) hf
        rcases fr_br h with h | h
        · exact fr_ri h hf
        · obtain ⟨v5, M7, hf, h⟩ := fr_cv h (fun _ _ hv => fr_X8_readNumber hv q_1) hf
          obtain ⟨M8, hf, h⟩ := fr_pu h hf q_1
          rcases fr_br h with h | h
          · exact fr_ri h hf
          · obtain ⟨v6, M9, hf, h⟩ := fr_cv h (fun _ _ hv => fr_X8_take hv q_1) hf
            rcases fr_br h with h | h
            · exact fr_ri h hf
            · obtain ⟨v7, M10, hf, h⟩ := fr_cv h (fun _ _ hv => fr_X8_readNumber hv q_1) hf
              obtain ⟨M11, hf, h⟩ := fr_pu h hf q_1
              rcases fr_br h with h | h
              · exact fr_ri h hf
              · exact fr_ri h hf
theorem fr_X8_readStation {M : zx_Y} {i : Nat} {rv : Int32} {rM : zx_Y} {c : zx_H} {j_ : Nat} (h : g_X8_readStation M i = some (rv, rM)) (q_1 : zc c j_ ≠ 1) : rM c j_ = M c j_ := by
  unfold g_X8_readStation at h
  have hf : M c j_ = M c j_ := rfl
  obtain ⟨v1, M1, hf, h⟩ := fr_cv h (fun _ _ hv => fr_X8_readDigit hv q_1) hf
  obtain ⟨M2, hf, h⟩ := fr_pu h hf q_1
  rcases fr_br h with h | h
  · exact fr_ri h hf
  · obtain ⟨v2, M3, hf, h⟩ := fr_cv h (fun _ _ hv => fr_X8_take hv q_1) hf
    rcases fr_br h with h | h
    · exact fr_ri h hf
    · obtain ⟨v3, M4, hf, h⟩ := fr_cv h (fun _ _ hv => fr_X8_readDigit hv q_1) hf
      obtain ⟨M5, hf, h⟩ := fr_pu h hf q_1
      rcases fr_br h with h | h
      · obtain ⟨v4, M6, hf, h⟩ := fr_cv h (fun _ _ hv => fr_X8_take hv q_1) hf
        have h := fr_ob h
        obtain ⟨M7, hf, h⟩ := fr_pu h hf q_1
        exact fr_ri h hf
      · exact fr_ri h hf
theorem fr_X8_readTrain {M : zx_Y} {i : Nat} {rv : Int32} {rM : zx_Y} {c : zx_H} {j_ : Nat} (h : g_X8_readTrain M i = some (rv, rM)) (q_1 : zc c j_ ≠ 1) : rM c j_ = M c j_ := by
  unfold g_X8_readTrain at h
  have hf : M c j_ = M c j_ := rfl
  obtain ⟨v1, M1, hf, h⟩ := fr_cv h (fun _ _ hv => fr_X8_readDigit hv q_1) hf
  obtain ⟨M2, hf, h⟩ := fr_pu h hf q_1
  rcases fr_br h with h | h
  · exact fr_ri h hf
  · obtain ⟨v2, M3, hf, h⟩ := fr_cv h (fun _ _ hv => fr_X8_take hv q_1) hf
    rcases fr_br h with h | h
    · exact fr_ri h hf
    · obtain ⟨v3, M4, hf, h⟩ := fr_cv h (fun _ _ hv => fr_X8_readDigit hv q_1) hf
      obtain ⟨M5, hf, h⟩ := fr_pu h hf q_1
      rcases fr_br h with h | h
      · exact fr_ri h hf
      · obtain ⟨v4, M6, hf, h⟩ := fr_cv h (fun _ _ hv => fr_X8_take hv q_1) hf
        rcases fr_br h with h | h
        · exact fr_ri h hf
        · obtain ⟨v5, M7, hf, h⟩ := fr_cv h (fun _ _ hv => fr_X8_readDigit hv q_1) hf
          obtain ⟨M8, hf, h⟩ := fr_pu h hf q_1
          rcases fr_br h with h | h
          · exact fr_ri h hf
          · obtain ⟨v6, M9, hf, h⟩ := fr_cv h (fun _ _ hv => fr_X8_take hv q_1) hf
            rcases fr_br h with h | h
            · exact fr_ri h hf
            · obtain ⟨v7, M10, hf, h⟩ := fr_cv h (fun _ _ hv => fr_X8_readNumber hv q_1) hf
              obtain ⟨M11, hf, h⟩ := fr_pu h hf q_1
              rcases fr_br h with h | h
              · obtain ⟨v8, M12, hf, h⟩ := fr_cv h (fun _ _ hv => fr_X8_take hv q_1) hf
                rcases fr_br h with h | h
                · obtain ⟨M13, hf, h⟩ := fr_pu h hf q_1
                  rcases fr_br h with h | h
                  · obtain ⟨v9, M14, hf, h⟩ := fr_cv h (fun _ _ hv => fr_X8_take hv q_1) hf
                    rcases fr_br h with h | h
                    · obtain ⟨M15, hf, h⟩ := fr_pu h hf q_1
                      rcases fr_br h with h | h
                      · exact fr_ri h hf
                      · exact fr_ri h hf
                    · obtain ⟨v10, M16, hf, h⟩ := fr_cv h (fun _ _ hv => fr_X8_readNumber hv q_1) hf
                      obtain ⟨M17, hf, h⟩ := fr_pu h hf q_1
                      rcases fr_br h with h | h
                      · exact fr_ri h hf
                      · exact fr_ri h hf
                  · exact fr_ri h hf
                · obtain ⟨v11, M18, hf, h⟩ := fr_cv h (fun _ _ hv => fr_X8_readDigit hv q_1) hf
                  obtain ⟨M19, hf, h⟩ := fr_pu h hf q_1
                  rcases fr_br h with h | h
                  · obtain ⟨v12, M20, hf, h⟩ := fr_cv h (fun _ _ hv => fr_X8_take hv q_1) hf
                    rcases fr_br h with h | h
                    · obtain ⟨M21, hf, h⟩ := fr_pu h hf q_1
                      rcases fr_br h with h | h
                      · exact fr_ri h hf
                      · exact fr_ri h hf
                    · obtain ⟨v13, M22, hf, h⟩ := fr_cv h (fun _ _ hv => fr_X8_readNumber hv q_1) hf
                      obtain ⟨M23, hf, h⟩ := fr_pu h hf q_1
                      rcases fr_br h with h | h
                      · exact fr_ri h hf
                      · exact fr_ri h hf
                  · exact fr_ri h hf
              · exact fr_ri h hf
theorem fr_X8_readBound {M : zx_Y} {i : Nat} {rv : Int32} {rM : zx_Y} {c : zx_H} {j_ : Nat} (h : g_X8_readBound M i = some (rv, rM)) (q_1 : zc c j_ ≠ 1) : rM c j_ = M c j_ := by
  unfold g_X8_readBound at h
  have hf : M c j_ = M c j_ := rfl
  obtain ⟨v1, M1, hf, h⟩ := fr_cv h (fun _ _ hv => fr_X8_readNumber hv q_1) hf
  obtain ⟨M2, hf, h⟩ := fr_pu h hf q_1
  rcases fr_br h with h | h
  · exact fr_ri h hf
  · exact fr_ri h hf
theorem fr_X8_readCommand {M : zx_Y} {i : Nat} {rv : Int32} {rM : zx_Y} {c : zx_H} {j_ : Nat} (h : g_X8_readCommand M i = some (rv, rM)) (q_1 : zc c j_ ≠ 1) : rM c j_ = M c j_ := by
  unfold g_X8_readCommand at h
  have hf : M c j_ = M c j_ := rfl
  obtain ⟨v1, h⟩ := fr_cb h
  obtain ⟨M1, hf, h⟩ := fr_pu h hf q_1
  rcases fr_br h with h | h
  · obtain ⟨M2, hf, h⟩ := fr_pu h hf q_1
    obtain ⟨v2, M3, hf, h⟩ := fr_cv h (fun _ _ hv => fr_X8_readLengths hv q_1) hf
    have h := fr_ob h
    exact fr_ri h hf
  · rcases fr_br h with h | h
    · exact fr_ri h hf
    · rcases fr_br h with h | h
      · exact fr_ri h hf
      · rcases fr_br h with h | h
        · obtain ⟨M4, hf, h⟩ := fr_pu h hf q_1
          obtain ⟨v3, M5, hf, h⟩ := fr_cv h (fun _ _ hv => fr_X8_readOrder hv q_1) hf
          have h := fr_ob h
          exact fr_ri h hf
        · rcases fr_br h with h | h
          · exact fr_ri h hf
          · rcases fr_br h with h | h
            · exact fr_ri h hf
            · rcases fr_br h with h | h
              · exact fr_ri h hf
              · rcases fr_br h with h | h
                · obtain ⟨M6, hf, h⟩ := fr_pu h hf q_1
                  obtain ⟨v4, M7, hf, h⟩ := fr_cv h (fun _ _ hv => fr_X8_readStation hv q_1) hf
                  have h := fr_ob h
                  exact fr_ri h hf
                · rcases fr_br h with h | h
                  · obtain ⟨M8, hf, h⟩ := fr_pu h hf q_1
                    obtain ⟨v5, M9, hf, h⟩ := fr_cv h (fun _ _ hv => fr_X8_readTrain hv q_1) hf
                    have h := fr_ob h
                    exact fr_ri h hf
                  · rcases fr_br h with h | h
                    · exact fr_ri h hf
                    · rcases fr_br h with h | h
                      · exact fr_ri h hf
                      · rcases fr_br h with h | h
                        · obtain ⟨M10, hf, h⟩ := fr_pu h hf q_1
                          obtain ⟨v6, M11, hf, h⟩ := fr_cv h (fun _ _ hv => fr_X8_readBound hv q_1) hf
                          have h := fr_ob h
                          exact fr_ri h hf
                        · exact fr_ri h hf
theorem fl_X8_readText_12 {M0 : zx_Y} {kk : Int32 → zx_Y → Option (Int32 × zx_Y)} {rv : Int32} {rM : zx_Y} {c : zx_H} {j_ : Nat} (hk : ∀ (w1 : Int32) (M : zx_Y), kk w1 M = some (rv, rM) → M c j_ = M0 c j_ → rM c j_ = M0 c j_) (q_1 : zc c j_ ≠ 1) : ∀ (q : Nat) (w1 : Int32) (M : zx_Y), lg_X8_readText_12 kk q w1 M = some (rv, rM) → M c j_ = M0 c j_ → rM c j_ = M0 c j_
  | 0, w1, M, h, hf => by
    rw [lg_X8_readText_12.eq_1] at h
    cases h
  | q + 1, w1, M, h, hf => by
    rw [lg_X8_readText_12.eq_2] at h
    rcases fr_br h with h | h
    · exact hk _ _ h hf
    · obtain ⟨k1, h⟩ := fr_ix h
      obtain ⟨v1, M1, hf, h⟩ := fr_cv h (fun _ _ hv => fr_X8_readCommand hv q_1) hf
      rcases fr_br h with h | h
      · exact fr_ri h hf
      · obtain ⟨M2, hf, h⟩ := fr_pu h hf q_1
        rcases fr_br h with h | h
        · exact fr_ri h hf
        · obtain ⟨v2, M3, hf, h⟩ := fr_cv h (fun _ _ hv => fr_X8_take hv q_1) hf
          rcases fr_br h with h | h
          · exact fr_ri h hf
          · exact fl_X8_readText_12 hk q_1 q (w1 + 1) M3 h hf
theorem fr_X8_readText {M : zx_Y} {rv : Int32} {rM : zx_Y} {c : zx_H} {j_ : Nat} (h : g_X8_readText M = some (rv, rM)) (q_1 : zc c j_ ≠ 1) : rM c j_ = M c j_ := by
  unfold g_X8_readText at h
  have hf : M c j_ = M c j_ := rfl
  obtain ⟨M1, hf, h⟩ := fr_pu h hf q_1
  obtain ⟨M2, hf, h⟩ := fr_pu h hf q_1
  refine fl_X8_readText_12 (fun v1 M3 h hf => ?_) q_1 1000 0 M2 h hf
  exact fr_ri h hf
theorem fr_X4_keep {M : zx_Y} {x0 : Int32} {x1 : Int32} {x2 : Int32} {rM : zx_Y} {c : zx_H} {j_ : Nat} (h : g_X4_keep M x0 x1 x2 = some rM) (q_2 : zc c j_ ≠ 2) : rM c j_ = M c j_ := by
  unfold g_X4_keep at h
  have hf : M c j_ = M c j_ := rfl
  obtain ⟨M1, hf, h⟩ := fr_pu h hf q_2
  obtain ⟨M2, hf, h⟩ := fr_pu h hf q_2
  obtain ⟨M3, hf, h⟩ := fr_pu h hf q_2
  obtain ⟨M4, hf, h⟩ := fr_pu h hf q_2
  exact fr_r0 h hf
theorem fr_X7_copyFrom {M : zx_Y} {l : Nat} {i : Nat} {m : Nat} {j : Nat} {rM : zx_Y} {c : zx_H} {j_ : Nat} (h : g_X7_copyFrom M l i m j = some rM) (q_100_l : zc c j_ ≠ 100 + l) : rM c j_ = M c j_ := by
  unfold g_X7_copyFrom at h
  have hf : M c j_ = M c j_ := rfl
  obtain ⟨M1, hf, h⟩ := fr_pu h hf q_100_l
  have h := fr_ob h
  obtain ⟨M2, hf, h⟩ := fr_pu h hf q_100_l
  obtain ⟨M3, hf, h⟩ := fr_pu h hf q_100_l
  exact fr_r0 h hf
theorem fl_X2_copyFrom_50 {M0 : zx_Y} {l : Nat} {m : Nat} {kk : Int32 → zx_Y → Option zx_Y} {rM : zx_Y} {c : zx_H} {j_ : Nat} (hk : ∀ (w2 : Int32) (M : zx_Y), kk w2 M = some rM → M c j_ = M0 c j_ → rM c j_ = M0 c j_) (q_100_l : zc c j_ ≠ 100 + l) : ∀ (q : Nat) (w2 : Int32) (M : zx_Y), lg_X2_copyFrom_50 l m kk q w2 M = some rM → M c j_ = M0 c j_ → rM c j_ = M0 c j_
  | 0, w2, M, h, hf => by
    rw [lg_X2_copyFrom_50.eq_1] at h
    cases h
  | q + 1, w2, M, h, hf => by
    rw [lg_X2_copyFrom_50.eq_2] at h
    rcases fr_br h with h | h
    · exact hk _ _ h hf
    · obtain ⟨k1, h⟩ := fr_ix h
      obtain ⟨k2, h⟩ := fr_ix h
      obtain ⟨M1, hf, h⟩ := fr_cm h (fun _ hv => fr_X7_copyFrom hv q_100_l) hf
      exact fl_X2_copyFrom_50 hk q_100_l q (w2 + 1) M1 h hf
theorem fr_X5_copyFrom {M : zx_Y} {l : Nat} {i : Nat} {m : Nat} {j : Nat} {rM : zx_Y} {c : zx_H} {j_ : Nat} (h : g_X5_copyFrom M l i m j = some rM) (q_100_l : zc c j_ ≠ 100 + l) : rM c j_ = M c j_ := by
  unfold g_X5_copyFrom at h
  have hf : M c j_ = M c j_ := rfl
  obtain ⟨M1, hf, h⟩ := fr_pu h hf q_100_l
  obtain ⟨M2, hf, h⟩ := fr_pu h hf q_100_l
  obtain ⟨M3, hf, h⟩ := fr_pu h hf q_100_l
  exact fr_r0 h hf
theorem fl_X2_copyFrom_79 {M0 : zx_Y} {l : Nat} {m : Nat} {kk : Int32 → zx_Y → Option zx_Y} {rM : zx_Y} {c : zx_H} {j_ : Nat} (hk : ∀ (w2 : Int32) (M : zx_Y), kk w2 M = some rM → M c j_ = M0 c j_ → rM c j_ = M0 c j_) (q_100_l : zc c j_ ≠ 100 + l) : ∀ (q : Nat) (w2 : Int32) (M : zx_Y), lg_X2_copyFrom_79 l m kk q w2 M = some rM → M c j_ = M0 c j_ → rM c j_ = M0 c j_
  | 0, w2, M, h, hf => by
    rw [lg_X2_copyFrom_79.eq_1] at h
    cases h
  | q + 1, w2, M, h, hf => by
    rw [lg_X2_copyFrom_79.eq_2] at h
    rcases fr_br h with h | h
    · exact hk _ _ h hf
    · obtain ⟨k1, h⟩ := fr_ix h
      obtain ⟨k2, h⟩ := fr_ix h
      obtain ⟨M1, hf, h⟩ := fr_cm h (fun _ hv => fr_X5_copyFrom hv q_100_l) hf
      exact fl_X2_copyFrom_79 hk q_100_l q (w2 + 1) M1 h hf
theorem fr_X6_copyFrom {M : zx_Y} {l : Nat} {i : Nat} {m : Nat} {j : Nat} {rM : zx_Y} {c : zx_H} {j_ : Nat} (h : g_X6_copyFrom M l i m j = some rM) (q_100_l : zc c j_ ≠ 100 + l) : rM c j_ = M c j_ := by
  unfold g_X6_copyFrom at h
  have hf : M c j_ = M c j_ := rfl
  obtain ⟨M1, hf, h⟩ := fr_pu h hf q_100_l
  obtain ⟨M2, hf, h⟩ := fr_pu h hf q_100_l
  obtain ⟨M3, hf, h⟩ := fr_pu h hf q_100_l
  obtain ⟨M4, hf, h⟩ := fr_pu h hf q_100_l
  exact fr_r0 h hf
theorem fl_X2_copyFrom_108 {M0 : zx_Y} {l : Nat} {m : Nat} {kk : Int32 → zx_Y → Option zx_Y} {rM : zx_Y} {c : zx_H} {j_ : Nat} (hk : ∀ (w2 : Int32) (M : zx_Y), kk w2 M = some rM → M c j_ = M0 c j_ → rM c j_ = M0 c j_) (q_100_l : zc c j_ ≠ 100 + l) : ∀ (q : Nat) (w2 : Int32) (M : zx_Y), lg_X2_copyFrom_108 l m kk q w2 M = some rM → M c j_ = M0 c j_ → rM c j_ = M0 c j_
  | 0, w2, M, h, hf => by
    rw [lg_X2_copyFrom_108.eq_1] at h
    cases h
  | q + 1, w2, M, h, hf => by
    rw [lg_X2_copyFrom_108.eq_2] at h
    rcases fr_br h with h | h
    · exact hk _ _ h hf
    · obtain ⟨k1, h⟩ := fr_ix h
      obtain ⟨k2, h⟩ := fr_ix h
      obtain ⟨M1, hf, h⟩ := fr_cm h (fun _ hv => fr_X6_copyFrom hv q_100_l) hf
      exact fl_X2_copyFrom_108 hk q_100_l q (w2 + 1) M1 h hf
theorem fr_X9_copyFrom {M : zx_Y} {l : Nat} {i : Nat} {m : Nat} {j : Nat} {rM : zx_Y} {c : zx_H} {j_ : Nat} (h : g_X9_copyFrom M l i m j = some rM) (q_100_l : zc c j_ ≠ 100 + l) : rM c j_ = M c j_ := by
  unfold g_X9_copyFrom at h
  have hf : M c j_ = M c j_ := rfl
  obtain ⟨M1, hf, h⟩ := fr_pu h hf q_100_l
  obtain ⟨M2, hf, h⟩ := fr_pu h hf q_100_l
  obtain ⟨M3, hf, h⟩ := fr_pu h hf q_100_l
  obtain ⟨M4, hf, h⟩ := fr_pu h hf q_100_l
  obtain ⟨M5, hf, h⟩ := fr_pu h hf q_100_l
  obtain ⟨M6, hf, h⟩ := fr_pu h hf q_100_l
  obtain ⟨M7, hf, h⟩ := fr_pu h hf q_100_l
  obtain ⟨M8, hf, h⟩ := fr_pu h hf q_100_l
  obtain ⟨M9, hf, h⟩ := fr_pu h hf q_100_l
  obtain ⟨M10, hf, h⟩ := fr_pu h hf q_100_l
  obtain ⟨M11, hf, h⟩ := fr_pu h hf q_100_l
  obtain ⟨M12, hf, h⟩ := fr_pu h hf q_100_l
  obtain ⟨M13, hf, h⟩ := fr_pu h hf q_100_l
  obtain ⟨M14, hf, h⟩ := fr_pu h hf q_100_l
  obtain ⟨M15, hf, h⟩ := fr_pu h hf q_100_l
  obtain ⟨M16, hf, h⟩ := fr_cy h hf (fun _ => q_100_l)
  obtain ⟨M17, hf, h⟩ := fr_cy h hf (fun _ => q_100_l)
  obtain ⟨M18, hf, h⟩ := fr_cy h hf (fun _ => q_100_l)
  exact fr_r0 h hf
theorem fl_X2_copyFrom_137 {M0 : zx_Y} {l : Nat} {m : Nat} {kk : Int32 → zx_Y → Option zx_Y} {rM : zx_Y} {c : zx_H} {j_ : Nat} (hk : ∀ (w2 : Int32) (M : zx_Y), kk w2 M = some rM → M c j_ = M0 c j_ → rM c j_ = M0 c j_) (q_100_l : zc c j_ ≠ 100 + l) : ∀ (q : Nat) (w2 : Int32) (M : zx_Y), lg_X2_copyFrom_137 l m kk q w2 M = some rM → M c j_ = M0 c j_ → rM c j_ = M0 c j_
  | 0, w2, M, h, hf => by
    rw [lg_X2_copyFrom_137.eq_1] at h
    cases h
  | q + 1, w2, M, h, hf => by
    rw [lg_X2_copyFrom_137.eq_2] at h
    rcases fr_br h with h | h
    · exact hk _ _ h hf
    · obtain ⟨k1, h⟩ := fr_ix h
      obtain ⟨k2, h⟩ := fr_ix h
      obtain ⟨M1, hf, h⟩ := fr_cm h (fun _ hv => fr_X9_copyFrom hv q_100_l) hf
      exact fl_X2_copyFrom_137 hk q_100_l q (w2 + 1) M1 h hf
theorem fr_X2_copyFrom {M : zx_Y} {l : Nat} {m : Nat} {rM : zx_Y} {c : zx_H} {j_ : Nat} (h : g_X2_copyFrom M l m = some rM) (q_100_l : zc c j_ ≠ 100 + l) : rM c j_ = M c j_ := by
  unfold g_X2_copyFrom at h
  have hf : M c j_ = M c j_ := rfl
  obtain ⟨M1, hf, h⟩ := fr_pu h hf q_100_l
  obtain ⟨M2, hf, h⟩ := fr_pu h hf q_100_l
  obtain ⟨M3, hf, h⟩ := fr_pu h hf q_100_l
  obtain ⟨M4, hf, h⟩ := fr_pu h hf q_100_l
  obtain ⟨M5, hf, h⟩ := fr_pu h hf q_100_l
  obtain ⟨M6, hf, h⟩ := fr_pu h hf q_100_l
  refine fl_X2_copyFrom_50 (fun v1 M7 h hf => ?_) q_100_l 1000 0 M6 h hf
  refine fl_X2_copyFrom_79 (fun v2 M8 h hf => ?_) q_100_l 1000 0 M7 h hf
  refine fl_X2_copyFrom_108 (fun v3 M9 h hf => ?_) q_100_l 1000 0 M8 h hf
  refine fl_X2_copyFrom_137 (fun v4 M10 h hf => ?_) q_100_l 1000 0 M9 h hf
  exact fr_r0 h hf
theorem fr_X0_refuse {M : zx_Y} {x0 : Int32} {x1 : Int32} {rv : Int32} {rM : zx_Y} {c : zx_H} {j_ : Nat} (h : g_X0_refuse M x0 x1 = some (rv, rM)) (q_3 : zc c j_ ≠ 3) : rM c j_ = M c j_ := by
  unfold g_X0_refuse at h
  have hf : M c j_ = M c j_ := rfl
  obtain ⟨M1, hf, h⟩ := fr_pu h hf q_3
  obtain ⟨M2, hf, h⟩ := fr_pu h hf q_3
  exact fr_ri h hf
theorem fl_X0_refusesLengths_2 {M M0 : zx_Y} {i : Nat} {kk : Int32 → Option (Int32 × zx_Y)} {rv : Int32} {rM : zx_Y} {c : zx_H} {j_ : Nat} (hk : ∀ (w2 : Int32), kk w2 = some (rv, rM) → rM c j_ = M0 c j_) (hf : M c j_ = M0 c j_) (q_3 : zc c j_ ≠ 3) : ∀ (q : Nat) (w2 : Int32), lg_X0_refusesLengths_2 M i kk q w2 = some (rv, rM) → rM c j_ = M0 c j_
  | 0, w2, h => by
    rw [lg_X0_refusesLengths_2.eq_1] at h
    cases h
  | q + 1, w2, h => by
    rw [lg_X0_refusesLengths_2.eq_2] at h
    rcases fr_br h with h | h
    · exact hk _ h
    · obtain ⟨k1, h⟩ := fr_ix h
      rcases fr_br h with h | h
      · obtain ⟨v1, M1, hf, h⟩ := fr_cv h (fun _ _ hv => fr_X0_refuse hv q_3) hf
        have h := fr_ob h
        exact fr_ri h hf
      · rcases fr_br h with h | h
        · exact fl_X0_refusesLengths_2 hk hf q_3 q (w2 + 1) h
        · obtain ⟨v2, M2, hf, h⟩ := fr_cv h (fun _ _ hv => fr_X0_refuse hv q_3) hf
          have h := fr_ob h
          exact fr_ri h hf
theorem fr_X0_refusesLengths {M : zx_Y} {i : Nat} {rv : Int32} {rM : zx_Y} {c : zx_H} {j_ : Nat} (h : g_X0_refusesLengths M i = some (rv, rM)) (q_3 : zc c j_ ≠ 3) : rM c j_ = M c j_ := by
  unfold g_X0_refusesLengths at h
  have hf : M c j_ = M c j_ := rfl
  refine fl_X0_refusesLengths_2 (fun v1 h => ?_) hf q_3 1000 0  h
  exact fr_ri h hf
theorem fr_X0_refusesOrder {M : zx_Y} {l : Nat} {i : Nat} {rv : Int32} {rM : zx_Y} {c : zx_H} {j_ : Nat} (h : g_X0_refusesOrder M l i = some (rv, rM)) (q_3 : zc c j_ ≠ 3) : rM c j_ = M c j_ := by
  unfold g_X0_refusesOrder at h
  have hf : M c j_ = M c j_ := rfl
  obtain ⟨v1, h⟩ := fr_cb h
  rcases fr_br h with h | h
  · obtain ⟨v2, M1, hf, h⟩ := fr_cv h (fun _ _ hv => fr_X0_refuse hv q_3) hf
    have h := fr_ob h
    exact fr_ri h hf
  · obtain ⟨v3, h⟩ := fr_cb h
    rcases fr_br h with h | h
    · obtain ⟨v4, M2, hf, h⟩ := fr_cv h (fun _ _ hv => fr_X0_refuse hv q_3) hf
      have h := fr_ob h
      exact fr_ri h hf
    · rcases fr_br h with h | h
      · rcases fr_br h with h | h
        · exact fr_ri h hf
        · obtain ⟨v5, M3, hf, h⟩ := fr_cv h (fun _ _ hv => fr_X0_refuse hv q_3) hf
          rcases fr_br h with h | h
          · exact fr_ri h hf
          · exact fr_ri h hf
      · obtain ⟨v6, M4, hf, h⟩ := fr_cv h (fun _ _ hv => fr_X0_refuse hv q_3) hf
        have h := fr_ob h
        exact fr_ri h hf
theorem fr_X0_refusesStation {M : zx_Y} {l : Nat} {i : Nat} {rv : Int32} {rM : zx_Y} {c : zx_H} {j_ : Nat} (h : g_X0_refusesStation M l i = some (rv, rM)) (q_3 : zc c j_ ≠ 3) : rM c j_ = M c j_ := by
  unfold g_X0_refusesStation at h
  have hf : M c j_ = M c j_ := rfl
  obtain ⟨v1, h⟩ := fr_cb h
  rcases fr_br h with h | h
  · obtain ⟨v2, M1, hf, h⟩ := fr_cv h (fun _ _ hv => fr_X0_refuse hv q_3) hf
    have h := fr_ob h
    exact fr_ri h hf
  · obtain ⟨v3, h⟩ := fr_cb h
    rcases fr_br h with h | h
    · obtain ⟨v4, M2, hf, h⟩ := fr_cv h (fun _ _ hv => fr_X0_refuse hv q_3) hf
      have h := fr_ob h
      exact fr_ri h hf
    · rcases fr_br h with h | h
      · obtain ⟨v5, M3, hf, h⟩ := fr_cv h (fun _ _ hv => fr_X0_refuse hv q_3) hf
        have h := fr_ob h
        exact fr_ri h hf
      · rcases fr_br h with h | h
        · obtain ⟨v6, M4, hf, h⟩ := fr_cv h (fun _ _ hv => fr_X0_refuse hv q_3) hf
          have h := fr_ob h
          exact fr_ri h hf
        · obtain ⟨v7, h⟩ := fr_cb h
          rcases fr_br h with h | h
          · obtain ⟨v8, M5, hf, h⟩ := fr_cv h (fun _ _ hv => fr_X0_refuse hv q_3) hf
            have h := fr_ob h
            exact fr_ri h hf
          · exact fr_ri h hf
theorem fr_X0_refusesTrain {M : zx_Y} {l : Nat} {i : Nat} {rv : Int32} {rM : zx_Y} {c : zx_H} {j_ : Nat} (h : g_X0_refusesTrain M l i = some (rv, rM)) (q_3 : zc c j_ ≠ 3) : rM c j_ = M c j_ := by
  unfold g_X0_refusesTrain at h
  have hf : M c j_ = M c j_ := rfl
  obtain ⟨v1, h⟩ := fr_cb h
  rcases fr_br h with h | h
  · obtain ⟨v2, M1, hf, h⟩ := fr_cv h (fun _ _ hv => fr_X0_refuse hv q_3) hf
    have h := fr_ob h
    exact fr_ri h hf
  · obtain ⟨v3, h⟩ := fr_cb h
    rcases fr_br h with h | h
    · obtain ⟨v4, M2, hf, h⟩ := fr_cv h (fun _ _ hv => fr_X0_refuse hv q_3) hf
      have h := fr_ob h
      exact fr_ri h hf
    · obtain ⟨v5, h⟩ := fr_cb h
      rcases fr_br h with h | h
      · obtain ⟨v6, M3, hf, h⟩ := fr_cv h (fun _ _ hv => fr_X0_refuse hv q_3) hf
        have h := fr_ob h
        exact fr_ri h hf
      · rcases fr_br h with h | h
        · rcases fr_br h with h | h
          · obtain ⟨v7, M4, hf, h⟩ := fr_cv h (fun _ _ hv => fr_X0_refuse hv q_3) hf
            have h := fr_ob h
            exact fr_ri h hf
          · rcases fr_br h with h | h
            · rcases fr_br h with h | h
              · obtain ⟨v8, M5, hf, h⟩ := fr_cv h (fun _ _ hv => fr_X0_refuse hv q_3) hf
                rcases fr_br h with h | h
                · exact fr_ri h hf
                · exact fr_ri h hf
              · exact fr_ri h hf
            · obtain ⟨v9, M6, hf, h⟩ := fr_cv h (fun _ _ hv => fr_X0_refuse hv q_3) hf
              have h := fr_ob h
              exact fr_ri h hf
        · obtain ⟨v10, M7, hf, h⟩ := fr_cv h (fun _ _ hv => fr_X0_refuse hv q_3) hf
          have h := fr_ob h
          exact fr_ri h hf
theorem fr_X0_refuses {M : zx_Y} {l : Nat} {i : Nat} {rv : Int32} {rM : zx_Y} {c : zx_H} {j_ : Nat} (h : g_X0_refuses M l i = some (rv, rM)) (q_3 : zc c j_ ≠ 3) : rM c j_ = M c j_ := by
  unfold g_X0_refuses at h
  have hf : M c j_ = M c j_ := rfl
  rcases fr_br h with h | h
  · obtain ⟨v1, M1, hf, h⟩ := fr_cv h (fun _ _ hv => fr_X0_refusesLengths hv q_3) hf
    have h := fr_ob h
    exact fr_ri h hf
  · rcases fr_br h with h | h
    · rcases fr_br h with h | h
      · obtain ⟨v2, M2, hf, h⟩ := fr_cv h (fun _ _ hv => fr_X0_refuse hv q_3) hf
        rcases fr_br h with h | h
        · exact fr_ri h hf
        · exact fr_ri h hf
      · exact fr_ri h hf
    · rcases fr_br h with h | h
      · rcases fr_br h with h | h
        · obtain ⟨v3, M3, hf, h⟩ := fr_cv h (fun _ _ hv => fr_X0_refuse hv q_3) hf
          rcases fr_br h with h | h
          · exact fr_ri h hf
          · exact fr_ri h hf
        · exact fr_ri h hf
      · rcases fr_br h with h | h
        · obtain ⟨v4, M4, hf, h⟩ := fr_cv h (fun _ _ hv => fr_X0_refusesOrder hv q_3) hf
          have h := fr_ob h
          exact fr_ri h hf
        · rcases fr_br h with h | h
          · rcases fr_br h with h | h
            · obtain ⟨v5, M5, hf, h⟩ := fr_cv h (fun _ _ hv => fr_X0_refuse hv q_3) hf
              rcases fr_br h with h | h
              · exact fr_ri h hf
              · exact fr_ri h hf
            · exact fr_ri h hf
          · rcases fr_br h with h | h
            · rcases fr_br h with h | h
              · obtain ⟨v6, M6, hf, h⟩ := fr_cv h (fun _ _ hv => fr_X0_refuse hv q_3) hf
                rcases fr_br h with h | h
                · exact fr_ri h hf
                · exact fr_ri h hf
              · exact fr_ri h hf
            · rcases fr_br h with h | h
              · rcases fr_br h with h | h
                · obtain ⟨v7, M7, hf, h⟩ := fr_cv h (fun _ _ hv => fr_X0_refuse hv q_3) hf
                  rcases fr_br h with h | h
                  · exact fr_ri h hf
                  · exact fr_ri h hf
                · exact fr_ri h hf
              · rcases fr_br h with h | h
                · obtain ⟨v8, M8, hf, h⟩ := fr_cv h (fun _ _ hv => fr_X0_refusesStation hv q_3) hf
                  have h := fr_ob h
                  exact fr_ri h hf
                · rcases fr_br h with h | h
                  · obtain ⟨v9, M9, hf, h⟩ := fr_cv h (fun _ _ hv => fr_X0_refusesTrain hv q_3) hf
                    have h := fr_ob h
                    exact fr_ri h hf
                  · rcases fr_br h with h | h
                    · obtain ⟨v10, M10, hf, h⟩ := fr_cv h (fun _ _ hv => fr_X0_refuse hv q_3) hf
                      rcases fr_br h with h | h
                      · exact fr_ri h hf
                      · exact fr_ri h hf
                    · exact fr_ri h hf
theorem fl_X0_makeLine_22 {M0 : zx_Y} {l : Nat} {i : Nat} {kk : Int32 → zx_Y → Option zx_Y} {rM : zx_Y} {c : zx_H} {j_ : Nat} (hk : ∀ (w3 : Int32) (M : zx_Y), kk w3 M = some rM → M c j_ = M0 c j_ → rM c j_ = M0 c j_) (q_100_l : zc c j_ ≠ 100 + l) : ∀ (q : Nat) (w3 : Int32) (M : zx_Y), lg_X0_makeLine_22 l i kk q w3 M = some rM → M c j_ = M0 c j_ → rM c j_ = M0 c j_
  | 0, w3, M, h, hf => by
    rw [lg_X0_makeLine_22.eq_1] at h
    cases h
  | q + 1, w3, M, h, hf => by
    rw [lg_X0_makeLine_22.eq_2] at h
    rcases fr_br h with h | h
    · exact hk _ _ h hf
    · obtain ⟨k1, h⟩ := fr_ix h
      obtain ⟨M1, hf, h⟩ := fr_pu h hf q_100_l
      obtain ⟨k2, h⟩ := fr_ix h
      obtain ⟨M2, hf, h⟩ := fr_pu h hf q_100_l
      obtain ⟨k3, h⟩ := fr_ix h
      obtain ⟨M3, hf, h⟩ := fr_pu h hf q_100_l
      exact fl_X0_makeLine_22 hk q_100_l q (w3 + 1) M3 h hf
theorem fl_X0_makeLine_66 {M0 : zx_Y} {l : Nat} {i : Nat} {kk : Int32 → zx_Y → Option zx_Y} {rM : zx_Y} {c : zx_H} {j_ : Nat} (hk : ∀ (w3 : Int32) (M : zx_Y), kk w3 M = some rM → M c j_ = M0 c j_ → rM c j_ = M0 c j_) (q_100_l : zc c j_ ≠ 100 + l) : ∀ (q : Nat) (w3 : Int32) (M : zx_Y), lg_X0_makeLine_66 l i kk q w3 M = some rM → M c j_ = M0 c j_ → rM c j_ = M0 c j_
  | 0, w3, M, h, hf => by
    rw [lg_X0_makeLine_66.eq_1] at h
    cases h
  | q + 1, w3, M, h, hf => by
    rw [lg_X0_makeLine_66.eq_2] at h
    rcases fr_br h with h | h
    · exact hk _ _ h hf
    · obtain ⟨k1, h⟩ := fr_ix h
      obtain ⟨k2, h⟩ := fr_ix h
      obtain ⟨M1, hf, h⟩ := fr_pu h hf q_100_l
      obtain ⟨k3, h⟩ := fr_ix h
      obtain ⟨M2, hf, h⟩ := fr_pu h hf q_100_l
      obtain ⟨k4, h⟩ := fr_ix h
      obtain ⟨M3, hf, h⟩ := fr_pu h hf q_100_l
      exact fl_X0_makeLine_66 hk q_100_l q (w3 + 1) M3 h hf
theorem fr_X0_makeLine {M : zx_Y} {l : Nat} {i : Nat} {rM : zx_Y} {c : zx_H} {j_ : Nat} (h : g_X0_makeLine M l i = some rM) (q_100_l : zc c j_ ≠ 100 + l) : rM c j_ = M c j_ := by
  unfold g_X0_makeLine at h
  have hf : M c j_ = M c j_ := rfl
  obtain ⟨M1, hf, h⟩ := fr_pu h hf q_100_l
  obtain ⟨M2, hf, h⟩ := fr_pu h hf q_100_l
  obtain ⟨M3, hf, h⟩ := fr_pu h hf q_100_l
  refine fl_X0_makeLine_22 (fun v1 M4 h hf => ?_) q_100_l 1000 0 M3 h hf
  refine fl_X0_makeLine_66 (fun v2 M5 h hf => ?_) q_100_l 1000 0 M4 h hf
  exact fr_r0 h hf
theorem fr_X0_addOrder {M : zx_Y} {l : Nat} {i : Nat} {rM : zx_Y} {c : zx_H} {j_ : Nat} (h : g_X0_addOrder M l i = some rM) (q_100_l : zc c j_ ≠ 100 + l) : rM c j_ = M c j_ := by
  unfold g_X0_addOrder at h
  have hf : M c j_ = M c j_ := rfl
  rcases fr_br h with h | h
  · exact fr_r0 h hf
  · rcases fr_br h with h | h
    · obtain ⟨k1, h⟩ := fr_ix h
      obtain ⟨M1, hf, h⟩ := fr_pu h hf q_100_l
      obtain ⟨M2, hf, h⟩ := fr_pu h hf q_100_l
      obtain ⟨M3, hf, h⟩ := fr_pu h hf q_100_l
      obtain ⟨M4, hf, h⟩ := fr_pu h hf q_100_l
      obtain ⟨M5, hf, h⟩ := fr_pu h hf q_100_l
      exact fr_r0 h hf
    · exact fr_r0 h hf
theorem fr_X0_changeStation {M : zx_Y} {l : Nat} {i : Nat} {rM : zx_Y} {c : zx_H} {j_ : Nat} (h : g_X0_changeStation M l i = some rM) (q_100_l : zc c j_ ≠ 100 + l) : rM c j_ = M c j_ := by
  unfold g_X0_changeStation at h
  have hf : M c j_ = M c j_ := rfl
  obtain ⟨v1, h⟩ := fr_cb h
  rcases fr_br h with h | h
  · exact fr_r0 h hf
  · obtain ⟨k1, h⟩ := fr_ix h
    obtain ⟨M1, hf, h⟩ := fr_pu h hf q_100_l
    obtain ⟨k2, h⟩ := fr_ix h
    have h := fr_ob h
    obtain ⟨M2, hf, h⟩ := fr_pu h hf q_100_l
    exact fr_r0 h hf
theorem fr_X9_changeTo {M : zx_Y} {l : Nat} {i : Nat} {x0 : Int32} {x1 : Int32} {rM : zx_Y} {c : zx_H} {j_ : Nat} (h : g_X9_changeTo M l i x0 x1 = some rM) (q_100_l : zc c j_ ≠ 100 + l) : rM c j_ = M c j_ := by
  unfold g_X9_changeTo at h
  have hf : M c j_ = M c j_ := rfl
  obtain ⟨M1, hf, h⟩ := fr_pu h hf q_100_l
  obtain ⟨M2, hf, h⟩ := fr_pu h hf q_100_l
  obtain ⟨M3, hf, h⟩ := fr_pu h hf q_100_l
  obtain ⟨M4, hf, h⟩ := fr_pu h hf q_100_l
  obtain ⟨M5, hf, h⟩ := fr_pu h hf q_100_l
  exact fr_r0 h hf
theorem fl_X9_begin_76 {M0 : zx_Y} {l : Nat} {i : Nat} {kk : Int32 → zx_Y → Option zx_Y} {rM : zx_Y} {c : zx_H} {j_ : Nat} (hk : ∀ (w2 : Int32) (M : zx_Y), kk w2 M = some rM → M c j_ = M0 c j_ → rM c j_ = M0 c j_) (q_100_l : zc c j_ ≠ 100 + l) : ∀ (q : Nat) (w2 : Int32) (M : zx_Y), lg_X9_begin_76 l i kk q w2 M = some rM → M c j_ = M0 c j_ → rM c j_ = M0 c j_
  | 0, w2, M, h, hf => by
    rw [lg_X9_begin_76.eq_1] at h
    cases h
  | q + 1, w2, M, h, hf => by
    rw [lg_X9_begin_76.eq_2] at h
    rcases fr_br h with h | h
    · exact hk _ _ h hf
    · obtain ⟨k1, h⟩ := fr_ix h
      obtain ⟨M1, hf, h⟩ := fr_pu h hf q_100_l
      exact fl_X9_begin_76 hk q_100_l q (w2 + 1) M1 h hf
theorem fl_X9_begin_100 {M0 : zx_Y} {l : Nat} {i : Nat} {kk : Int32 → zx_Y → Option zx_Y} {rM : zx_Y} {c : zx_H} {j_ : Nat} (hk : ∀ (w2 : Int32) (M : zx_Y), kk w2 M = some rM → M c j_ = M0 c j_ → rM c j_ = M0 c j_) (q_100_l : zc c j_ ≠ 100 + l) : ∀ (q : Nat) (w2 : Int32) (M : zx_Y), lg_X9_begin_100 l i kk q w2 M = some rM → M c j_ = M0 c j_ → rM c j_ = M0 c j_
  | 0, w2, M, h, hf => by
    rw [lg_X9_begin_100.eq_1] at h
    cases h
  | q + 1, w2, M, h, hf => by
    rw [lg_X9_begin_100.eq_2] at h
    rcases fr_br h with h | h
    · exact hk _ _ h hf
    · obtain ⟨k1, h⟩ := fr_ix h
      obtain ⟨M1, hf, h⟩ := fr_pu h hf q_100_l
      obtain ⟨k2, h⟩ := fr_ix h
      obtain ⟨M2, hf, h⟩ := fr_pu h hf q_100_l
      exact fl_X9_begin_100 hk q_100_l q (w2 + 1) M2 h hf
theorem fr_X9_begin {M : zx_Y} {l : Nat} {i : Nat} {j : Nat} {rM : zx_Y} {c : zx_H} {j_ : Nat} (h : g_X9_begin M l i j = some rM) (q_100_l : zc c j_ ≠ 100 + l) : rM c j_ = M c j_ := by
  unfold g_X9_begin at h
  have hf : M c j_ = M c j_ := rfl
  obtain ⟨M1, hf, h⟩ := fr_pu h hf q_100_l
  obtain ⟨M2, hf, h⟩ := fr_pu h hf q_100_l
  obtain ⟨M3, hf, h⟩ := fr_pu h hf q_100_l
  obtain ⟨M4, hf, h⟩ := fr_pu h hf q_100_l
  obtain ⟨M5, hf, h⟩ := fr_pu h hf q_100_l
  obtain ⟨M6, hf, h⟩ := fr_pu h hf q_100_l
  obtain ⟨M7, hf, h⟩ := fr_pu h hf q_100_l
  obtain ⟨M8, hf, h⟩ := fr_pu h hf q_100_l
  obtain ⟨M9, hf, h⟩ := fr_pu h hf q_100_l
  obtain ⟨M10, hf, h⟩ := fr_cm h (fun _ hv => fr_X9_changeTo hv q_100_l) hf
  refine fl_X9_begin_76 (fun v1 M11 h hf => ?_) q_100_l 1000 0 M10 h hf
  refine fl_X9_begin_100 (fun v2 M12 h hf => ?_) q_100_l 1000 0 M11 h hf
  exact fr_r0 h hf
theorem fr_X0_addTrain {M : zx_Y} {l : Nat} {i : Nat} {rM : zx_Y} {c : zx_H} {j_ : Nat} (h : g_X0_addTrain M l i = some rM) (q_100_l : zc c j_ ≠ 100 + l) : rM c j_ = M c j_ := by
  unfold g_X0_addTrain at h
  have hf : M c j_ = M c j_ := rfl
  rcases fr_br h with h | h
  · exact fr_r0 h hf
  · rcases fr_br h with h | h
    · obtain ⟨k1, h⟩ := fr_ix h
      obtain ⟨M1, hf, h⟩ := fr_cm h (fun _ hv => fr_X9_begin hv q_100_l) hf
      obtain ⟨M2, hf, h⟩ := fr_pu h hf q_100_l
      exact fr_r0 h hf
    · exact fr_r0 h hf
theorem fr_X0_carryOut {M : zx_Y} {l : Nat} {i : Nat} {rM : zx_Y} {c : zx_H} {j_ : Nat} (h : g_X0_carryOut M l i = some rM) (q_100_l : zc c j_ ≠ 100 + l) : rM c j_ = M c j_ := by
  unfold g_X0_carryOut at h
  have hf : M c j_ = M c j_ := rfl
  rcases fr_br h with h | h
  · obtain ⟨M1, hf, h⟩ := fr_cm h (fun _ hv => fr_X0_makeLine hv q_100_l) hf
    exact fr_r0 h hf
  · rcases fr_br h with h | h
    · obtain ⟨M2, hf, h⟩ := fr_pu h hf q_100_l
      exact fr_r0 h hf
    · rcases fr_br h with h | h
      · obtain ⟨M3, hf, h⟩ := fr_pu h hf q_100_l
        exact fr_r0 h hf
      · rcases fr_br h with h | h
        · obtain ⟨M4, hf, h⟩ := fr_cm h (fun _ hv => fr_X0_addOrder hv q_100_l) hf
          exact fr_r0 h hf
        · rcases fr_br h with h | h
          · obtain ⟨M5, hf, h⟩ := fr_pu h hf q_100_l
            exact fr_r0 h hf
          · rcases fr_br h with h | h
            · obtain ⟨M6, hf, h⟩ := fr_pu h hf q_100_l
              exact fr_r0 h hf
            · rcases fr_br h with h | h
              · obtain ⟨M7, hf, h⟩ := fr_pu h hf q_100_l
                exact fr_r0 h hf
              · rcases fr_br h with h | h
                · obtain ⟨M8, hf, h⟩ := fr_cm h (fun _ hv => fr_X0_changeStation hv q_100_l) hf
                  exact fr_r0 h hf
                · rcases fr_br h with h | h
                  · obtain ⟨M9, hf, h⟩ := fr_cm h (fun _ hv => fr_X0_addTrain hv q_100_l) hf
                    exact fr_r0 h hf
                  · obtain ⟨M10, hf, h⟩ := fr_pu h hf q_100_l
                    exact fr_r0 h hf
theorem fl_X10_carryOutCommands_15 {M0 : zx_Y} {kk : Int32 → Int32 → zx_Y → Option (Int32 × zx_Y)} {rv : Int32} {rM : zx_Y} {c : zx_H} {j_ : Nat} (hk : ∀ (w1 : Int32) (w2 : Int32) (M : zx_Y), kk w1 w2 M = some (rv, rM) → M c j_ = M0 c j_ → rM c j_ = M0 c j_) (q_3 : zc c j_ ≠ 3) (q_100_0 : zc c j_ ≠ 100 + 0) (q_2 : zc c j_ ≠ 2) : ∀ (q : Nat) (w1 : Int32) (w2 : Int32) (M : zx_Y), lg_X10_carryOutCommands_15 kk q w1 w2 M = some (rv, rM) → M c j_ = M0 c j_ → rM c j_ = M0 c j_
  | 0, w1, w2, M, h, hf => by
    rw [lg_X10_carryOutCommands_15.eq_1] at h
    cases h
  | q + 1, w1, w2, M, h, hf => by
    rw [lg_X10_carryOutCommands_15.eq_2] at h
    rcases fr_br h with h | h
    · exact hk _ _ _ h hf
    · obtain ⟨k1, h⟩ := fr_ix h
      obtain ⟨v1, M1, hf, h⟩ := fr_cv h (fun _ _ hv => fr_X0_refuses hv q_3) hf
      rcases fr_br h with h | h
      · obtain ⟨M2, hf, h⟩ := fr_cm h (fun _ hv => fr_X0_carryOut hv q_100_0) hf
        rcases fr_br h with h | h
        · exact fl_X10_carryOutCommands_15 hk q_3 q_100_0 q_2 q 1 (w2 + 1) M2 h hf
        · exact fl_X10_carryOutCommands_15 hk q_3 q_100_0 q_2 q w1 (w2 + 1) M2 h hf
      · obtain ⟨M3, hf, h⟩ := fr_cm h (fun _ hv => fr_X2_copyFrom hv q_100_0) hf
        obtain ⟨M4, hf, h⟩ := fr_cm h (fun _ hv => fr_X4_keep hv q_2) hf
        exact fr_ri h hf
theorem fr_X10_carryOutCommands {M : zx_Y} {rv : Int32} {rM : zx_Y} {c : zx_H} {j_ : Nat} (h : g_X10_carryOutCommands M = some (rv, rM)) (q_100_2 : zc c j_ ≠ 100 + 2) (q_2 : zc c j_ ≠ 2) (q_4 : zc c j_ ≠ 4) (q_3 : zc c j_ ≠ 3) (q_100_0 : zc c j_ ≠ 100 + 0) : rM c j_ = M c j_ := by
  unfold g_X10_carryOutCommands at h
  have hf : M c j_ = M c j_ := rfl
  obtain ⟨M1, hf, h⟩ := fr_cm h (fun _ hv => fr_X2_copyFrom hv q_100_2) hf
  refine fl_X10_carryOutCommands_15 (fun v1 v2 M2 h hf => ?_) q_3 q_100_0 q_2 1000 0 0 M1 h hf
  rcases fr_br h with h | h
  · obtain ⟨M3, hf, h⟩ := fr_pu h hf q_2
    exact fr_ri h hf
  · obtain ⟨M4, hf, h⟩ := fr_pu h hf q_4
    obtain ⟨M5, hf, h⟩ := fr_pu h hf q_2
    exact fr_ri h hf
theorem fr_X10_execute {M : zx_Y} {rv : Int32} {rM : zx_Y} {c : zx_H} {j_ : Nat} (h : g_X10_execute M = some (rv, rM)) (q_1 : zc c j_ ≠ 1) (q_2 : zc c j_ ≠ 2) (q_100_2 : zc c j_ ≠ 100 + 2) (q_4 : zc c j_ ≠ 4) (q_3 : zc c j_ ≠ 3) (q_100_0 : zc c j_ ≠ 100 + 0) : rM c j_ = M c j_ := by
  unfold g_X10_execute at h
  have hf : M c j_ = M c j_ := rfl
  obtain ⟨v1, M1, hf, h⟩ := fr_cv h (fun _ _ hv => fr_X8_readText hv q_1) hf
  rcases fr_br h with h | h
  · obtain ⟨v2, h⟩ := fr_cb h
    obtain ⟨M2, hf, h⟩ := fr_cm h (fun _ hv => fr_X4_keep hv q_2) hf
    obtain ⟨M3, hf, h⟩ := fr_pu h hf q_1
    exact fr_ri h hf
  · obtain ⟨v3, M4, hf, h⟩ := fr_cv h (fun _ _ hv => fr_X10_carryOutCommands hv q_100_2 q_2 q_4 q_3 q_100_0) hf
    obtain ⟨M5, hf, h⟩ := fr_pu h hf q_1
    exact fr_ri h hf
theorem fr_X11_refuse {M : zx_Y} {x0 : Int32} {x1 : Int32} {rM : zx_Y} {c : zx_H} {j_ : Nat} (h : g_X11_refuse M x0 x1 = some rM) (q_33 : zc c j_ ≠ 33) (q_34 : zc c j_ ≠ 34) : rM c j_ = M c j_ := by
  unfold g_X11_refuse at h
  have hf : M c j_ = M c j_ := rfl
  obtain ⟨M1, hf, h⟩ := fr_pu h hf q_33
  obtain ⟨M2, hf, h⟩ := fr_pu h hf q_34
  exact fr_r0 h hf
theorem fr_X11_goes {M : zx_Y} {x0 : Int32} {rv : Int32} {rM : zx_Y} {c : zx_H} {j_ : Nat} (h : g_X11_goes M x0 = some (rv, rM)) (q_26 : zc c j_ ≠ 26) : rM c j_ = M c j_ := by
  unfold g_X11_goes at h
  have hf : M c j_ = M c j_ := rfl
  rcases fr_br h with h | h
  · obtain ⟨v1, h⟩ := fr_cb h
    rcases fr_br h with h | h
    · obtain ⟨M1, hf, h⟩ := fr_pu h hf q_26
      exact fr_ri h hf
    · obtain ⟨M2, hf, h⟩ := fr_pu h hf q_26
      exact fr_ri h hf
  · obtain ⟨M3, hf, h⟩ := fr_pu h hf q_26
    exact fr_ri h hf
theorem fr_X11_faultHere {M : zx_Y} {rM : zx_Y} {c : zx_H} {j_ : Nat} (h : g_X11_faultHere M = some rM) (q_27 : zc c j_ ≠ 27) : rM c j_ = M c j_ := by
  unfold g_X11_faultHere at h
  have hf : M c j_ = M c j_ := rfl
  rcases fr_br h with h | h
  · obtain ⟨M1, hf, h⟩ := fr_pu h hf q_27
    exact fr_r0 h hf
  · obtain ⟨M2, hf, h⟩ := fr_pu h hf q_27
    exact fr_r0 h hf
theorem fl_X11_readNumber_4 {M0 : zx_Y} {kk : Int32 → Int32 → zx_Y → Option zx_Y} {rM : zx_Y} {c : zx_H} {j_ : Nat} (hk : ∀ (w1 : Int32) (w2 : Int32) (M : zx_Y), kk w1 w2 M = some rM → M c j_ = M0 c j_ → rM c j_ = M0 c j_) (q_26 : zc c j_ ≠ 26) : ∀ (q : Nat) (w1 : Int32) (w2 : Int32) (M : zx_Y), lg_X11_readNumber_4 kk q w1 w2 M = some rM → M c j_ = M0 c j_ → rM c j_ = M0 c j_
  | 0, w1, w2, M, h, hf => by
    rw [lg_X11_readNumber_4.eq_1] at h
    cases h
  | q + 1, w1, w2, M, h, hf => by
    rw [lg_X11_readNumber_4.eq_2] at h
    rcases fr_br h with h | h
    · obtain ⟨v1, h⟩ := fr_cb h
      obtain ⟨v2, h⟩ := fr_cb h
      rcases fr_br h with h | h
      · exact hk _ _ _ h hf
      · rcases fr_br h with h | h
        · exact hk _ _ _ h hf
        · rcases fr_br h with h | h
          · obtain ⟨v3, h⟩ := fr_cb h
            obtain ⟨M1, hf, h⟩ := fr_pu h hf q_26
            exact fl_X11_readNumber_4 hk q_26 q (((10 * w1) + v3) - 48) (w2 + 1) M1 h hf
          · rcases fr_br h with h | h
            · exact hk _ _ _ h hf
            · obtain ⟨v4, h⟩ := fr_cb h
              obtain ⟨M2, hf, h⟩ := fr_pu h hf q_26
              exact fl_X11_readNumber_4 hk q_26 q (((10 * w1) + v4) - 48) (w2 + 1) M2 h hf
    · exact hk _ _ _ h hf
theorem fr_X11_keepNumber {M : zx_Y} {x0 : Int32} {rM : zx_Y} {c : zx_H} {j_ : Nat} (h : g_X11_keepNumber M x0 = some rM) (q_14 : zc c j_ ≠ 14) (q_31 : zc c j_ ≠ 31) : rM c j_ = M c j_ := by
  unfold g_X11_keepNumber at h
  have hf : M c j_ = M c j_ := rfl
  obtain ⟨k1, h⟩ := fr_ix h
  obtain ⟨M1, hf, h⟩ := fr_pu h hf q_14
  obtain ⟨M2, hf, h⟩ := fr_pu h hf q_31
  exact fr_r0 h hf
theorem fr_X11_readNumber {M : zx_Y} {rM : zx_Y} {c : zx_H} {j_ : Nat} (h : g_X11_readNumber M = some rM) (q_27 : zc c j_ ≠ 27) (q_14 : zc c j_ ≠ 14) (q_31 : zc c j_ ≠ 31) (q_26 : zc c j_ ≠ 26) : rM c j_ = M c j_ := by
  unfold g_X11_readNumber at h
  have hf : M c j_ = M c j_ := rfl
  refine fl_X11_readNumber_4 (fun v1 v2 M1 h hf => ?_) q_26 1000 0 0 M h hf
  rcases fr_br h with h | h
  · obtain ⟨M2, hf, h⟩ := fr_cm h (fun _ hv => fr_X11_faultHere hv q_27) hf
    obtain ⟨M3, hf, h⟩ := fr_cm h (fun _ hv => fr_X11_keepNumber hv q_14 q_31) hf
    exact fr_r0 h hf
  · obtain ⟨M4, hf, h⟩ := fr_cm h (fun _ hv => fr_X11_keepNumber hv q_14 q_31) hf
    exact fr_r0 h hf
theorem fr_X11_digit {M : zx_Y} {x0 : Int32} {rM : zx_Y} {c : zx_H} {j_ : Nat} (h : g_X11_digit M x0 = some rM) (q_27 : zc c j_ ≠ 27) (q_14 : zc c j_ ≠ 14) (q_31 : zc c j_ ≠ 31) (q_26 : zc c j_ ≠ 26) : rM c j_ = M c j_ := by
  unfold g_X11_digit at h
  have hf : M c j_ = M c j_ := rfl
  obtain ⟨v1, h⟩ := fr_cb h
  rcases fr_br h with h | h
  · obtain ⟨v2, h⟩ := fr_cb h
    obtain ⟨v3, h⟩ := fr_cb h
    rcases fr_br h with h | h
    · obtain ⟨M1, hf, h⟩ := fr_cm h (fun _ hv => fr_X11_faultHere hv q_27) hf
      obtain ⟨M2, hf, h⟩ := fr_cm h (fun _ hv => fr_X11_keepNumber hv q_14 q_31) hf
      exact fr_r0 h hf
    · obtain ⟨M3, hf, h⟩ := fr_pu h hf q_26
      obtain ⟨M4, hf, h⟩ := fr_cm h (fun _ hv => fr_X11_keepNumber hv q_14 q_31) hf
      exact fr_r0 h hf
  · obtain ⟨M5, hf, h⟩ := fr_cm h (fun _ hv => fr_X11_faultHere hv q_27) hf
    obtain ⟨M6, hf, h⟩ := fr_cm h (fun _ hv => fr_X11_keepNumber hv q_14 q_31) hf
    exact fr_r0 h hf
theorem fr_X11_must {M : zx_Y} {x0 : Int32} {rM : zx_Y} {c : zx_H} {j_ : Nat} (h : g_X11_must M x0 = some rM) (q_26 : zc c j_ ≠ 26) (q_27 : zc c j_ ≠ 27) : rM c j_ = M c j_ := by
  unfold g_X11_must at h
  have hf : M c j_ = M c j_ := rfl
  obtain ⟨v1, M1, hf, h⟩ := fr_cv h (fun _ _ hv => fr_X11_goes hv q_26) hf
  rcases fr_br h with h | h
  · obtain ⟨M2, hf, h⟩ := fr_cm h (fun _ hv => fr_X11_faultHere hv q_27) hf
    exact fr_r0 h hf
  · exact fr_r0 h hf
theorem fr_X11_readRest {M : zx_Y} {rM : zx_Y} {c : zx_H} {j_ : Nat} (h : g_X11_readRest M = some rM) (q_26 : zc c j_ ≠ 26) (q_14 : zc c j_ ≠ 14) (q_31 : zc c j_ ≠ 31) (q_27 : zc c j_ ≠ 27) : rM c j_ = M c j_ := by
  unfold g_X11_readRest at h
  have hf : M c j_ = M c j_ := rfl
  obtain ⟨v1, M1, hf, h⟩ := fr_cv h (fun _ _ hv => fr_X11_goes hv q_26) hf
  rcases fr_br h with h | h
  · obtain ⟨M2, hf, h⟩ := fr_cm h (fun _ hv => fr_X11_keepNumber hv q_14 q_31) hf
    obtain ⟨v2, M3, hf, h⟩ := fr_cv h (fun _ _ hv => fr_X11_goes hv q_26) hf
    rcases fr_br h with h | h
    · obtain ⟨M4, hf, h⟩ := fr_cm h (fun _ hv => fr_X11_keepNumber hv q_14 q_31) hf
      exact fr_r0 h hf
    · obtain ⟨M5, hf, h⟩ := fr_cm h (fun _ hv => fr_X11_readNumber hv q_27 q_14 q_31 q_26) hf
      exact fr_r0 h hf
  · obtain ⟨M6, hf, h⟩ := fr_cm h (fun _ hv => fr_X11_digit hv q_27 q_14 q_31 q_26) hf
    obtain ⟨v3, M7, hf, h⟩ := fr_cv h (fun _ _ hv => fr_X11_goes hv q_26) hf
    rcases fr_br h with h | h
    · obtain ⟨M8, hf, h⟩ := fr_cm h (fun _ hv => fr_X11_keepNumber hv q_14 q_31) hf
      exact fr_r0 h hf
    · obtain ⟨M9, hf, h⟩ := fr_cm h (fun _ hv => fr_X11_readNumber hv q_27 q_14 q_31 q_26) hf
      exact fr_r0 h hf
theorem fl_X11_readCommand_26 {M0 : zx_Y} {kk : zx_Y → Option zx_Y} {rM : zx_Y} {c : zx_H} {j_ : Nat} (hk : ∀ (M : zx_Y), kk M = some rM → M c j_ = M0 c j_ → rM c j_ = M0 c j_) (q_26 : zc c j_ ≠ 26) (q_27 : zc c j_ ≠ 27) (q_14 : zc c j_ ≠ 14) (q_31 : zc c j_ ≠ 31) : ∀ (q : Nat) (M : zx_Y), lg_X11_readCommand_26 kk q M = some rM → M c j_ = M0 c j_ → rM c j_ = M0 c j_
  | 0, M, h, hf => by
    rw [lg_X11_readCommand_26.eq_1] at h
    cases h
  | q + 1, M, h, hf => by
    rw [lg_X11_readCommand_26.eq_2] at h
    rcases fr_br h with h | h
    · exact hk _ h hf
    · obtain ⟨v1, M1, hf, h⟩ := fr_cv h (fun _ _ hv => fr_X11_goes hv q_26) hf
      rcases fr_br h with h | h
      · exact hk _ h hf
      · obtain ⟨M2, hf, h⟩ := fr_cm h (fun _ hv => fr_X11_readNumber hv q_27 q_14 q_31 q_26) hf
        exact fl_X11_readCommand_26 hk q_26 q_27 q_14 q_31 q M2 h hf
theorem fr_X11_readCommand {M : zx_Y} {rM : zx_Y} {c : zx_H} {j_ : Nat} (h : g_X11_readCommand M = some rM) (q_35 : zc c j_ ≠ 35) (q_31 : zc c j_ ≠ 31) (q_26 : zc c j_ ≠ 26) (q_27 : zc c j_ ≠ 27) (q_14 : zc c j_ ≠ 14) : rM c j_ = M c j_ := by
  unfold g_X11_readCommand at h
  have hf : M c j_ = M c j_ := rfl
  obtain ⟨v1, h⟩ := fr_cb h
  obtain ⟨M1, hf, h⟩ := fr_pu h hf q_35
  obtain ⟨M2, hf, h⟩ := fr_pu h hf q_31
  obtain ⟨v2, M3, hf, h⟩ := fr_cv h (fun _ _ hv => fr_X11_goes hv q_26) hf
  rcases fr_br h with h | h
  · obtain ⟨v3, M4, hf, h⟩ := fr_cv h (fun _ _ hv => fr_X11_goes hv q_26) hf
    rcases fr_br h with h | h
    · obtain ⟨v4, M5, hf, h⟩ := fr_cv h (fun _ _ hv => fr_X11_goes hv q_26) hf
      rcases fr_br h with h | h
      · obtain ⟨v5, M6, hf, h⟩ := fr_cv h (fun _ _ hv => fr_X11_goes hv q_26) hf
        rcases fr_br h with h | h
        · obtain ⟨v6, M7, hf, h⟩ := fr_cv h (fun _ _ hv => fr_X11_goes hv q_26) hf
          rcases fr_br h with h | h
          · obtain ⟨M8, hf, h⟩ := fr_cm h (fun _ hv => fr_X11_faultHere hv q_27) hf
            exact fr_r0 h hf
          · obtain ⟨M9, hf, h⟩ := fr_cm h (fun _ hv => fr_X11_readNumber hv q_27 q_14 q_31 q_26) hf
            exact fr_r0 h hf
        · obtain ⟨M10, hf, h⟩ := fr_cm h (fun _ hv => fr_X11_digit hv q_27 q_14 q_31 q_26) hf
          obtain ⟨M11, hf, h⟩ := fr_cm h (fun _ hv => fr_X11_must hv q_26 q_27) hf
          obtain ⟨M12, hf, h⟩ := fr_cm h (fun _ hv => fr_X11_readNumber hv q_27 q_14 q_31 q_26) hf
          obtain ⟨M13, hf, h⟩ := fr_cm h (fun _ hv => fr_X11_must hv q_26 q_27) hf
          obtain ⟨M14, hf, h⟩ := fr_cm h (fun _ hv => fr_X11_readNumber hv q_27 q_14 q_31 q_26) hf
          obtain ⟨M15, hf, h⟩ := fr_cm h (fun _ hv => fr_X11_must hv q_26 q_27) hf
          obtain ⟨M16, hf, h⟩ := fr_cm h (fun _ hv => fr_X11_readNumber hv q_27 q_14 q_31 q_26) hf
          exact fr_r0 h hf
      · obtain ⟨M17, hf, h⟩ := fr_cm h (fun _ hv => fr_X11_digit hv q_27 q_14 q_31 q_26) hf
        obtain ⟨M18, hf, h⟩ := fr_cm h (fun _ hv => fr_X11_must hv q_26 q_27) hf
        obtain ⟨M19, hf, h⟩ := fr_cm h (fun _ hv => fr_X11_digit hv q_27 q_14 q_31 q_26) hf
        obtain ⟨M20, hf, h⟩ := fr_cm h (fun _ hv => fr_X11_must hv q_26 q_27) hf
        obtain ⟨M21, hf, h⟩ := fr_cm h (fun _ hv => fr_X11_digit hv q_27 q_14 q_31 q_26) hf
        obtain ⟨M22, hf, h⟩ := fr_cm h (fun _ hv => fr_X11_must hv q_26 q_27) hf
        obtain ⟨M23, hf, h⟩ := fr_cm h (fun _ hv => fr_X11_readNumber hv q_27 q_14 q_31 q_26) hf
        obtain ⟨M24, hf, h⟩ := fr_cm h (fun _ hv => fr_X11_readRest hv q_26 q_14 q_31 q_27) hf
        exact fr_r0 h hf
    · obtain ⟨M25, hf, h⟩ := fr_cm h (fun _ hv => fr_X11_digit hv q_27 q_14 q_31 q_26) hf
      obtain ⟨M26, hf, h⟩ := fr_cm h (fun _ hv => fr_X11_must hv q_26 q_27) hf
      obtain ⟨M27, hf, h⟩ := fr_cm h (fun _ hv => fr_X11_digit hv q_27 q_14 q_31 q_26) hf
      obtain ⟨v7, M28, hf, h⟩ := fr_cv h (fun _ _ hv => fr_X11_goes hv q_26) hf
      rcases fr_br h with h | h
      · obtain ⟨M29, hf, h⟩ := fr_cm h (fun _ hv => fr_X11_keepNumber hv q_14 q_31) hf
        exact fr_r0 h hf
      · obtain ⟨M30, hf, h⟩ := fr_cm h (fun _ hv => fr_X11_keepNumber hv q_14 q_31) hf
        exact fr_r0 h hf
  · obtain ⟨M31, hf, h⟩ := fr_cm h (fun _ hv => fr_X11_readNumber hv q_27 q_14 q_31 q_26) hf
    refine fl_X11_readCommand_26 (fun M32 h hf => ?_) q_26 q_27 q_14 q_31 1000  M31 h hf
    exact fr_r0 h hf
theorem fl_X11_makeLine_2 {M M0 : zx_Y} {kk : Int32 → Option zx_Y} {rM : zx_Y} {c : zx_H} {j_ : Nat} (hk : ∀ (w1 : Int32), kk w1 = some rM → rM c j_ = M0 c j_) (hf : M c j_ = M0 c j_) (q_33 : zc c j_ ≠ 33) (q_34 : zc c j_ ≠ 34) : ∀ (q : Nat) (w1 : Int32), lg_X11_makeLine_2 M kk q w1 = some rM → rM c j_ = M0 c j_
  | 0, w1, h => by
    rw [lg_X11_makeLine_2.eq_1] at h
    cases h
  | q + 1, w1, h => by
    rw [lg_X11_makeLine_2.eq_2] at h
    rcases fr_br h with h | h
    · exact hk _ h
    · obtain ⟨k1, h⟩ := fr_ix h
      obtain ⟨v1, h⟩ := fr_cb h
      rcases fr_br h with h | h
      · obtain ⟨k2, h⟩ := fr_ix h
        obtain ⟨M1, hf, h⟩ := fr_cm h (fun _ hv => fr_X11_refuse hv q_33 q_34) hf
        exact fr_r0 h hf
      · exact fl_X11_makeLine_2 hk hf q_33 q_34 q (w1 + 1) h
theorem fl_X11_makeLine_69 {M0 : zx_Y} {p1 : Int32} {p2 : Int32} {p3 : Int32} {kk : Int32 → zx_Y → Option zx_Y} {rM : zx_Y} {c : zx_H} {j_ : Nat} (hk : ∀ (w4 : Int32) (M : zx_Y), kk w4 M = some rM → M c j_ = M0 c j_ → rM c j_ = M0 c j_) (q_10 : zc c j_ ≠ 10) : ∀ (q : Nat) (w4 : Int32) (M : zx_Y), lg_X11_makeLine_69 p1 p2 p3 kk q w4 M = some rM → M c j_ = M0 c j_ → rM c j_ = M0 c j_
  | 0, w4, M, h, hf => by
    rw [lg_X11_makeLine_69.eq_1] at h
    cases h
  | q + 1, w4, M, h, hf => by
    rw [lg_X11_makeLine_69.eq_2] at h
    rcases fr_br h with h | h
    · exact hk _ _ h hf
    · obtain ⟨k1, h⟩ := fr_ix h
      obtain ⟨M1, hf, h⟩ := fr_pu h hf q_10
      exact fl_X11_makeLine_69 hk q_10 q (w4 + 1) M1 h hf
theorem fl_X11_makeLine_129 {M0 : zx_Y} {kk : Int32 → zx_Y → Option zx_Y} {rM : zx_Y} {c : zx_H} {j_ : Nat} (hk : ∀ (w4 : Int32) (M : zx_Y), kk w4 M = some rM → M c j_ = M0 c j_ → rM c j_ = M0 c j_) (q_10 : zc c j_ ≠ 10) : ∀ (q : Nat) (w4 : Int32) (M : zx_Y), lg_X11_makeLine_129 kk q w4 M = some rM → M c j_ = M0 c j_ → rM c j_ = M0 c j_
  | 0, w4, M, h, hf => by
    rw [lg_X11_makeLine_129.eq_1] at h
    cases h
  | q + 1, w4, M, h, hf => by
    rw [lg_X11_makeLine_129.eq_2] at h
    rcases fr_br h with h | h
    · exact hk _ _ h hf
    · obtain ⟨k1, h⟩ := fr_ix h
      obtain ⟨k2, h⟩ := fr_ix h
      obtain ⟨M1, hf, h⟩ := fr_pu h hf q_10
      exact fl_X11_makeLine_129 hk q_10 q (w4 + 1) M1 h hf
theorem fl_X11_makeLine_163 {M0 : zx_Y} {kk : Int32 → zx_Y → Option zx_Y} {rM : zx_Y} {c : zx_H} {j_ : Nat} (hk : ∀ (w4 : Int32) (M : zx_Y), kk w4 M = some rM → M c j_ = M0 c j_ → rM c j_ = M0 c j_) (q_10 : zc c j_ ≠ 10) : ∀ (q : Nat) (w4 : Int32) (M : zx_Y), lg_X11_makeLine_163 kk q w4 M = some rM → M c j_ = M0 c j_ → rM c j_ = M0 c j_
  | 0, w4, M, h, hf => by
    rw [lg_X11_makeLine_163.eq_1] at h
    cases h
  | q + 1, w4, M, h, hf => by
    rw [lg_X11_makeLine_163.eq_2] at h
    rcases fr_br h with h | h
    · exact hk _ _ h hf
    · obtain ⟨k1, h⟩ := fr_ix h
      obtain ⟨M1, hf, h⟩ := fr_pu h hf q_10
      exact fl_X11_makeLine_163 hk q_10 q (w4 + 1) M1 h hf
theorem fr_X11_makeLine {M : zx_Y} {rM : zx_Y} {c : zx_H} {j_ : Nat} (h : g_X11_makeLine M = some rM) (q_10 : zc c j_ ≠ 10) (q_33 : zc c j_ ≠ 33) (q_34 : zc c j_ ≠ 34) : rM c j_ = M c j_ := by
  unfold g_X11_makeLine at h
  have hf : M c j_ = M c j_ := rfl
  refine fl_X11_makeLine_2 (fun v1 h => ?_) hf q_33 q_34 1000 0  h
  refine fl_X11_makeLine_69 (fun v2 M1 h hf => ?_) q_10 1000 0 M h hf
  obtain ⟨M2, hf, h⟩ := fr_pu h hf q_10
  obtain ⟨M3, hf, h⟩ := fr_pu h hf q_10
  obtain ⟨M4, hf, h⟩ := fr_pu h hf q_10
  obtain ⟨M5, hf, h⟩ := fr_pu h hf q_10
  refine fl_X11_makeLine_129 (fun v3 M6 h hf => ?_) q_10 1000 0 M5 h hf
  refine fl_X11_makeLine_163 (fun v4 M7 h hf => ?_) q_10 1000 0 M6 h hf
  exact fr_r0 h hf
theorem fr_X11_bound {M : zx_Y} {rM : zx_Y} {c : zx_H} {j_ : Nat} (h : g_X11_bound M = some rM) (q_33 : zc c j_ ≠ 33) (q_34 : zc c j_ ≠ 34) (q_10 : zc c j_ ≠ 10) : rM c j_ = M c j_ := by
  unfold g_X11_bound at h
  have hf : M c j_ = M c j_ := rfl
  rcases fr_br h with h | h
  · obtain ⟨M1, hf, h⟩ := fr_cm h (fun _ hv => fr_X11_refuse hv q_33 q_34) hf
    exact fr_r0 h hf
  · obtain ⟨M2, hf, h⟩ := fr_pu h hf q_10
    exact fr_r0 h hf
theorem fl_X11_slow_112 {M0 : zx_Y} {p1 : Int32} {kk : Int32 → zx_Y → Option zx_Y} {rM : zx_Y} {c : zx_H} {j_ : Nat} (hk : ∀ (w2 : Int32) (M : zx_Y), kk w2 M = some rM → M c j_ = M0 c j_ → rM c j_ = M0 c j_) (q_10 : zc c j_ ≠ 10) : ∀ (q : Nat) (w2 : Int32) (M : zx_Y), lg_X11_slow_112 p1 kk q w2 M = some rM → M c j_ = M0 c j_ → rM c j_ = M0 c j_
  | 0, w2, M, h, hf => by
    rw [lg_X11_slow_112.eq_1] at h
    cases h
  | q + 1, w2, M, h, hf => by
    rw [lg_X11_slow_112.eq_2] at h
    rcases fr_br h with h | h
    · exact hk _ _ h hf
    · obtain ⟨k1, h⟩ := fr_ix h
      obtain ⟨k2, h⟩ := fr_ix h
      obtain ⟨M1, hf, h⟩ := fr_pu h hf q_10
      exact fl_X11_slow_112 hk q_10 q (w2 + 1) M1 h hf
theorem fr_X11_slow {M : zx_Y} {rM : zx_Y} {c : zx_H} {j_ : Nat} (h : g_X11_slow M = some rM) (q_33 : zc c j_ ≠ 33) (q_34 : zc c j_ ≠ 34) (q_10 : zc c j_ ≠ 10) : rM c j_ = M c j_ := by
  unfold g_X11_slow at h
  have hf : M c j_ = M c j_ := rfl
  rcases fr_br h with h | h
  · obtain ⟨M1, hf, h⟩ := fr_cm h (fun _ hv => fr_X11_refuse hv q_33 q_34) hf
    exact fr_r0 h hf
  · obtain ⟨v1, h⟩ := fr_cb h
    rcases fr_br h with h | h
    · obtain ⟨M2, hf, h⟩ := fr_cm h (fun _ hv => fr_X11_refuse hv q_33 q_34) hf
      exact fr_r0 h hf
    · rcases fr_br h with h | h
      · obtain ⟨M3, hf, h⟩ := fr_cm h (fun _ hv => fr_X11_refuse hv q_33 q_34) hf
        exact fr_r0 h hf
      · rcases fr_br h with h | h
        · refine fl_X11_slow_112 (fun v2 M4 h hf => ?_) q_10 1000 0 M h hf
          obtain ⟨M5, hf, h⟩ := fr_pu h hf q_10
          exact fr_r0 h hf
        · obtain ⟨M6, hf, h⟩ := fr_cm h (fun _ hv => fr_X11_refuse hv q_33 q_34) hf
          exact fr_r0 h hf
theorem fr_X11_equip {M : zx_Y} {rM : zx_Y} {c : zx_H} {j_ : Nat} (h : g_X11_equip M = some rM) (q_33 : zc c j_ ≠ 33) (q_34 : zc c j_ ≠ 34) (q_10 : zc c j_ ≠ 10) : rM c j_ = M c j_ := by
  unfold g_X11_equip at h
  have hf : M c j_ = M c j_ := rfl
  rcases fr_br h with h | h
  · obtain ⟨M1, hf, h⟩ := fr_cm h (fun _ hv => fr_X11_refuse hv q_33 q_34) hf
    exact fr_r0 h hf
  · obtain ⟨v1, h⟩ := fr_cb h
    rcases fr_br h with h | h
    · obtain ⟨M2, hf, h⟩ := fr_cm h (fun _ hv => fr_X11_refuse hv q_33 q_34) hf
      exact fr_r0 h hf
    · obtain ⟨v2, h⟩ := fr_cb h
      rcases fr_br h with h | h
      · obtain ⟨M3, hf, h⟩ := fr_cm h (fun _ hv => fr_X11_refuse hv q_33 q_34) hf
        exact fr_r0 h hf
      · obtain ⟨v3, h⟩ := fr_cb h
        rcases fr_br h with h | h
        · obtain ⟨k1, h⟩ := fr_ix h
          obtain ⟨M4, hf, h⟩ := fr_pu h hf q_10
          obtain ⟨k2, h⟩ := fr_ix h
          obtain ⟨M5, hf, h⟩ := fr_pu h hf q_10
          exact fr_r0 h hf
        · obtain ⟨M6, hf, h⟩ := fr_cm h (fun _ hv => fr_X11_refuse hv q_33 q_34) hf
          exact fr_r0 h hf
theorem fr_X11_set {M : zx_Y} {x0 : Int32} {x1 : Int32} {x2 : Int32} {rM : zx_Y} {c : zx_H} {j_ : Nat} (h : g_X11_set M x0 x1 x2 = some rM) (q_10 : zc c j_ ≠ 10) : rM c j_ = M c j_ := by
  unfold g_X11_set at h
  have hf : M c j_ = M c j_ := rfl
  obtain ⟨k1, h⟩ := fr_ix h
  obtain ⟨M1, hf, h⟩ := fr_pu h hf q_10
  exact fr_r0 h hf
theorem fl_X11_bringTrain_21 {M0 : zx_Y} {p1 : Int32} {kk : Int32 → zx_Y → Option zx_Y} {rM : zx_Y} {c : zx_H} {j_ : Nat} (hk : ∀ (w2 : Int32) (M : zx_Y), kk w2 M = some rM → M c j_ = M0 c j_ → rM c j_ = M0 c j_) (q_10 : zc c j_ ≠ 10) : ∀ (q : Nat) (w2 : Int32) (M : zx_Y), lg_X11_bringTrain_21 p1 kk q w2 M = some rM → M c j_ = M0 c j_ → rM c j_ = M0 c j_
  | 0, w2, M, h, hf => by
    rw [lg_X11_bringTrain_21.eq_1] at h
    cases h
  | q + 1, w2, M, h, hf => by
    rw [lg_X11_bringTrain_21.eq_2] at h
    rcases fr_br h with h | h
    · exact hk _ _ h hf
    · rcases fr_br h with h | h
      · obtain ⟨M1, hf, h⟩ := fr_cm h (fun _ hv => fr_X11_set hv q_10) hf
        exact fl_X11_bringTrain_21 hk q_10 q (w2 + 1) M1 h hf
      · obtain ⟨M2, hf, h⟩ := fr_cm h (fun _ hv => fr_X11_set hv q_10) hf
        exact fl_X11_bringTrain_21 hk q_10 q (w2 + 1) M2 h hf
theorem fl_X11_bringTrain_177 {M0 : zx_Y} {p1 : Int32} {kk : Int32 → zx_Y → Option zx_Y} {rM : zx_Y} {c : zx_H} {j_ : Nat} (hk : ∀ (w2 : Int32) (M : zx_Y), kk w2 M = some rM → M c j_ = M0 c j_ → rM c j_ = M0 c j_) (q_10 : zc c j_ ≠ 10) : ∀ (q : Nat) (w2 : Int32) (M : zx_Y), lg_X11_bringTrain_177 p1 kk q w2 M = some rM → M c j_ = M0 c j_ → rM c j_ = M0 c j_
  | 0, w2, M, h, hf => by
    rw [lg_X11_bringTrain_177.eq_1] at h
    cases h
  | q + 1, w2, M, h, hf => by
    rw [lg_X11_bringTrain_177.eq_2] at h
    rcases fr_br h with h | h
    · exact hk _ _ h hf
    · obtain ⟨k1, h⟩ := fr_ix h
      obtain ⟨M1, hf, h⟩ := fr_pu h hf q_10
      exact fl_X11_bringTrain_177 hk q_10 q (w2 + 1) M1 h hf
theorem fr_X11_bringTrain {M : zx_Y} {rM : zx_Y} {c : zx_H} {j_ : Nat} (h : g_X11_bringTrain M = some rM) (q_10 : zc c j_ ≠ 10) : rM c j_ = M c j_ := by
  unfold g_X11_bringTrain at h
  have hf : M c j_ = M c j_ := rfl
  obtain ⟨M1, hf, h⟩ := fr_pu h hf q_10
  refine fl_X11_bringTrain_21 (fun v1 M2 h hf => ?_) q_10 1000 0 M1 h hf
  obtain ⟨M3, hf, h⟩ := fr_cm h (fun _ hv => fr_X11_set hv q_10) hf
  obtain ⟨M4, hf, h⟩ := fr_cm h (fun _ hv => fr_X11_set hv q_10) hf
  obtain ⟨M5, hf, h⟩ := fr_cm h (fun _ hv => fr_X11_set hv q_10) hf
  obtain ⟨M6, hf, h⟩ := fr_cm h (fun _ hv => fr_X11_set hv q_10) hf
  obtain ⟨M7, hf, h⟩ := fr_cm h (fun _ hv => fr_X11_set hv q_10) hf
  obtain ⟨M8, hf, h⟩ := fr_cm h (fun _ hv => fr_X11_set hv q_10) hf
  obtain ⟨M9, hf, h⟩ := fr_cm h (fun _ hv => fr_X11_set hv q_10) hf
  obtain ⟨M10, hf, h⟩ := fr_cm h (fun _ hv => fr_X11_set hv q_10) hf
  obtain ⟨M11, hf, h⟩ := fr_cm h (fun _ hv => fr_X11_set hv q_10) hf
  obtain ⟨M12, hf, h⟩ := fr_cm h (fun _ hv => fr_X11_set hv q_10) hf
  rcases fr_br h with h | h
  · exact fr_r0 h hf
  · refine fl_X11_bringTrain_177 (fun v2 M13 h hf => ?_) q_10 1000 0 M12 h hf
    exact fr_r0 h hf
theorem fr_X11_bring {M : zx_Y} {rM : zx_Y} {c : zx_H} {j_ : Nat} (h : g_X11_bring M = some rM) (q_33 : zc c j_ ≠ 33) (q_34 : zc c j_ ≠ 34) (q_10 : zc c j_ ≠ 10) : rM c j_ = M c j_ := by
  unfold g_X11_bring at h
  have hf : M c j_ = M c j_ := rfl
  rcases fr_br h with h | h
  · obtain ⟨M1, hf, h⟩ := fr_cm h (fun _ hv => fr_X11_refuse hv q_33 q_34) hf
    exact fr_r0 h hf
  · obtain ⟨v1, h⟩ := fr_cb h
    rcases fr_br h with h | h
    · obtain ⟨v2, h⟩ := fr_cb h
      rcases fr_br h with h | h
      · obtain ⟨M2, hf, h⟩ := fr_cm h (fun _ hv => fr_X11_refuse hv q_33 q_34) hf
        exact fr_r0 h hf
      · obtain ⟨M3, hf, h⟩ := fr_cm h (fun _ hv => fr_X11_refuse hv q_33 q_34) hf
        exact fr_r0 h hf
    · obtain ⟨v3, h⟩ := fr_cb h
      rcases fr_br h with h | h
      · obtain ⟨v4, h⟩ := fr_cb h
        rcases fr_br h with h | h
        · obtain ⟨M4, hf, h⟩ := fr_cm h (fun _ hv => fr_X11_refuse hv q_33 q_34) hf
          exact fr_r0 h hf
        · obtain ⟨M5, hf, h⟩ := fr_cm h (fun _ hv => fr_X11_refuse hv q_33 q_34) hf
          exact fr_r0 h hf
      · rcases fr_br h with h | h
        · obtain ⟨M6, hf, h⟩ := fr_cm h (fun _ hv => fr_X11_refuse hv q_33 q_34) hf
          exact fr_r0 h hf
        · rcases fr_br h with h | h
          · obtain ⟨M7, hf, h⟩ := fr_cm h (fun _ hv => fr_X11_refuse hv q_33 q_34) hf
            exact fr_r0 h hf
          · rcases fr_br h with h | h
            · rcases fr_br h with h | h
              · obtain ⟨M8, hf, h⟩ := fr_cm h (fun _ hv => fr_X11_refuse hv q_33 q_34) hf
                exact fr_r0 h hf
              · obtain ⟨M9, hf, h⟩ := fr_cm h (fun _ hv => fr_X11_bringTrain hv q_10) hf
                exact fr_r0 h hf
            · obtain ⟨M10, hf, h⟩ := fr_cm h (fun _ hv => fr_X11_refuse hv q_33 q_34) hf
              exact fr_r0 h hf
theorem fr_X11_carryOut {M : zx_Y} {rM : zx_Y} {c : zx_H} {j_ : Nat} (h : g_X11_carryOut M = some rM) (q_10 : zc c j_ ≠ 10) (q_33 : zc c j_ ≠ 33) (q_34 : zc c j_ ≠ 34) : rM c j_ = M c j_ := by
  unfold g_X11_carryOut at h
  have hf : M c j_ = M c j_ := rfl
  rcases fr_br h with h | h
  · obtain ⟨M1, hf, h⟩ := fr_cm h (fun _ hv => fr_X11_makeLine hv q_10 q_33 q_34) hf
    exact fr_r0 h hf
  · rcases fr_br h with h | h
    · obtain ⟨M2, hf, h⟩ := fr_cm h (fun _ hv => fr_X11_bound hv q_33 q_34 q_10) hf
      exact fr_r0 h hf
    · rcases fr_br h with h | h
      · obtain ⟨M3, hf, h⟩ := fr_cm h (fun _ hv => fr_X11_bound hv q_33 q_34 q_10) hf
        exact fr_r0 h hf
      · rcases fr_br h with h | h
        · obtain ⟨M4, hf, h⟩ := fr_cm h (fun _ hv => fr_X11_slow hv q_33 q_34 q_10) hf
          exact fr_r0 h hf
        · rcases fr_br h with h | h
          · obtain ⟨M5, hf, h⟩ := fr_cm h (fun _ hv => fr_X11_bound hv q_33 q_34 q_10) hf
            exact fr_r0 h hf
          · rcases fr_br h with h | h
            · obtain ⟨M6, hf, h⟩ := fr_cm h (fun _ hv => fr_X11_bound hv q_33 q_34 q_10) hf
              exact fr_r0 h hf
            · rcases fr_br h with h | h
              · obtain ⟨M7, hf, h⟩ := fr_cm h (fun _ hv => fr_X11_bound hv q_33 q_34 q_10) hf
                exact fr_r0 h hf
              · rcases fr_br h with h | h
                · obtain ⟨M8, hf, h⟩ := fr_cm h (fun _ hv => fr_X11_equip hv q_33 q_34 q_10) hf
                  exact fr_r0 h hf
                · rcases fr_br h with h | h
                  · obtain ⟨M9, hf, h⟩ := fr_cm h (fun _ hv => fr_X11_bring hv q_33 q_34 q_10) hf
                    exact fr_r0 h hf
                  · obtain ⟨M10, hf, h⟩ := fr_cm h (fun _ hv => fr_X11_bound hv q_33 q_34 q_10) hf
                    exact fr_r0 h hf
theorem fl_X11_go_12 {M0 : zx_Y} {x0 : Int32} {kk : Int32 → zx_Y → Option zx_Y} {rM : zx_Y} {c : zx_H} {j_ : Nat} (hk : ∀ (w2 : Int32) (M : zx_Y), kk w2 M = some rM → M c j_ = M0 c j_ → rM c j_ = M0 c j_) (q_35 : zc c j_ ≠ 35) (q_31 : zc c j_ ≠ 31) (q_26 : zc c j_ ≠ 26) (q_27 : zc c j_ ≠ 27) (q_14 : zc c j_ ≠ 14) (q_28 : zc c j_ ≠ 28) (q_10 : zc c j_ ≠ 10) (q_33 : zc c j_ ≠ 33) (q_34 : zc c j_ ≠ 34) : ∀ (q : Nat) (w2 : Int32) (M : zx_Y), lg_X11_go_12 x0 kk q w2 M = some rM → M c j_ = M0 c j_ → rM c j_ = M0 c j_
  | 0, w2, M, h, hf => by
    rw [lg_X11_go_12.eq_1] at h
    cases h
  | q + 1, w2, M, h, hf => by
    rw [lg_X11_go_12.eq_2] at h
    rcases fr_br h with h | h
    · exact hk _ _ h hf
    · obtain ⟨M1, hf, h⟩ := fr_cm h (fun _ hv => fr_X11_readCommand hv q_35 q_31 q_26 q_27 q_14) hf
      rcases fr_br h with h | h
      · rcases fr_br h with h | h
        · obtain ⟨v1, M2, hf, h⟩ := fr_cv h (fun _ _ hv => fr_X11_goes hv q_26) hf
          rcases fr_br h with h | h
          · obtain ⟨M3, hf, h⟩ := fr_pu h hf q_28
            exact fl_X11_go_12 hk q_35 q_31 q_26 q_27 q_14 q_28 q_10 q_33 q_34 q 0 M3 h hf
          · obtain ⟨M4, hf, h⟩ := fr_pu h hf q_28
            exact fl_X11_go_12 hk q_35 q_31 q_26 q_27 q_14 q_28 q_10 q_33 q_34 q 1 M4 h hf
        · obtain ⟨M5, hf, h⟩ := fr_pu h hf q_28
          exact fl_X11_go_12 hk q_35 q_31 q_26 q_27 q_14 q_28 q_10 q_33 q_34 q 0 M5 h hf
      · obtain ⟨M6, hf, h⟩ := fr_cm h (fun _ hv => fr_X11_carryOut hv q_10 q_33 q_34) hf
        rcases fr_br h with h | h
        · obtain ⟨v2, M7, hf, h⟩ := fr_cv h (fun _ _ hv => fr_X11_goes hv q_26) hf
          rcases fr_br h with h | h
          · obtain ⟨M8, hf, h⟩ := fr_pu h hf q_28
            exact fl_X11_go_12 hk q_35 q_31 q_26 q_27 q_14 q_28 q_10 q_33 q_34 q 0 M8 h hf
          · obtain ⟨M9, hf, h⟩ := fr_pu h hf q_28
            exact fl_X11_go_12 hk q_35 q_31 q_26 q_27 q_14 q_28 q_10 q_33 q_34 q 1 M9 h hf
        · obtain ⟨M10, hf, h⟩ := fr_pu h hf q_28
          exact fl_X11_go_12 hk q_35 q_31 q_26 q_27 q_14 q_28 q_10 q_33 q_34 q 0 M10 h hf
theorem fr_X11_go {M : zx_Y} {x0 : Int32} {rM : zx_Y} {c : zx_H} {j_ : Nat} (h : g_X11_go M x0 = some rM) (q_26 : zc c j_ ≠ 26) (q_28 : zc c j_ ≠ 28) (q_27 : zc c j_ ≠ 27) (q_35 : zc c j_ ≠ 35) (q_31 : zc c j_ ≠ 31) (q_14 : zc c j_ ≠ 14) (q_10 : zc c j_ ≠ 10) (q_33 : zc c j_ ≠ 33) (q_34 : zc c j_ ≠ 34) : rM c j_ = M c j_ := by
  unfold g_X11_go at h
  have hf : M c j_ = M c j_ := rfl
  obtain ⟨M1, hf, h⟩ := fr_pu h hf q_26
  obtain ⟨M2, hf, h⟩ := fr_pu h hf q_28
  refine fl_X11_go_12 (fun v1 M3 h hf => ?_) q_35 q_31 q_26 q_27 q_14 q_28 q_10 q_33 q_34 1000 1 M2 h hf
  rcases fr_br h with h | h
  · rcases fr_br h with h | h
    · exact fr_r0 h hf
    · obtain ⟨M4, hf, h⟩ := fr_cm h (fun _ hv => fr_X11_faultHere hv q_27) hf
      exact fr_r0 h hf
  · exact fr_r0 h hf
theorem fr_X11_execute {M : zx_Y} {rv : Int32} {rM : zx_Y} {c : zx_H} {j_ : Nat} (h : g_X11_execute M = some (rv, rM)) (q_25 : zc c j_ ≠ 25) (q_24 : zc c j_ ≠ 24) (q_27 : zc c j_ ≠ 27) (q_32 : zc c j_ ≠ 32) (q_33 : zc c j_ ≠ 33) (q_34 : zc c j_ ≠ 34) (q_26 : zc c j_ ≠ 26) (q_28 : zc c j_ ≠ 28) (q_35 : zc c j_ ≠ 35) (q_31 : zc c j_ ≠ 31) (q_14 : zc c j_ ≠ 14) (q_10 : zc c j_ ≠ 10) (q_13 : zc c j_ ≠ 13) : rM c j_ = M c j_ := by
  unfold g_X11_execute at h
  have hf : M c j_ = M c j_ := rfl
  obtain ⟨M1, hf, h⟩ := fr_pu h hf q_25
  obtain ⟨M2, hf, h⟩ := fr_pu h hf q_24
  obtain ⟨M3, hf, h⟩ := fr_pu h hf q_27
  obtain ⟨M4, hf, h⟩ := fr_pu h hf q_32
  obtain ⟨M5, hf, h⟩ := fr_cm h (fun _ hv => fr_X11_refuse hv q_33 q_34) hf
  obtain ⟨M6, hf, h⟩ := fr_cm h (fun _ hv => fr_X11_go hv q_26 q_28 q_27 q_35 q_31 q_14 q_10 q_33 q_34) hf
  rcases fr_br h with h | h
  · obtain ⟨M7, hf, h⟩ := fr_ck h hf (fun _ => q_13)
    obtain ⟨M8, hf, h⟩ := fr_cm h (fun _ hv => fr_X11_go hv q_26 q_28 q_27 q_35 q_31 q_14 q_10 q_33 q_34) hf
    rcases fr_br h with h | h
    · exact fr_ri h hf
    · obtain ⟨M9, hf, h⟩ := fr_ck h hf (fun _ => q_10)
      obtain ⟨M10, hf, h⟩ := fr_pu h hf q_32
      exact fr_ri h hf
  · obtain ⟨M11, hf, h⟩ := fr_pu h hf q_32
    rcases fr_br h with h | h
    · obtain ⟨M12, hf, h⟩ := fr_cm h (fun _ hv => fr_X11_refuse hv q_33 q_34) hf
      exact fr_ri h hf
    · obtain ⟨k1, h⟩ := fr_ix h
      obtain ⟨M13, hf, h⟩ := fr_cm h (fun _ hv => fr_X11_refuse hv q_33 q_34) hf
      exact fr_ri h hf
theorem fr_X10_relief {M : zx_Y} {x0 : Int32} {rv : Int32} {rM : zx_Y} {c : zx_H} {j_ : Nat} (h : g_X10_relief M x0 = some (rv, rM)) (q_100_0 : zc c j_ ≠ 100 + 0) : rM c j_ = M c j_ := by
  unfold g_X10_relief at h
  have hf : M c j_ = M c j_ := rfl
  rcases fr_br h with h | h
  · exact fr_ri h hf
  · rcases fr_br h with h | h
    · obtain ⟨M1, hf, h⟩ := fr_pu h hf q_100_0
      exact fr_ri h hf
    · exact fr_ri h hf
theorem fr_X11_relief {M : zx_Y} {x0 : Int32} {rv : Int32} {rM : zx_Y} {c : zx_H} {j_ : Nat} (h : g_X11_relief M x0 = some (rv, rM)) (q_10 : zc c j_ ≠ 10) : rM c j_ = M c j_ := by
  unfold g_X11_relief at h
  have hf : M c j_ = M c j_ := rfl
  obtain ⟨v1, h⟩ := fr_cb h
  rcases fr_br h with h | h
  · exact fr_ri h hf
  · obtain ⟨M1, hf, h⟩ := fr_pu h hf q_10
    exact fr_ri h hf
theorem fr_X10_cancel {M : zx_Y} {x0 : Int32} {rv : Int32} {rM : zx_Y} {c : zx_H} {j_ : Nat} (h : g_X10_cancel M x0 = some (rv, rM)) (q_100_0 : zc c j_ ≠ 100 + 0) : rM c j_ = M c j_ := by
  unfold g_X10_cancel at h
  have hf : M c j_ = M c j_ := rfl
  rcases fr_tw h with ⟨k1, h⟩ | h
  · rcases fr_br h with h | h
    · exact fr_ri h hf
    · rcases fr_br h with h | h
      · obtain ⟨M1, hf, h⟩ := fr_cm h (fun _ hv => fr_X9_changeTo hv q_100_0) hf
        exact fr_ri h hf
      · exact fr_ri h hf
  · exact fr_ri h hf
theorem fr_X11_become {M : zx_Y} {x0 : Int32} {x1 : Int32} {x2 : Int32} {rM : zx_Y} {c : zx_H} {j_ : Nat} (h : g_X11_become M x0 x1 x2 = some rM) (q_10 : zc c j_ ≠ 10) : rM c j_ = M c j_ := by
  unfold g_X11_become at h
  have hf : M c j_ = M c j_ := rfl
  obtain ⟨M1, hf, h⟩ := fr_cm h (fun _ hv => fr_X11_set hv q_10) hf
  obtain ⟨M2, hf, h⟩ := fr_cm h (fun _ hv => fr_X11_set hv q_10) hf
  obtain ⟨M3, hf, h⟩ := fr_cm h (fun _ hv => fr_X11_set hv q_10) hf
  obtain ⟨M4, hf, h⟩ := fr_cm h (fun _ hv => fr_X11_set hv q_10) hf
  exact fr_r0 h hf
theorem fr_X11_cancel {M : zx_Y} {x0 : Int32} {rv : Int32} {rM : zx_Y} {c : zx_H} {j_ : Nat} (h : g_X11_cancel M x0 = some (rv, rM)) (q_10 : zc c j_ ≠ 10) : rM c j_ = M c j_ := by
  unfold g_X11_cancel at h
  have hf : M c j_ = M c j_ := rfl
  obtain ⟨v1, h⟩ := fr_cb h
  rcases fr_br h with h | h
  · exact fr_ri h hf
  · obtain ⟨v2, h⟩ := fr_cb h
    rcases fr_br h with h | h
    · exact fr_ri h hf
    · obtain ⟨v3, h⟩ := fr_cb h
      rcases fr_br h with h | h
      · obtain ⟨M1, hf, h⟩ := fr_cm h (fun _ hv => fr_X11_become hv q_10) hf
        exact fr_ri h hf
      · exact fr_ri h hf
theorem fl_X2_removeOrder_2 {M0 : zx_Y} {l : Nat} {kk : Int32 → zx_Y → Option zx_Y} {rM : zx_Y} {c : zx_H} {j_ : Nat} (hk : ∀ (w2 : Int32) (M : zx_Y), kk w2 M = some rM → M c j_ = M0 c j_ → rM c j_ = M0 c j_) (q_100_l : zc c j_ ≠ 100 + l) : ∀ (q : Nat) (w2 : Int32) (M : zx_Y), lg_X2_removeOrder_2 l kk q w2 M = some rM → M c j_ = M0 c j_ → rM c j_ = M0 c j_
  | 0, w2, M, h, hf => by
    rw [lg_X2_removeOrder_2.eq_1] at h
    cases h
  | q + 1, w2, M, h, hf => by
    rw [lg_X2_removeOrder_2.eq_2] at h
    rcases fr_br h with h | h
    · exact hk _ _ h hf
    · obtain ⟨k1, h⟩ := fr_ix h
      obtain ⟨k2, h⟩ := fr_ix h
      obtain ⟨M1, hf, h⟩ := fr_cm h (fun _ hv => fr_X6_copyFrom hv q_100_l) hf
      exact fl_X2_removeOrder_2 hk q_100_l q (w2 + 1) M1 h hf
theorem fr_X2_removeOrder {M : zx_Y} {l : Nat} {x0 : Int32} {rM : zx_Y} {c : zx_H} {j_ : Nat} (h : g_X2_removeOrder M l x0 = some rM) (q_100_l : zc c j_ ≠ 100 + l) : rM c j_ = M c j_ := by
  unfold g_X2_removeOrder at h
  have hf : M c j_ = M c j_ := rfl
  refine fl_X2_removeOrder_2 (fun v1 M1 h hf => ?_) q_100_l 1000 x0 M h hf
  obtain ⟨M2, hf, h⟩ := fr_pu h hf q_100_l
  exact fr_r0 h hf
theorem fr_X10_lift {M : zx_Y} {x0 : Int32} {rv : Int32} {rM : zx_Y} {c : zx_H} {j_ : Nat} (h : g_X10_lift M x0 = some (rv, rM)) (q_100_0 : zc c j_ ≠ 100 + 0) : rM c j_ = M c j_ := by
  unfold g_X10_lift at h
  have hf : M c j_ = M c j_ := rfl
  rcases fr_br h with h | h
  · exact fr_ri h hf
  · rcases fr_br h with h | h
    · obtain ⟨M1, hf, h⟩ := fr_cm h (fun _ hv => fr_X2_removeOrder hv q_100_0) hf
      exact fr_ri h hf
    · exact fr_ri h hf
theorem fl_X11_lift_34 {M0 : zx_Y} {kk : Int32 → zx_Y → Option (Int32 × zx_Y)} {rv : Int32} {rM : zx_Y} {c : zx_H} {j_ : Nat} (hk : ∀ (w2 : Int32) (M : zx_Y), kk w2 M = some (rv, rM) → M c j_ = M0 c j_ → rM c j_ = M0 c j_) (q_10 : zc c j_ ≠ 10) : ∀ (q : Nat) (w2 : Int32) (M : zx_Y), lg_X11_lift_34 kk q w2 M = some (rv, rM) → M c j_ = M0 c j_ → rM c j_ = M0 c j_
  | 0, w2, M, h, hf => by
    rw [lg_X11_lift_34.eq_1] at h
    cases h
  | q + 1, w2, M, h, hf => by
    rw [lg_X11_lift_34.eq_2] at h
    rcases fr_br h with h | h
    · exact hk _ _ h hf
    · obtain ⟨k1, h⟩ := fr_ix h
      obtain ⟨k2, h⟩ := fr_ix h
      obtain ⟨M1, hf, h⟩ := fr_pu h hf q_10
      exact fl_X11_lift_34 hk q_10 q (w2 + 1) M1 h hf
theorem fr_X11_lift {M : zx_Y} {x0 : Int32} {rv : Int32} {rM : zx_Y} {c : zx_H} {j_ : Nat} (h : g_X11_lift M x0 = some (rv, rM)) (q_10 : zc c j_ ≠ 10) : rM c j_ = M c j_ := by
  unfold g_X11_lift at h
  have hf : M c j_ = M c j_ := rfl
  obtain ⟨v1, h⟩ := fr_cb h
  rcases fr_br h with h | h
  · exact fr_ri h hf
  · obtain ⟨M1, hf, h⟩ := fr_pu h hf q_10
    refine fl_X11_lift_34 (fun v2 M2 h hf => ?_) q_10 1000 (4 * x0) M1 h hf
    exact fr_ri h hf
theorem fl_X2_countMinute_2 {M0 : zx_Y} {l : Nat} {kk : Int32 → zx_Y → Option zx_Y} {rM : zx_Y} {c : zx_H} {j_ : Nat} (hk : ∀ (w1 : Int32) (M : zx_Y), kk w1 M = some rM → M c j_ = M0 c j_ → rM c j_ = M0 c j_) (q_100_l : zc c j_ ≠ 100 + l) : ∀ (q : Nat) (w1 : Int32) (M : zx_Y), lg_X2_countMinute_2 l kk q w1 M = some rM → M c j_ = M0 c j_ → rM c j_ = M0 c j_
  | 0, w1, M, h, hf => by
    rw [lg_X2_countMinute_2.eq_1] at h
    cases h
  | q + 1, w1, M, h, hf => by
    rw [lg_X2_countMinute_2.eq_2] at h
    rcases fr_br h with h | h
    · exact hk _ _ h hf
    · obtain ⟨k1, h⟩ := fr_ix h
      obtain ⟨v1, h⟩ := fr_cb h
      rcases fr_br h with h | h
      · rcases fr_br h with h | h
        · obtain ⟨v2, h⟩ := fr_cb h
          rcases fr_br h with h | h
          · exact fl_X2_countMinute_2 hk q_100_l q (w1 + 1) M h hf
          · obtain ⟨k2, h⟩ := fr_ix h
            obtain ⟨M1, hf, h⟩ := fr_pu h hf q_100_l
            exact fl_X2_countMinute_2 hk q_100_l q (w1 + 1) M1 h hf
        · exact fl_X2_countMinute_2 hk q_100_l q (w1 + 1) M h hf
      · obtain ⟨k3, h⟩ := fr_ix h
        obtain ⟨k4, h⟩ := fr_ix h
        obtain ⟨M2, hf, h⟩ := fr_pu h hf q_100_l
        rcases fr_br h with h | h
        · obtain ⟨v3, h⟩ := fr_cb h
          rcases fr_br h with h | h
          · exact fl_X2_countMinute_2 hk q_100_l q (w1 + 1) M2 h hf
          · obtain ⟨k5, h⟩ := fr_ix h
            obtain ⟨M3, hf, h⟩ := fr_pu h hf q_100_l
            exact fl_X2_countMinute_2 hk q_100_l q (w1 + 1) M3 h hf
        · exact fl_X2_countMinute_2 hk q_100_l q (w1 + 1) M2 h hf
theorem fr_X2_countMinute {M : zx_Y} {l : Nat} {rM : zx_Y} {c : zx_H} {j_ : Nat} (h : g_X2_countMinute M l = some rM) (q_100_l : zc c j_ ≠ 100 + l) : rM c j_ = M c j_ := by
  unfold g_X2_countMinute at h
  have hf : M c j_ = M c j_ := rfl
  refine fl_X2_countMinute_2 (fun v1 M1 h hf => ?_) q_100_l 1000 0 M h hf
  exact fr_r0 h hf
theorem fr_X9_note {M : zx_Y} {l : Nat} {i : Nat} {x0 : Int32} {x1 : Int32} {x2 : Int32} {rM : zx_Y} {c : zx_H} {j_ : Nat} (h : g_X9_note M l i x0 x1 x2 = some rM) (q_100_l : zc c j_ ≠ 100 + l) : rM c j_ = M c j_ := by
  unfold g_X9_note at h
  have hf : M c j_ = M c j_ := rfl
  rcases fr_br h with h | h
  · exact fr_r0 h hf
  · rcases fr_br h with h | h
    · obtain ⟨k1, h⟩ := fr_ix h
      obtain ⟨k2, h⟩ := fr_ix h
      obtain ⟨M1, hf, h⟩ := fr_pu h hf q_100_l
      exact fr_r0 h hf
    · exact fr_r0 h hf
theorem fr_X2_bringInto {M : zx_Y} {l : Nat} {i : Nat} {x0 : Int32} {rM : zx_Y} {c : zx_H} {j_ : Nat} (h : g_X2_bringInto M l i x0 = some rM) (q_100_l : zc c j_ ≠ 100 + l) : rM c j_ = M c j_ := by
  unfold g_X2_bringInto at h
  have hf : M c j_ = M c j_ := rfl
  obtain ⟨v1, h⟩ := fr_cb h
  rcases fr_br h with h | h
  · exact fr_r0 h hf
  · obtain ⟨k1, h⟩ := fr_ix h
    obtain ⟨M1, hf, h⟩ := fr_pu h hf q_100_l
    obtain ⟨M2, hf, h⟩ := fr_cm h (fun _ hv => fr_X9_note hv q_100_l) hf
    rcases fr_br h with h | h
    · obtain ⟨M3, hf, h⟩ := fr_cm h (fun _ hv => fr_X9_changeTo hv q_100_l) hf
      exact fr_r0 h hf
    · obtain ⟨M4, hf, h⟩ := fr_pu h hf q_100_l
      obtain ⟨M5, hf, h⟩ := fr_pu h hf q_100_l
      obtain ⟨M6, hf, h⟩ := fr_pu h hf q_100_l
      obtain ⟨M7, hf, h⟩ := fr_pu h hf q_100_l
      obtain ⟨M8, hf, h⟩ := fr_pu h hf q_100_l
      exact fr_r0 h hf
theorem fl_X2_endRuns_2 {M0 : zx_Y} {l : Nat} {kk : Int32 → zx_Y → Option zx_Y} {rM : zx_Y} {c : zx_H} {j_ : Nat} (hk : ∀ (w1 : Int32) (M : zx_Y), kk w1 M = some rM → M c j_ = M0 c j_ → rM c j_ = M0 c j_) (q_100_l : zc c j_ ≠ 100 + l) : ∀ (q : Nat) (w1 : Int32) (M : zx_Y), lg_X2_endRuns_2 l kk q w1 M = some rM → M c j_ = M0 c j_ → rM c j_ = M0 c j_
  | 0, w1, M, h, hf => by
    rw [lg_X2_endRuns_2.eq_1] at h
    cases h
  | q + 1, w1, M, h, hf => by
    rw [lg_X2_endRuns_2.eq_2] at h
    rcases fr_br h with h | h
    · exact hk _ _ h hf
    · obtain ⟨k1, h⟩ := fr_ix h
      rcases fr_br h with h | h
      · rcases fr_br h with h | h
        · exact fl_X2_endRuns_2 hk q_100_l q (w1 + 1) M h hf
        · obtain ⟨M1, hf, h⟩ := fr_cm h (fun _ hv => fr_X2_bringInto hv q_100_l) hf
          exact fl_X2_endRuns_2 hk q_100_l q (w1 + 1) M1 h hf
      · exact fl_X2_endRuns_2 hk q_100_l q (w1 + 1) M h hf
theorem fr_X2_endRuns {M : zx_Y} {l : Nat} {rM : zx_Y} {c : zx_H} {j_ : Nat} (h : g_X2_endRuns M l = some rM) (q_100_l : zc c j_ ≠ 100 + l) : rM c j_ = M c j_ := by
  unfold g_X2_endRuns at h
  have hf : M c j_ = M c j_ := rfl
  refine fl_X2_endRuns_2 (fun v1 M1 h hf => ?_) q_100_l 1000 0 M h hf
  exact fr_r0 h hf
theorem fl_X2_admitTrains_2 {M0 : zx_Y} {l : Nat} {kk : Int32 → zx_Y → Option zx_Y} {rM : zx_Y} {c : zx_H} {j_ : Nat} (hk : ∀ (w1 : Int32) (M : zx_Y), kk w1 M = some rM → M c j_ = M0 c j_ → rM c j_ = M0 c j_) (q_100_l : zc c j_ ≠ 100 + l) : ∀ (q : Nat) (w1 : Int32) (M : zx_Y), lg_X2_admitTrains_2 l kk q w1 M = some rM → M c j_ = M0 c j_ → rM c j_ = M0 c j_
  | 0, w1, M, h, hf => by
    rw [lg_X2_admitTrains_2.eq_1] at h
    cases h
  | q + 1, w1, M, h, hf => by
    rw [lg_X2_admitTrains_2.eq_2] at h
    rcases fr_br h with h | h
    · exact hk _ _ h hf
    · obtain ⟨k1, h⟩ := fr_ix h
      rcases fr_br h with h | h
      · rcases fr_br h with h | h
        · exact fl_X2_admitTrains_2 hk q_100_l q (w1 + 1) M h hf
        · obtain ⟨v1, h⟩ := fr_cb h
          rcases fr_br h with h | h
          · exact fl_X2_admitTrains_2 hk q_100_l q (w1 + 1) M h hf
          · obtain ⟨M1, hf, h⟩ := fr_pu h hf q_100_l
            obtain ⟨M2, hf, h⟩ := fr_cm h (fun _ hv => fr_X2_bringInto hv q_100_l) hf
            exact fl_X2_admitTrains_2 hk q_100_l q (w1 + 1) M2 h hf
      · exact fl_X2_admitTrains_2 hk q_100_l q (w1 + 1) M h hf
theorem fr_X2_admitTrains {M : zx_Y} {l : Nat} {rM : zx_Y} {c : zx_H} {j_ : Nat} (h : g_X2_admitTrains M l = some rM) (q_100_l : zc c j_ ≠ 100 + l) : rM c j_ = M c j_ := by
  unfold g_X2_admitTrains at h
  have hf : M c j_ = M c j_ := rfl
  refine fl_X2_admitTrains_2 (fun v1 M1 h hf => ?_) q_100_l 1000 0 M h hf
  exact fr_r0 h hf
theorem fl_X2_endReliefs_2 {M0 : zx_Y} {l : Nat} {kk : Int32 → zx_Y → Option zx_Y} {rM : zx_Y} {c : zx_H} {j_ : Nat} (hk : ∀ (w1 : Int32) (M : zx_Y), kk w1 M = some rM → M c j_ = M0 c j_ → rM c j_ = M0 c j_) (q_100_l : zc c j_ ≠ 100 + l) : ∀ (q : Nat) (w1 : Int32) (M : zx_Y), lg_X2_endReliefs_2 l kk q w1 M = some rM → M c j_ = M0 c j_ → rM c j_ = M0 c j_
  | 0, w1, M, h, hf => by
    rw [lg_X2_endReliefs_2.eq_1] at h
    cases h
  | q + 1, w1, M, h, hf => by
    rw [lg_X2_endReliefs_2.eq_2] at h
    rcases fr_br h with h | h
    · exact hk _ _ h hf
    · obtain ⟨k1, h⟩ := fr_ix h
      rcases fr_br h with h | h
      · rcases fr_br h with h | h
        · exact fl_X2_endReliefs_2 hk q_100_l q (w1 + 1) M h hf
        · obtain ⟨M1, hf, h⟩ := fr_pu h hf q_100_l
          obtain ⟨M2, hf, h⟩ := fr_pu h hf q_100_l
          obtain ⟨M3, hf, h⟩ := fr_pu h hf q_100_l
          obtain ⟨M4, hf, h⟩ := fr_pu h hf q_100_l
          exact fl_X2_endReliefs_2 hk q_100_l q (w1 + 1) M4 h hf
      · exact fl_X2_endReliefs_2 hk q_100_l q (w1 + 1) M h hf
theorem fr_X2_endReliefs {M : zx_Y} {l : Nat} {rM : zx_Y} {c : zx_H} {j_ : Nat} (h : g_X2_endReliefs M l = some rM) (q_100_l : zc c j_ ≠ 100 + l) : rM c j_ = M c j_ := by
  unfold g_X2_endReliefs at h
  have hf : M c j_ = M c j_ := rfl
  refine fl_X2_endReliefs_2 (fun v1 M1 h hf => ?_) q_100_l 1000 0 M h hf
  exact fr_r0 h hf
theorem fl_X2_rank_36 {M0 : zx_Y} {l : Nat} {p1 : Int32} {kk : Int32 → zx_Y → Option zx_Y} {rM : zx_Y} {c : zx_H} {j_ : Nat} (hk : ∀ (w2 : Int32) (M : zx_Y), kk w2 M = some rM → M c j_ = M0 c j_ → rM c j_ = M0 c j_) (q_200_l : zc c j_ ≠ 200 + l) : ∀ (q : Nat) (w2 : Int32) (M : zx_Y), lg_X2_rank_36 l p1 kk q w2 M = some rM → M c j_ = M0 c j_ → rM c j_ = M0 c j_
  | 0, w2, M, h, hf => by
    rw [lg_X2_rank_36.eq_1] at h
    cases h
  | q + 1, w2, M, h, hf => by
    rw [lg_X2_rank_36.eq_2] at h
    rcases fr_br h with h | h
    · exact hk _ _ h hf
    · obtain ⟨k1, h⟩ := fr_ix h
      obtain ⟨k2, h⟩ := fr_ix h
      obtain ⟨k3, h⟩ := fr_ix h
      obtain ⟨v1, h⟩ := fr_cb h
      rcases fr_br h with h | h
      · exact hk _ _ h hf
      · obtain ⟨k4, h⟩ := fr_ix h
        obtain ⟨k5, h⟩ := fr_ix h
        obtain ⟨M1, hf, h⟩ := fr_pu h hf q_200_l
        exact fl_X2_rank_36 hk q_200_l q (w2 + (-1)) M1 h hf
theorem fl_X2_rank_7 {M0 : zx_Y} {l : Nat} {kk : Int32 → zx_Y → Option zx_Y} {rM : zx_Y} {c : zx_H} {j_ : Nat} (hk : ∀ (w1 : Int32) (M : zx_Y), kk w1 M = some rM → M c j_ = M0 c j_ → rM c j_ = M0 c j_) (q_200_l : zc c j_ ≠ 200 + l) : ∀ (q : Nat) (w1 : Int32) (M : zx_Y), lg_X2_rank_7 l kk q w1 M = some rM → M c j_ = M0 c j_ → rM c j_ = M0 c j_
  | 0, w1, M, h, hf => by
    rw [lg_X2_rank_7.eq_1] at h
    cases h
  | q + 1, w1, M, h, hf => by
    rw [lg_X2_rank_7.eq_2] at h
    rcases fr_br h with h | h
    · exact hk _ _ h hf
    · obtain ⟨k1, h⟩ := fr_ix h
      rcases fr_br h with h | h
      · refine fl_X2_rank_36 (fun v1 M1 h hf => ?_) q_200_l 1000 (M (1, l, 0, 0) 11) M h hf
        obtain ⟨k2, h⟩ := fr_ix h
        obtain ⟨M2, hf, h⟩ := fr_pu h hf q_200_l
        obtain ⟨M3, hf, h⟩ := fr_pu h hf q_200_l
        exact fl_X2_rank_7 hk q_200_l q (w1 + 1) M3 h hf
      · exact fl_X2_rank_7 hk q_200_l q (w1 + 1) M h hf
theorem fr_X2_rank {M : zx_Y} {l : Nat} {rM : zx_Y} {c : zx_H} {j_ : Nat} (h : g_X2_rank M l = some rM) (q_200_l : zc c j_ ≠ 200 + l) : rM c j_ = M c j_ := by
  unfold g_X2_rank at h
  have hf : M c j_ = M c j_ := rfl
  obtain ⟨M1, hf, h⟩ := fr_pu h hf q_200_l
  refine fl_X2_rank_7 (fun v1 M2 h hf => ?_) q_200_l 1000 0 M1 h hf
  exact fr_r0 h hf
theorem fr_X2_enter {M : zx_Y} {l : Nat} {i : Nat} {x0 : Int32} {rM : zx_Y} {c : zx_H} {j_ : Nat} (h : g_X2_enter M l i x0 = some rM) (q_100_l : zc c j_ ≠ 100 + l) : rM c j_ = M c j_ := by
  unfold g_X2_enter at h
  have hf : M c j_ = M c j_ := rfl
  obtain ⟨v1, h⟩ := fr_cb h
  rcases fr_br h with h | h
  · exact fr_r0 h hf
  · obtain ⟨v2, h⟩ := fr_cb h
    obtain ⟨k1, h⟩ := fr_ix h
    obtain ⟨M1, hf, h⟩ := fr_pu h hf q_100_l
    obtain ⟨M2, hf, h⟩ := fr_cm h (fun _ hv => fr_X9_note hv q_100_l) hf
    obtain ⟨v3, h⟩ := fr_cb h
    obtain ⟨M3, hf, h⟩ := fr_pu h hf q_100_l
    obtain ⟨M4, hf, h⟩ := fr_pu h hf q_100_l
    obtain ⟨M5, hf, h⟩ := fr_pu h hf q_100_l
    obtain ⟨M6, hf, h⟩ := fr_pu h hf q_100_l
    obtain ⟨M7, hf, h⟩ := fr_pu h hf q_100_l
    exact fr_r0 h hf
theorem fr_X2_beginRelief {M : zx_Y} {l : Nat} {i : Nat} {rM : zx_Y} {c : zx_H} {j_ : Nat} (h : g_X2_beginRelief M l i = some rM) (q_100_l : zc c j_ ≠ 100 + l) : rM c j_ = M c j_ := by
  unfold g_X2_beginRelief at h
  have hf : M c j_ = M c j_ := rfl
  obtain ⟨v1, h⟩ := fr_cb h
  rcases fr_br h with h | h
  · exact fr_r0 h hf
  · obtain ⟨k1, h⟩ := fr_ix h
    rcases fr_br h with h | h
    · obtain ⟨M1, hf, h⟩ := fr_pu h hf q_100_l
      obtain ⟨M2, hf, h⟩ := fr_pu h hf q_100_l
      obtain ⟨M3, hf, h⟩ := fr_pu h hf q_100_l
      obtain ⟨M4, hf, h⟩ := fr_pu h hf q_100_l
      obtain ⟨M5, hf, h⟩ := fr_pu h hf q_100_l
      exact fr_r0 h hf
    · obtain ⟨M6, hf, h⟩ := fr_pu h hf q_100_l
      obtain ⟨M7, hf, h⟩ := fr_pu h hf q_100_l
      obtain ⟨M8, hf, h⟩ := fr_pu h hf q_100_l
      obtain ⟨M9, hf, h⟩ := fr_pu h hf q_100_l
      obtain ⟨M10, hf, h⟩ := fr_pu h hf q_100_l
      exact fr_r0 h hf
theorem fl_X2_dispatchTrains_6 {M0 : zx_Y} {l : Nat} {kk : Int32 → zx_Y → Option zx_Y} {rM : zx_Y} {c : zx_H} {j_ : Nat} (hk : ∀ (w1 : Int32) (M : zx_Y), kk w1 M = some rM → M c j_ = M0 c j_ → rM c j_ = M0 c j_) (q_100_l : zc c j_ ≠ 100 + l) : ∀ (q : Nat) (w1 : Int32) (M : zx_Y), lg_X2_dispatchTrains_6 l kk q w1 M = some rM → M c j_ = M0 c j_ → rM c j_ = M0 c j_
  | 0, w1, M, h, hf => by
    rw [lg_X2_dispatchTrains_6.eq_1] at h
    cases h
  | q + 1, w1, M, h, hf => by
    rw [lg_X2_dispatchTrains_6.eq_2] at h
    rcases fr_br h with h | h
    · exact hk _ _ h hf
    · obtain ⟨k1, h⟩ := fr_ix h
      obtain ⟨k2, h⟩ := fr_ix h
      obtain ⟨v1, h⟩ := fr_cb h
      rcases fr_br h with h | h
      · obtain ⟨v2, h⟩ := fr_cb h
        obtain ⟨M1, hf, h⟩ := fr_cm h (fun _ hv => fr_X2_enter hv q_100_l) hf
        exact fl_X2_dispatchTrains_6 hk q_100_l q (w1 + 1) M1 h hf
      · obtain ⟨v3, h⟩ := fr_cb h
        rcases fr_br h with h | h
        · exact fl_X2_dispatchTrains_6 hk q_100_l q (w1 + 1) M h hf
        · obtain ⟨M2, hf, h⟩ := fr_cm h (fun _ hv => fr_X2_beginRelief hv q_100_l) hf
          exact fl_X2_dispatchTrains_6 hk q_100_l q (w1 + 1) M2 h hf
theorem fr_X2_dispatchTrains {M : zx_Y} {l : Nat} {rM : zx_Y} {c : zx_H} {j_ : Nat} (h : g_X2_dispatchTrains M l = some rM) (q_200_l : zc c j_ ≠ 200 + l) (q_100_l : zc c j_ ≠ 100 + l) : rM c j_ = M c j_ := by
  unfold g_X2_dispatchTrains at h
  have hf : M c j_ = M c j_ := rfl
  obtain ⟨M1, hf, h⟩ := fr_cm h (fun _ hv => fr_X2_rank hv q_200_l) hf
  refine fl_X2_dispatchTrains_6 (fun v1 M2 h hf => ?_) q_100_l 1000 0 M1 h hf
  exact fr_r0 h hf
theorem fl_X2_advance_2 {M0 : zx_Y} {l : Nat} {x0 : Int32} {kk : Int32 → zx_Y → Option zx_Y} {rM : zx_Y} {c : zx_H} {j_ : Nat} (hk : ∀ (w2 : Int32) (M : zx_Y), kk w2 M = some rM → M c j_ = M0 c j_ → rM c j_ = M0 c j_) (q_100_l : zc c j_ ≠ 100 + l) (q_200_l : zc c j_ ≠ 200 + l) : ∀ (q : Nat) (w2 : Int32) (M : zx_Y), lg_X2_advance_2 l x0 kk q w2 M = some rM → M c j_ = M0 c j_ → rM c j_ = M0 c j_
  | 0, w2, M, h, hf => by
    rw [lg_X2_advance_2.eq_1] at h
    cases h
  | q + 1, w2, M, h, hf => by
    rw [lg_X2_advance_2.eq_2] at h
    rcases fr_br h with h | h
    · exact hk _ _ h hf
    · obtain ⟨M1, hf, h⟩ := fr_cm h (fun _ hv => fr_X2_countMinute hv q_100_l) hf
      obtain ⟨M2, hf, h⟩ := fr_pu h hf q_100_l
      obtain ⟨M3, hf, h⟩ := fr_cm h (fun _ hv => fr_X2_endRuns hv q_100_l) hf
      obtain ⟨M4, hf, h⟩ := fr_cm h (fun _ hv => fr_X2_admitTrains hv q_100_l) hf
      obtain ⟨M5, hf, h⟩ := fr_cm h (fun _ hv => fr_X2_endReliefs hv q_100_l) hf
      obtain ⟨M6, hf, h⟩ := fr_cm h (fun _ hv => fr_X2_dispatchTrains hv q_200_l q_100_l) hf
      exact fl_X2_advance_2 hk q_100_l q_200_l q (w2 + 1) M6 h hf
theorem fr_X2_advance {M : zx_Y} {l : Nat} {x0 : Int32} {rM : zx_Y} {c : zx_H} {j_ : Nat} (h : g_X2_advance M l x0 = some rM) (q_100_l : zc c j_ ≠ 100 + l) (q_200_l : zc c j_ ≠ 200 + l) : rM c j_ = M c j_ := by
  unfold g_X2_advance at h
  have hf : M c j_ = M c j_ := rfl
  refine fl_X2_advance_2 (fun v1 M1 h hf => ?_) q_100_l q_200_l 1000 0 M h hf
  exact fr_r0 h hf
theorem fr_X10_pass {M : zx_Y} {x0 : Int32} {rv : Int32} {rM : zx_Y} {c : zx_H} {j_ : Nat} (h : g_X10_pass M x0 = some (rv, rM)) (q_100_0 : zc c j_ ≠ 100 + 0) (q_200_0 : zc c j_ ≠ 200 + 0) : rM c j_ = M c j_ := by
  unfold g_X10_pass at h
  have hf : M c j_ = M c j_ := rfl
  obtain ⟨v1, h⟩ := fr_cb h
  rcases fr_br h with h | h
  · exact fr_ri h hf
  · obtain ⟨v2, h⟩ := fr_cb h
    rcases fr_br h with h | h
    · exact fr_ri h hf
    · rcases fr_br h with h | h
      · obtain ⟨M1, hf, h⟩ := fr_cm h (fun _ hv => fr_X2_advance hv q_100_0 q_200_0) hf
        exact fr_ri h hf
      · exact fr_ri h hf
theorem fl_X11_account_2 {M0 : zx_Y} {kk : Int32 → zx_Y → Option zx_Y} {rM : zx_Y} {c : zx_H} {j_ : Nat} (hk : ∀ (w1 : Int32) (M : zx_Y), kk w1 M = some rM → M c j_ = M0 c j_ → rM c j_ = M0 c j_) (q_10 : zc c j_ ≠ 10) : ∀ (q : Nat) (w1 : Int32) (M : zx_Y), lg_X11_account_2 kk q w1 M = some rM → M c j_ = M0 c j_ → rM c j_ = M0 c j_
  | 0, w1, M, h, hf => by
    rw [lg_X11_account_2.eq_1] at h
    cases h
  | q + 1, w1, M, h, hf => by
    rw [lg_X11_account_2.eq_2] at h
    rcases fr_br h with h | h
    · exact hk _ _ h hf
    · obtain ⟨v1, h⟩ := fr_cb h
      rcases fr_br h with h | h
      · rcases fr_br h with h | h
        · obtain ⟨v2, h⟩ := fr_cb h
          rcases fr_br h with h | h
          · obtain ⟨v3, h⟩ := fr_cb h
            obtain ⟨M1, hf, h⟩ := fr_cm h (fun _ hv => fr_X11_set hv q_10) hf
            rcases fr_br h with h | h
            · obtain ⟨v4, h⟩ := fr_cb h
              obtain ⟨k1, h⟩ := fr_ix h
              obtain ⟨k2, h⟩ := fr_ix h
              obtain ⟨M2, hf, h⟩ := fr_pu h hf q_10
              exact fl_X11_account_2 hk q_10 q (w1 + 1) M2 h hf
            · exact fl_X11_account_2 hk q_10 q (w1 + 1) M1 h hf
          · obtain ⟨v5, h⟩ := fr_cb h
            obtain ⟨M3, hf, h⟩ := fr_cm h (fun _ hv => fr_X11_set hv q_10) hf
            rcases fr_br h with h | h
            · obtain ⟨v6, h⟩ := fr_cb h
              obtain ⟨k3, h⟩ := fr_ix h
              obtain ⟨k4, h⟩ := fr_ix h
              obtain ⟨M4, hf, h⟩ := fr_pu h hf q_10
              exact fl_X11_account_2 hk q_10 q (w1 + 1) M4 h hf
            · exact fl_X11_account_2 hk q_10 q (w1 + 1) M3 h hf
        · rcases fr_br h with h | h
          · obtain ⟨v7, h⟩ := fr_cb h
            obtain ⟨M5, hf, h⟩ := fr_cm h (fun _ hv => fr_X11_set hv q_10) hf
            rcases fr_br h with h | h
            · obtain ⟨v8, h⟩ := fr_cb h
              obtain ⟨k5, h⟩ := fr_ix h
              obtain ⟨k6, h⟩ := fr_ix h
              obtain ⟨M6, hf, h⟩ := fr_pu h hf q_10
              exact fl_X11_account_2 hk q_10 q (w1 + 1) M6 h hf
            · exact fl_X11_account_2 hk q_10 q (w1 + 1) M5 h hf
          · obtain ⟨v9, h⟩ := fr_cb h
            obtain ⟨M7, hf, h⟩ := fr_cm h (fun _ hv => fr_X11_set hv q_10) hf
            rcases fr_br h with h | h
            · obtain ⟨v10, h⟩ := fr_cb h
              obtain ⟨k7, h⟩ := fr_ix h
              obtain ⟨k8, h⟩ := fr_ix h
              obtain ⟨M8, hf, h⟩ := fr_pu h hf q_10
              exact fl_X11_account_2 hk q_10 q (w1 + 1) M8 h hf
            · exact fl_X11_account_2 hk q_10 q (w1 + 1) M7 h hf
      · rcases fr_br h with h | h
        · rcases fr_br h with h | h
          · obtain ⟨v11, h⟩ := fr_cb h
            rcases fr_br h with h | h
            · obtain ⟨v12, h⟩ := fr_cb h
              obtain ⟨M9, hf, h⟩ := fr_cm h (fun _ hv => fr_X11_set hv q_10) hf
              rcases fr_br h with h | h
              · obtain ⟨v13, h⟩ := fr_cb h
                obtain ⟨k9, h⟩ := fr_ix h
                obtain ⟨k10, h⟩ := fr_ix h
                obtain ⟨M10, hf, h⟩ := fr_pu h hf q_10
                exact fl_X11_account_2 hk q_10 q (w1 + 1) M10 h hf
              · exact fl_X11_account_2 hk q_10 q (w1 + 1) M9 h hf
            · obtain ⟨v14, h⟩ := fr_cb h
              obtain ⟨M11, hf, h⟩ := fr_cm h (fun _ hv => fr_X11_set hv q_10) hf
              rcases fr_br h with h | h
              · obtain ⟨v15, h⟩ := fr_cb h
                obtain ⟨k11, h⟩ := fr_ix h
                obtain ⟨k12, h⟩ := fr_ix h
                obtain ⟨M12, hf, h⟩ := fr_pu h hf q_10
                exact fl_X11_account_2 hk q_10 q (w1 + 1) M12 h hf
              · exact fl_X11_account_2 hk q_10 q (w1 + 1) M11 h hf
          · rcases fr_br h with h | h
            · obtain ⟨v16, h⟩ := fr_cb h
              obtain ⟨M13, hf, h⟩ := fr_cm h (fun _ hv => fr_X11_set hv q_10) hf
              rcases fr_br h with h | h
              · obtain ⟨v17, h⟩ := fr_cb h
                obtain ⟨k13, h⟩ := fr_ix h
                obtain ⟨k14, h⟩ := fr_ix h
                obtain ⟨M14, hf, h⟩ := fr_pu h hf q_10
                exact fl_X11_account_2 hk q_10 q (w1 + 1) M14 h hf
              · exact fl_X11_account_2 hk q_10 q (w1 + 1) M13 h hf
            · obtain ⟨v18, h⟩ := fr_cb h
              obtain ⟨M15, hf, h⟩ := fr_cm h (fun _ hv => fr_X11_set hv q_10) hf
              rcases fr_br h with h | h
              · obtain ⟨v19, h⟩ := fr_cb h
                obtain ⟨k15, h⟩ := fr_ix h
                obtain ⟨k16, h⟩ := fr_ix h
                obtain ⟨M16, hf, h⟩ := fr_pu h hf q_10
                exact fl_X11_account_2 hk q_10 q (w1 + 1) M16 h hf
              · exact fl_X11_account_2 hk q_10 q (w1 + 1) M15 h hf
        · rcases fr_br h with h | h
          · rcases fr_br h with h | h
            · obtain ⟨v20, h⟩ := fr_cb h
              rcases fr_br h with h | h
              · obtain ⟨v21, h⟩ := fr_cb h
                obtain ⟨M17, hf, h⟩ := fr_cm h (fun _ hv => fr_X11_set hv q_10) hf
                rcases fr_br h with h | h
                · obtain ⟨v22, h⟩ := fr_cb h
                  obtain ⟨k17, h⟩ := fr_ix h
                  obtain ⟨k18, h⟩ := fr_ix h
                  obtain ⟨M18, hf, h⟩ := fr_pu h hf q_10
                  exact fl_X11_account_2 hk q_10 q (w1 + 1) M18 h hf
                · exact fl_X11_account_2 hk q_10 q (w1 + 1) M17 h hf
              · obtain ⟨v23, h⟩ := fr_cb h
                obtain ⟨M19, hf, h⟩ := fr_cm h (fun _ hv => fr_X11_set hv q_10) hf
                rcases fr_br h with h | h
                · obtain ⟨v24, h⟩ := fr_cb h
                  obtain ⟨k19, h⟩ := fr_ix h
                  obtain ⟨k20, h⟩ := fr_ix h
                  obtain ⟨M20, hf, h⟩ := fr_pu h hf q_10
                  exact fl_X11_account_2 hk q_10 q (w1 + 1) M20 h hf
                · exact fl_X11_account_2 hk q_10 q (w1 + 1) M19 h hf
            · rcases fr_br h with h | h
              · obtain ⟨v25, h⟩ := fr_cb h
                obtain ⟨M21, hf, h⟩ := fr_cm h (fun _ hv => fr_X11_set hv q_10) hf
                rcases fr_br h with h | h
                · obtain ⟨v26, h⟩ := fr_cb h
                  obtain ⟨k21, h⟩ := fr_ix h
                  obtain ⟨k22, h⟩ := fr_ix h
                  obtain ⟨M22, hf, h⟩ := fr_pu h hf q_10
                  exact fl_X11_account_2 hk q_10 q (w1 + 1) M22 h hf
                · exact fl_X11_account_2 hk q_10 q (w1 + 1) M21 h hf
              · obtain ⟨v27, h⟩ := fr_cb h
                obtain ⟨M23, hf, h⟩ := fr_cm h (fun _ hv => fr_X11_set hv q_10) hf
                rcases fr_br h with h | h
                · obtain ⟨v28, h⟩ := fr_cb h
                  obtain ⟨k23, h⟩ := fr_ix h
                  obtain ⟨k24, h⟩ := fr_ix h
                  obtain ⟨M24, hf, h⟩ := fr_pu h hf q_10
                  exact fl_X11_account_2 hk q_10 q (w1 + 1) M24 h hf
                · exact fl_X11_account_2 hk q_10 q (w1 + 1) M23 h hf
          · rcases fr_br h with h | h
            · obtain ⟨v29, h⟩ := fr_cb h
              rcases fr_br h with h | h
              · obtain ⟨v30, h⟩ := fr_cb h
                obtain ⟨M25, hf, h⟩ := fr_cm h (fun _ hv => fr_X11_set hv q_10) hf
                rcases fr_br h with h | h
                · obtain ⟨v31, h⟩ := fr_cb h
                  obtain ⟨k25, h⟩ := fr_ix h
                  obtain ⟨k26, h⟩ := fr_ix h
                  obtain ⟨M26, hf, h⟩ := fr_pu h hf q_10
                  exact fl_X11_account_2 hk q_10 q (w1 + 1) M26 h hf
                · exact fl_X11_account_2 hk q_10 q (w1 + 1) M25 h hf
              · obtain ⟨v32, h⟩ := fr_cb h
                obtain ⟨M27, hf, h⟩ := fr_cm h (fun _ hv => fr_X11_set hv q_10) hf
                rcases fr_br h with h | h
                · obtain ⟨v33, h⟩ := fr_cb h
                  obtain ⟨k27, h⟩ := fr_ix h
                  obtain ⟨k28, h⟩ := fr_ix h
                  obtain ⟨M28, hf, h⟩ := fr_pu h hf q_10
                  exact fl_X11_account_2 hk q_10 q (w1 + 1) M28 h hf
                · exact fl_X11_account_2 hk q_10 q (w1 + 1) M27 h hf
            · rcases fr_br h with h | h
              · obtain ⟨v34, h⟩ := fr_cb h
                obtain ⟨M29, hf, h⟩ := fr_cm h (fun _ hv => fr_X11_set hv q_10) hf
                rcases fr_br h with h | h
                · obtain ⟨v35, h⟩ := fr_cb h
                  obtain ⟨k29, h⟩ := fr_ix h
                  obtain ⟨k30, h⟩ := fr_ix h
                  obtain ⟨M30, hf, h⟩ := fr_pu h hf q_10
                  exact fl_X11_account_2 hk q_10 q (w1 + 1) M30 h hf
                · exact fl_X11_account_2 hk q_10 q (w1 + 1) M29 h hf
              · obtain ⟨v36, h⟩ := fr_cb h
                obtain ⟨M31, hf, h⟩ := fr_cm h (fun _ hv => fr_X11_set hv q_10) hf
                rcases fr_br h with h | h
                · obtain ⟨v37, h⟩ := fr_cb h
                  obtain ⟨k31, h⟩ := fr_ix h
                  obtain ⟨k32, h⟩ := fr_ix h
                  obtain ⟨M32, hf, h⟩ := fr_pu h hf q_10
                  exact fl_X11_account_2 hk q_10 q (w1 + 1) M32 h hf
                · exact fl_X11_account_2 hk q_10 q (w1 + 1) M31 h hf
theorem fr_X11_account {M : zx_Y} {rM : zx_Y} {c : zx_H} {j_ : Nat} (h : g_X11_account M = some rM) (q_10 : zc c j_ ≠ 10) : rM c j_ = M c j_ := by
  unfold g_X11_account at h
  have hf : M c j_ = M c j_ := rfl
  refine fl_X11_account_2 (fun v1 M1 h hf => ?_) q_10 1000 0 M h hf
  exact fr_r0 h hf
theorem fr_X11_comeIn {M : zx_Y} {x0 : Int32} {x1 : Int32} {rM : zx_Y} {c : zx_H} {j_ : Nat} (h : g_X11_comeIn M x0 x1 = some rM) (q_10 : zc c j_ ≠ 10) : rM c j_ = M c j_ := by
  unfold g_X11_comeIn at h
  have hf : M c j_ = M c j_ := rfl
  obtain ⟨M1, hf, h⟩ := fr_cm h (fun _ hv => fr_X11_become hv q_10) hf
  obtain ⟨M2, hf, h⟩ := fr_cm h (fun _ hv => fr_X11_set hv q_10) hf
  obtain ⟨M3, hf, h⟩ := fr_cm h (fun _ hv => fr_X11_set hv q_10) hf
  obtain ⟨k1, h⟩ := fr_ix h
  obtain ⟨k2, h⟩ := fr_ix h
  obtain ⟨M4, hf, h⟩ := fr_pu h hf q_10
  exact fr_r0 h hf
theorem fr_X11_arrive {M : zx_Y} {x0 : Int32} {rM : zx_Y} {c : zx_H} {j_ : Nat} (h : g_X11_arrive M x0 = some rM) (q_10 : zc c j_ ≠ 10) : rM c j_ = M c j_ := by
  unfold g_X11_arrive at h
  have hf : M c j_ = M c j_ := rfl
  obtain ⟨v1, h⟩ := fr_cb h
  obtain ⟨M1, hf, h⟩ := fr_cm h (fun _ hv => fr_X11_comeIn hv q_10) hf
  obtain ⟨v2, h⟩ := fr_cb h
  rcases fr_br h with h | h
  · obtain ⟨M2, hf, h⟩ := fr_cm h (fun _ hv => fr_X11_become hv q_10) hf
    obtain ⟨M3, hf, h⟩ := fr_cm h (fun _ hv => fr_X11_set hv q_10) hf
    exact fr_r0 h hf
  · exact fr_r0 h hf
theorem fl_X11_minute_16 {M0 : zx_Y} {kk : Int32 → zx_Y → Option zx_Y} {rM : zx_Y} {c : zx_H} {j_ : Nat} (hk : ∀ (w1 : Int32) (M : zx_Y), kk w1 M = some rM → M c j_ = M0 c j_ → rM c j_ = M0 c j_) (q_10 : zc c j_ ≠ 10) : ∀ (q : Nat) (w1 : Int32) (M : zx_Y), lg_X11_minute_16 kk q w1 M = some rM → M c j_ = M0 c j_ → rM c j_ = M0 c j_
  | 0, w1, M, h, hf => by
    rw [lg_X11_minute_16.eq_1] at h
    cases h
  | q + 1, w1, M, h, hf => by
    rw [lg_X11_minute_16.eq_2] at h
    rcases fr_br h with h | h
    · exact hk _ _ h hf
    · obtain ⟨v1, h⟩ := fr_cb h
      rcases fr_br h with h | h
      · obtain ⟨v2, h⟩ := fr_cb h
        rcases fr_br h with h | h
        · exact fl_X11_minute_16 hk q_10 q (w1 + 1) M h hf
        · obtain ⟨M1, hf, h⟩ := fr_cm h (fun _ hv => fr_X11_arrive hv q_10) hf
          exact fl_X11_minute_16 hk q_10 q (w1 + 1) M1 h hf
      · exact fl_X11_minute_16 hk q_10 q (w1 + 1) M h hf
theorem fl_X11_minute_66 {M0 : zx_Y} {kk : Int32 → zx_Y → Option zx_Y} {rM : zx_Y} {c : zx_H} {j_ : Nat} (hk : ∀ (w1 : Int32) (M : zx_Y), kk w1 M = some rM → M c j_ = M0 c j_ → rM c j_ = M0 c j_) (q_10 : zc c j_ ≠ 10) : ∀ (q : Nat) (w1 : Int32) (M : zx_Y), lg_X11_minute_66 kk q w1 M = some rM → M c j_ = M0 c j_ → rM c j_ = M0 c j_
  | 0, w1, M, h, hf => by
    rw [lg_X11_minute_66.eq_1] at h
    cases h
  | q + 1, w1, M, h, hf => by
    rw [lg_X11_minute_66.eq_2] at h
    rcases fr_br h with h | h
    · exact hk _ _ h hf
    · obtain ⟨v1, h⟩ := fr_cb h
      rcases fr_br h with h | h
      · obtain ⟨v2, h⟩ := fr_cb h
        rcases fr_br h with h | h
        · exact fl_X11_minute_66 hk q_10 q (w1 + 1) M h hf
        · obtain ⟨v3, h⟩ := fr_cb h
          obtain ⟨v4, h⟩ := fr_cb h
          rcases fr_br h with h | h
          · exact fl_X11_minute_66 hk q_10 q (w1 + 1) M h hf
          · obtain ⟨v5, h⟩ := fr_cb h
            obtain ⟨M1, hf, h⟩ := fr_cm h (fun _ hv => fr_X11_comeIn hv q_10) hf
            obtain ⟨M2, hf, h⟩ := fr_cm h (fun _ hv => fr_X11_set hv q_10) hf
            exact fl_X11_minute_66 hk q_10 q (w1 + 1) M2 h hf
      · exact fl_X11_minute_66 hk q_10 q (w1 + 1) M h hf
theorem fl_X11_minute_146 {M0 : zx_Y} {kk : Int32 → zx_Y → Option zx_Y} {rM : zx_Y} {c : zx_H} {j_ : Nat} (hk : ∀ (w1 : Int32) (M : zx_Y), kk w1 M = some rM → M c j_ = M0 c j_ → rM c j_ = M0 c j_) (q_10 : zc c j_ ≠ 10) : ∀ (q : Nat) (w1 : Int32) (M : zx_Y), lg_X11_minute_146 kk q w1 M = some rM → M c j_ = M0 c j_ → rM c j_ = M0 c j_
  | 0, w1, M, h, hf => by
    rw [lg_X11_minute_146.eq_1] at h
    cases h
  | q + 1, w1, M, h, hf => by
    rw [lg_X11_minute_146.eq_2] at h
    rcases fr_br h with h | h
    · exact hk _ _ h hf
    · obtain ⟨v1, h⟩ := fr_cb h
      rcases fr_br h with h | h
      · obtain ⟨v2, h⟩ := fr_cb h
        rcases fr_br h with h | h
        · exact fl_X11_minute_146 hk q_10 q (w1 + 1) M h hf
        · obtain ⟨v3, h⟩ := fr_cb h
          obtain ⟨M1, hf, h⟩ := fr_cm h (fun _ hv => fr_X11_become hv q_10) hf
          obtain ⟨M2, hf, h⟩ := fr_cm h (fun _ hv => fr_X11_set hv q_10) hf
          exact fl_X11_minute_146 hk q_10 q (w1 + 1) M2 h hf
      · exact fl_X11_minute_146 hk q_10 q (w1 + 1) M h hf
theorem fl_X11_sortTrains_33 {M0 : zx_Y} {p1 : Int32} {kk : Int32 → zx_Y → Option zx_Y} {rM : zx_Y} {c : zx_H} {j_ : Nat} (hk : ∀ (w2 : Int32) (M : zx_Y), kk w2 M = some rM → M c j_ = M0 c j_ → rM c j_ = M0 c j_) (q_11 : zc c j_ ≠ 11) : ∀ (q : Nat) (w2 : Int32) (M : zx_Y), lg_X11_sortTrains_33 p1 kk q w2 M = some rM → M c j_ = M0 c j_ → rM c j_ = M0 c j_
  | 0, w2, M, h, hf => by
    rw [lg_X11_sortTrains_33.eq_1] at h
    cases h
  | q + 1, w2, M, h, hf => by
    rw [lg_X11_sortTrains_33.eq_2] at h
    rcases fr_br h with h | h
    · exact hk _ _ h hf
    · obtain ⟨k1, h⟩ := fr_ix h
      obtain ⟨v1, h⟩ := fr_cb h
      rcases fr_br h with h | h
      · exact hk _ _ h hf
      · obtain ⟨k2, h⟩ := fr_ix h
        obtain ⟨k3, h⟩ := fr_ix h
        obtain ⟨M1, hf, h⟩ := fr_pu h hf q_11
        exact fl_X11_sortTrains_33 hk q_11 q (w2 + (-1)) M1 h hf
theorem fl_X11_sortTrains_7 {M0 : zx_Y} {kk : Int32 → zx_Y → Option zx_Y} {rM : zx_Y} {c : zx_H} {j_ : Nat} (hk : ∀ (w1 : Int32) (M : zx_Y), kk w1 M = some rM → M c j_ = M0 c j_ → rM c j_ = M0 c j_) (q_11 : zc c j_ ≠ 11) (q_22 : zc c j_ ≠ 22) : ∀ (q : Nat) (w1 : Int32) (M : zx_Y), lg_X11_sortTrains_7 kk q w1 M = some rM → M c j_ = M0 c j_ → rM c j_ = M0 c j_
  | 0, w1, M, h, hf => by
    rw [lg_X11_sortTrains_7.eq_1] at h
    cases h
  | q + 1, w1, M, h, hf => by
    rw [lg_X11_sortTrains_7.eq_2] at h
    rcases fr_br h with h | h
    · exact hk _ _ h hf
    · obtain ⟨v1, h⟩ := fr_cb h
      rcases fr_br h with h | h
      · refine fl_X11_sortTrains_33 (fun v2 M1 h hf => ?_) q_11 1000 (M (25, 0, 0, 0) 2) M h hf
        obtain ⟨k1, h⟩ := fr_ix h
        obtain ⟨M2, hf, h⟩ := fr_pu h hf q_11
        obtain ⟨M3, hf, h⟩ := fr_pu h hf q_22
        exact fl_X11_sortTrains_7 hk q_11 q_22 q (w1 + 1) M3 h hf
      · exact fl_X11_sortTrains_7 hk q_11 q_22 q (w1 + 1) M h hf
theorem fr_X11_sortTrains {M : zx_Y} {rM : zx_Y} {c : zx_H} {j_ : Nat} (h : g_X11_sortTrains M = some rM) (q_22 : zc c j_ ≠ 22) (q_11 : zc c j_ ≠ 11) : rM c j_ = M c j_ := by
  unfold g_X11_sortTrains at h
  have hf : M c j_ = M c j_ := rfl
  obtain ⟨M1, hf, h⟩ := fr_pu h hf q_22
  refine fl_X11_sortTrains_7 (fun v1 M2 h hf => ?_) q_11 q_22 1000 0 M1 h hf
  exact fr_r0 h hf
theorem fr_X11_relieve {M : zx_Y} {x0 : Int32} {rM : zx_Y} {c : zx_H} {j_ : Nat} (h : g_X11_relieve M x0 = some rM) (q_10 : zc c j_ ≠ 10) : rM c j_ = M c j_ := by
  unfold g_X11_relieve at h
  have hf : M c j_ = M c j_ := rfl
  obtain ⟨v1, h⟩ := fr_cb h
  obtain ⟨M1, hf, h⟩ := fr_cm h (fun _ hv => fr_X11_become hv q_10) hf
  obtain ⟨k1, h⟩ := fr_ix h
  rcases fr_br h with h | h
  · obtain ⟨M2, hf, h⟩ := fr_cm h (fun _ hv => fr_X11_set hv q_10) hf
    obtain ⟨M3, hf, h⟩ := fr_cm h (fun _ hv => fr_X11_set hv q_10) hf
    obtain ⟨v2, h⟩ := fr_cb h
    obtain ⟨M4, hf, h⟩ := fr_cm h (fun _ hv => fr_X11_set hv q_10) hf
    exact fr_r0 h hf
  · obtain ⟨M5, hf, h⟩ := fr_cm h (fun _ hv => fr_X11_set hv q_10) hf
    obtain ⟨M6, hf, h⟩ := fr_cm h (fun _ hv => fr_X11_set hv q_10) hf
    obtain ⟨v3, h⟩ := fr_cb h
    obtain ⟨M7, hf, h⟩ := fr_cm h (fun _ hv => fr_X11_set hv q_10) hf
    exact fr_r0 h hf
theorem fr_X11_enter {M : zx_Y} {x0 : Int32} {rM : zx_Y} {c : zx_H} {j_ : Nat} (h : g_X11_enter M x0 = some rM) (q_10 : zc c j_ ≠ 10) : rM c j_ = M c j_ := by
  unfold g_X11_enter at h
  have hf : M c j_ = M c j_ := rfl
  obtain ⟨v1, h⟩ := fr_cb h
  obtain ⟨v2, h⟩ := fr_cb h
  obtain ⟨v3, h⟩ := fr_cb h
  obtain ⟨M1, hf, h⟩ := fr_cm h (fun _ hv => fr_X11_set hv q_10) hf
  obtain ⟨M2, hf, h⟩ := fr_cm h (fun _ hv => fr_X11_become hv q_10) hf
  obtain ⟨M3, hf, h⟩ := fr_cm h (fun _ hv => fr_X11_set hv q_10) hf
  obtain ⟨k1, h⟩ := fr_ix h
  obtain ⟨k2, h⟩ := fr_ix h
  obtain ⟨M4, hf, h⟩ := fr_pu h hf q_10
  exact fr_r0 h hf
theorem fl_X11_minute_221 {M0 : zx_Y} {kk : Int32 → zx_Y → Option zx_Y} {rM : zx_Y} {c : zx_H} {j_ : Nat} (hk : ∀ (w1 : Int32) (M : zx_Y), kk w1 M = some rM → M c j_ = M0 c j_ → rM c j_ = M0 c j_) (q_10 : zc c j_ ≠ 10) : ∀ (q : Nat) (w1 : Int32) (M : zx_Y), lg_X11_minute_221 kk q w1 M = some rM → M c j_ = M0 c j_ → rM c j_ = M0 c j_
  | 0, w1, M, h, hf => by
    rw [lg_X11_minute_221.eq_1] at h
    cases h
  | q + 1, w1, M, h, hf => by
    rw [lg_X11_minute_221.eq_2] at h
    rcases fr_br h with h | h
    · exact hk _ _ h hf
    · obtain ⟨k1, h⟩ := fr_ix h
      obtain ⟨v1, h⟩ := fr_cb h
      rcases fr_br h with h | h
      · obtain ⟨v2, h⟩ := fr_cb h
        rcases fr_br h with h | h
        · exact fl_X11_minute_221 hk q_10 q (w1 + 1) M h hf
        · obtain ⟨v3, h⟩ := fr_cb h
          obtain ⟨v4, h⟩ := fr_cb h
          rcases fr_br h with h | h
          · exact fl_X11_minute_221 hk q_10 q (w1 + 1) M h hf
          · obtain ⟨M1, hf, h⟩ := fr_cm h (fun _ hv => fr_X11_relieve hv q_10) hf
            exact fl_X11_minute_221 hk q_10 q (w1 + 1) M1 h hf
      · obtain ⟨M2, hf, h⟩ := fr_cm h (fun _ hv => fr_X11_enter hv q_10) hf
        exact fl_X11_minute_221 hk q_10 q (w1 + 1) M2 h hf
theorem fr_X11_minute {M : zx_Y} {rM : zx_Y} {c : zx_H} {j_ : Nat} (h : g_X11_minute M = some rM) (q_10 : zc c j_ ≠ 10) (q_22 : zc c j_ ≠ 22) (q_11 : zc c j_ ≠ 11) : rM c j_ = M c j_ := by
  unfold g_X11_minute at h
  have hf : M c j_ = M c j_ := rfl
  obtain ⟨M1, hf, h⟩ := fr_cm h (fun _ hv => fr_X11_account hv q_10) hf
  obtain ⟨M2, hf, h⟩ := fr_pu h hf q_10
  refine fl_X11_minute_16 (fun v1 M3 h hf => ?_) q_10 1000 0 M2 h hf
  refine fl_X11_minute_66 (fun v2 M4 h hf => ?_) q_10 1000 0 M3 h hf
  refine fl_X11_minute_146 (fun v3 M5 h hf => ?_) q_10 1000 0 M4 h hf
  obtain ⟨M6, hf, h⟩ := fr_cm h (fun _ hv => fr_X11_sortTrains hv q_22 q_11) hf
  refine fl_X11_minute_221 (fun v4 M7 h hf => ?_) q_10 1000 0 M6 h hf
  exact fr_r0 h hf
theorem fl_X11_pass_45 {M0 : zx_Y} {x0 : Int32} {kk : Int32 → zx_Y → Option (Int32 × zx_Y)} {rv : Int32} {rM : zx_Y} {c : zx_H} {j_ : Nat} (hk : ∀ (w2 : Int32) (M : zx_Y), kk w2 M = some (rv, rM) → M c j_ = M0 c j_ → rM c j_ = M0 c j_) (q_10 : zc c j_ ≠ 10) (q_22 : zc c j_ ≠ 22) (q_11 : zc c j_ ≠ 11) : ∀ (q : Nat) (w2 : Int32) (M : zx_Y), lg_X11_pass_45 x0 kk q w2 M = some (rv, rM) → M c j_ = M0 c j_ → rM c j_ = M0 c j_
  | 0, w2, M, h, hf => by
    rw [lg_X11_pass_45.eq_1] at h
    cases h
  | q + 1, w2, M, h, hf => by
    rw [lg_X11_pass_45.eq_2] at h
    rcases fr_br h with h | h
    · exact hk _ _ h hf
    · obtain ⟨M1, hf, h⟩ := fr_cm h (fun _ hv => fr_X11_minute hv q_10 q_22 q_11) hf
      exact fl_X11_pass_45 hk q_10 q_22 q_11 q (w2 + 1) M1 h hf
theorem fr_X11_pass {M : zx_Y} {x0 : Int32} {rv : Int32} {rM : zx_Y} {c : zx_H} {j_ : Nat} (h : g_X11_pass M x0 = some (rv, rM)) (q_10 : zc c j_ ≠ 10) (q_22 : zc c j_ ≠ 22) (q_11 : zc c j_ ≠ 11) : rM c j_ = M c j_ := by
  unfold g_X11_pass at h
  have hf : M c j_ = M c j_ := rfl
  rcases fr_br h with h | h
  · exact fr_ri h hf
  · obtain ⟨v1, h⟩ := fr_cb h
    rcases fr_br h with h | h
    · exact fr_ri h hf
    · rcases fr_br h with h | h
      · refine fl_X11_pass_45 (fun v2 M1 h hf => ?_) q_10 q_22 q_11 1000 0 M h hf
        exact fr_ri h hf
      · exact fr_ri h hf
theorem fl_X2_rivalOf_6 {M M0 : zx_Y} {l : Nat} {i : Nat} {kk : Int32 → Option (Int32 × zx_Y)} {rv : Int32} {rM : zx_Y} {c : zx_H} {j_ : Nat} (hk : ∀ (w2 : Int32), kk w2 = some (rv, rM) → rM c j_ = M0 c j_) (hf : M c j_ = M0 c j_) : ∀ (q : Nat) (w2 : Int32), lg_X2_rivalOf_6 M l i kk q w2 = some (rv, rM) → rM c j_ = M0 c j_
  | 0, w2, h => by
    rw [lg_X2_rivalOf_6.eq_1] at h
    cases h
  | q + 1, w2, h => by
    rw [lg_X2_rivalOf_6.eq_2] at h
    rcases fr_br h with h | h
    · exact hk _ h
    · obtain ⟨k1, h⟩ := fr_ix h
      obtain ⟨k2, h⟩ := fr_ix h
      rcases fr_br h with h | h
      · exact fr_ri h hf
      · obtain ⟨v1, h⟩ := fr_cb h
        obtain ⟨v2, h⟩ := fr_cb h
        rcases fr_br h with h | h
        · obtain ⟨v3, h⟩ := fr_cb h
          rcases fr_br h with h | h
          · exact fr_ri h hf
          · exact fl_X2_rivalOf_6 hk hf q (w2 + 1) h
        · exact fl_X2_rivalOf_6 hk hf q (w2 + 1) h
theorem fr_X2_rivalOf {M : zx_Y} {l : Nat} {i : Nat} {rv : Int32} {rM : zx_Y} {c : zx_H} {j_ : Nat} (h : g_X2_rivalOf M l i = some (rv, rM)) (q_200_l : zc c j_ ≠ 200 + l) : rM c j_ = M c j_ := by
  unfold g_X2_rivalOf at h
  have hf : M c j_ = M c j_ := rfl
  obtain ⟨M1, hf, h⟩ := fr_cm h (fun _ hv => fr_X2_rank hv q_200_l) hf
  refine fl_X2_rivalOf_6 (fun v1 h => ?_) hf 1000 0  h
  exact fr_ri h hf
theorem fr_X2_reasonFor {M : zx_Y} {l : Nat} {i : Nat} {rv : Int32} {rM : zx_Y} {c : zx_H} {j_ : Nat} (h : g_X2_reasonFor M l i = some (rv, rM)) (q_200_l : zc c j_ ≠ 200 + l) : rM c j_ = M c j_ := by
  unfold g_X2_reasonFor at h
  have hf : M c j_ = M c j_ := rfl
  rcases fr_br h with h | h
  · rcases fr_br h with h | h
    · exact fr_ri h hf
    · obtain ⟨v1, h⟩ := fr_cb h
      rcases fr_br h with h | h
      · exact fr_ri h hf
      · exact fr_ri h hf
  · rcases fr_br h with h | h
    · obtain ⟨v2, h⟩ := fr_cb h
      rcases fr_br h with h | h
      · obtain ⟨v3, M1, hf, h⟩ := fr_cv h (fun _ _ hv => fr_X2_rivalOf hv q_200_l) hf
        rcases fr_br h with h | h
        · exact fr_ri h hf
        · exact fr_ri h hf
      · exact fr_ri h hf
    · rcases fr_br h with h | h
      · exact fr_ri h hf
      · rcases fr_br h with h | h
        · exact fr_ri h hf
        · exact fr_ri h hf
theorem fr_X2_numberFor {M : zx_Y} {l : Nat} {i : Nat} {x0 : Int32} {rv : Int32} {rM : zx_Y} {c : zx_H} {j_ : Nat} (h : g_X2_numberFor M l i x0 = some (rv, rM)) (q_200_l : zc c j_ ≠ 200 + l) : rM c j_ = M c j_ := by
  unfold g_X2_numberFor at h
  have hf : M c j_ = M c j_ := rfl
  rcases fr_br h with h | h
  · exact fr_ri h hf
  · rcases fr_br h with h | h
    · exact fr_ri h hf
    · rcases fr_br h with h | h
      · exact fr_ri h hf
      · rcases fr_br h with h | h
        · obtain ⟨v1, h⟩ := fr_cb h
          obtain ⟨v2, h⟩ := fr_cb h
          exact fr_ri h hf
        · rcases fr_br h with h | h
          · obtain ⟨v3, h⟩ := fr_cb h
            exact fr_ri h hf
          · rcases fr_br h with h | h
            · obtain ⟨v4, h⟩ := fr_cb h
              exact fr_ri h hf
            · rcases fr_br h with h | h
              · obtain ⟨v5, M1, hf, h⟩ := fr_cv h (fun _ _ hv => fr_X2_rivalOf hv q_200_l) hf
                exact fr_ri h hf
              · exact fr_ri h hf
theorem fr_X10_why {M : zx_Y} {x0 : Int32} {x1 : Int32} {rv : Int32} {rM : zx_Y} {c : zx_H} {j_ : Nat} (h : g_X10_why M x0 x1 = some (rv, rM)) (q_200_0 : zc c j_ ≠ 200 + 0) : rM c j_ = M c j_ := by
  unfold g_X10_why at h
  have hf : M c j_ = M c j_ := rfl
  rcases fr_tw h with ⟨k1, h⟩ | h
  · rcases fr_br h with h | h
    · exact fr_ri h hf
    · rcases fr_br h with h | h
      · obtain ⟨v1, M1, hf, h⟩ := fr_cv h (fun _ _ hv => fr_X2_reasonFor hv q_200_0) hf
        rcases fr_br h with h | h
        · exact fr_ri h hf
        · obtain ⟨v2, M2, hf, h⟩ := fr_cv h (fun _ _ hv => fr_X2_numberFor hv q_200_0) hf
          exact fr_ri h hf
      · exact fr_ri h hf
  · exact fr_ri h hf
theorem fl_X11_firstAhead_19 {M M0 : zx_Y} {x0 : Int32} {p2 : Int32} {kk : Int32 → Option (Int32 × zx_Y)} {rv : Int32} {rM : zx_Y} {c : zx_H} {j_ : Nat} (hk : ∀ (w3 : Int32), kk w3 = some (rv, rM) → rM c j_ = M0 c j_) (hf : M c j_ = M0 c j_) : ∀ (q : Nat) (w3 : Int32), lg_X11_firstAhead_19 M x0 p2 kk q w3 = some (rv, rM) → rM c j_ = M0 c j_
  | 0, w3, h => by
    rw [lg_X11_firstAhead_19.eq_1] at h
    cases h
  | q + 1, w3, h => by
    rw [lg_X11_firstAhead_19.eq_2] at h
    rcases fr_br h with h | h
    · exact hk _ h
    · obtain ⟨k1, h⟩ := fr_ix h
      rcases fr_br h with h | h
      · exact hk _ h
      · obtain ⟨k2, h⟩ := fr_ix h
        obtain ⟨v1, h⟩ := fr_cb h
        rcases fr_br h with h | h
        · exact fl_X11_firstAhead_19 hk hf q (w3 + 1) h
        · obtain ⟨k3, h⟩ := fr_ix h
          obtain ⟨k4, h⟩ := fr_ix h
          obtain ⟨v2, h⟩ := fr_cb h
          obtain ⟨v3, h⟩ := fr_cb h
          rcases fr_br h with h | h
          · obtain ⟨k5, h⟩ := fr_ix h
            exact fr_ri h hf
          · exact fl_X11_firstAhead_19 hk hf q (w3 + 1) h
theorem fr_X11_firstAhead {M : zx_Y} {x0 : Int32} {rv : Int32} {rM : zx_Y} {c : zx_H} {j_ : Nat} (h : g_X11_firstAhead M x0 = some (rv, rM)) (q_22 : zc c j_ ≠ 22) (q_11 : zc c j_ ≠ 11) : rM c j_ = M c j_ := by
  unfold g_X11_firstAhead at h
  have hf : M c j_ = M c j_ := rfl
  obtain ⟨M1, hf, h⟩ := fr_cm h (fun _ hv => fr_X11_sortTrains hv q_22 q_11) hf
  obtain ⟨v1, h⟩ := fr_cb h
  obtain ⟨v2, h⟩ := fr_cb h
  refine fl_X11_firstAhead_19 (fun v3 h => ?_) hf 1000 0  h
  exact fr_ri h hf
theorem fr_X11_whyStanding {M : zx_Y} {x0 : Int32} {x1 : Int32} {rv : Int32} {rM : zx_Y} {c : zx_H} {j_ : Nat} (h : g_X11_whyStanding M x0 x1 = some (rv, rM)) (q_22 : zc c j_ ≠ 22) (q_11 : zc c j_ ≠ 11) : rM c j_ = M c j_ := by
  unfold g_X11_whyStanding at h
  have hf : M c j_ = M c j_ := rfl
  obtain ⟨v1, h⟩ := fr_cb h
  obtain ⟨v2, h⟩ := fr_cb h
  obtain ⟨v3, h⟩ := fr_cb h
  rcases fr_br h with h | h
  · obtain ⟨v4, h⟩ := fr_cb h
    obtain ⟨v5, h⟩ := fr_cb h
    obtain ⟨v6, h⟩ := fr_cb h
    rcases fr_br h with h | h
    · obtain ⟨v7, h⟩ := fr_cb h
      rcases fr_br h with h | h
      · obtain ⟨v8, M1, hf, h⟩ := fr_cv h (fun _ _ hv => fr_X11_firstAhead hv q_22 q_11) hf
        rcases fr_br h with h | h
        · rcases fr_br h with h | h
          · exact fr_ri h hf
          · exact fr_ri h hf
        · exact fr_ri h hf
      · rcases fr_br h with h | h
        · exact fr_ri h hf
        · obtain ⟨v9, h⟩ := fr_cb h
          exact fr_ri h hf
    · obtain ⟨v10, h⟩ := fr_cb h
      rcases fr_br h with h | h
      · rcases fr_br h with h | h
        · exact fr_ri h hf
        · exact fr_ri h hf
      · obtain ⟨v11, h⟩ := fr_cb h
        rcases fr_br h with h | h
        · obtain ⟨v12, M2, hf, h⟩ := fr_cv h (fun _ _ hv => fr_X11_firstAhead hv q_22 q_11) hf
          rcases fr_br h with h | h
          · rcases fr_br h with h | h
            · exact fr_ri h hf
            · exact fr_ri h hf
          · exact fr_ri h hf
        · rcases fr_br h with h | h
          · exact fr_ri h hf
          · obtain ⟨v13, h⟩ := fr_cb h
            exact fr_ri h hf
  · rcases fr_br h with h | h
    · exact fr_ri h hf
    · exact fr_ri h hf
theorem fr_X11_why {M : zx_Y} {x0 : Int32} {x1 : Int32} {rv : Int32} {rM : zx_Y} {c : zx_H} {j_ : Nat} (h : g_X11_why M x0 x1 = some (rv, rM)) (q_22 : zc c j_ ≠ 22) (q_11 : zc c j_ ≠ 11) : rM c j_ = M c j_ := by
  unfold g_X11_why at h
  have hf : M c j_ = M c j_ := rfl
  obtain ⟨v1, h⟩ := fr_cb h
  rcases fr_br h with h | h
  · exact fr_ri h hf
  · obtain ⟨v2, h⟩ := fr_cb h
    rcases fr_br h with h | h
    · exact fr_ri h hf
    · obtain ⟨v3, h⟩ := fr_cb h
      rcases fr_br h with h | h
      · obtain ⟨v4, h⟩ := fr_cb h
        exact fr_ri h hf
      · rcases fr_br h with h | h
        · obtain ⟨v5, M1, hf, h⟩ := fr_cv h (fun _ _ hv => fr_X11_whyStanding hv q_22 q_11) hf
          exact fr_ri h hf
        · rcases fr_br h with h | h
          · rcases fr_br h with h | h
            · exact fr_ri h hf
            · exact fr_ri h hf
          · rcases fr_br h with h | h
            · rcases fr_br h with h | h
              · exact fr_ri h hf
              · obtain ⟨v6, h⟩ := fr_cb h
                exact fr_ri h hf
            · rcases fr_br h with h | h
              · exact fr_ri h hf
              · exact fr_ri h hf
theorem fr_X10_order {M : zx_Y} {x0 : Int32} {rv : Int32} {rM : zx_Y} {c : zx_H} {j_ : Nat} (h : g_X10_order M x0 = some (rv, rM)) (q_200_0 : zc c j_ ≠ 200 + 0) : rM c j_ = M c j_ := by
  unfold g_X10_order at h
  have hf : M c j_ = M c j_ := rfl
  obtain ⟨M1, hf, h⟩ := fr_cm h (fun _ hv => fr_X2_rank hv q_200_0) hf
  rcases fr_br h with h | h
  · exact fr_ri h hf
  · rcases fr_br h with h | h
    · exact fr_ri h hf
    · rcases fr_br h with h | h
      · obtain ⟨k1, h⟩ := fr_ix h
        exact fr_ri h hf
      · exact fr_ri h hf
theorem fr_X11_order {M : zx_Y} {x0 : Int32} {rv : Int32} {rM : zx_Y} {c : zx_H} {j_ : Nat} (h : g_X11_order M x0 = some (rv, rM)) (q_22 : zc c j_ ≠ 22) (q_11 : zc c j_ ≠ 11) : rM c j_ = M c j_ := by
  unfold g_X11_order at h
  have hf : M c j_ = M c j_ := rfl
  obtain ⟨M1, hf, h⟩ := fr_cm h (fun _ hv => fr_X11_sortTrains hv q_22 q_11) hf
  rcases fr_br h with h | h
  · exact fr_ri h hf
  · obtain ⟨v1, h⟩ := fr_cb h
    rcases fr_br h with h | h
    · exact fr_ri h hf
    · obtain ⟨k1, h⟩ := fr_ix h
      exact fr_ri h hf
theorem fl_X3_takeRow_18 {M0 : zx_Y} {l : Nat} {i : Nat} {x1 : Int32} {r40 : Nat} {kk : Int32 → Int32 → zx_Y → Option (Int32 × zx_Y)} {rv : Int32} {rM : zx_Y} {c : zx_H} {j_ : Nat} (hk : ∀ (w5 : Int32) (w6 : Int32) (M : zx_Y), kk w5 w6 M = some (rv, rM) → M c j_ = M0 c j_ → rM c j_ = M0 c j_) (q_4 : zc c j_ ≠ 4) : ∀ (q : Nat) (w5 : Int32) (w6 : Int32) (M : zx_Y), lg_X3_takeRow_18 l i x1 r40 kk q w5 w6 M = some (rv, rM) → M c j_ = M0 c j_ → rM c j_ = M0 c j_
  | 0, w5, w6, M, h, hf => by
    rw [lg_X3_takeRow_18.eq_1] at h
    cases h
  | q + 1, w5, w6, M, h, hf => by
    rw [lg_X3_takeRow_18.eq_2] at h
    rcases fr_br h with h | h
    · exact hk _ _ _ h hf
    · obtain ⟨k1, h⟩ := fr_ix h
      obtain ⟨k2, h⟩ := fr_ix h
      rcases fr_br h with h | h
      · obtain ⟨k3, h⟩ := fr_ix h
        obtain ⟨M1, hf, h⟩ := fr_pu h hf q_4
        exact fl_X3_takeRow_18 hk q_4 q w5 (w6 + 1) M1 h hf
      · obtain ⟨k4, h⟩ := fr_ix h
        obtain ⟨k5, h⟩ := fr_ix h
        obtain ⟨k6, h⟩ := fr_ix h
        obtain ⟨M2, hf, h⟩ := fr_pu h hf q_4
        exact fl_X3_takeRow_18 hk q_4 q (w5 + 1) (w6 + 1) M2 h hf
theorem fr_X3_takeRow {M : zx_Y} {l : Nat} {i : Nat} {x0 : Int32} {x1 : Int32} {rv : Int32} {rM : zx_Y} {c : zx_H} {j_ : Nat} (h : g_X3_takeRow M l i x0 x1 = some (rv, rM)) (q_4 : zc c j_ ≠ 4) : rM c j_ = M c j_ := by
  unfold g_X3_takeRow at h
  have hf : M c j_ = M c j_ := rfl
  obtain ⟨k1, h⟩ := fr_ix h
  refine fl_X3_takeRow_18 (fun v1 v2 M1 h hf => ?_) q_4 1000 0 0 M h hf
  exact fr_ri h hf
theorem fl_X3_takeRow_18_2 {M0 : zx_Y} {x1 : Int32} {r40 : Nat} {kk : Int32 → Int32 → zx_Y → Option (Int32 × zx_Y)} {rv : Int32} {rM : zx_Y} {c : zx_H} {j_ : Nat} (hk : ∀ (w5 : Int32) (w6 : Int32) (M : zx_Y), kk w5 w6 M = some (rv, rM) → M c j_ = M0 c j_ → rM c j_ = M0 c j_) (q_4 : zc c j_ ≠ 4) : ∀ (q : Nat) (w5 : Int32) (w6 : Int32) (M : zx_Y), lg_X3_takeRow_18_2 x1 r40 kk q w5 w6 M = some (rv, rM) → M c j_ = M0 c j_ → rM c j_ = M0 c j_
  | 0, w5, w6, M, h, hf => by
    rw [lg_X3_takeRow_18_2.eq_1] at h
    cases h
  | q + 1, w5, w6, M, h, hf => by
    rw [lg_X3_takeRow_18_2.eq_2] at h
    rcases fr_br h with h | h
    · exact hk _ _ _ h hf
    · obtain ⟨k1, h⟩ := fr_ix h
      obtain ⟨M1, hf, h⟩ := fr_pu h hf q_4
      exact fl_X3_takeRow_18_2 hk q_4 q w5 (w6 + 1) M1 h hf
theorem fr_X3_takeRow_n {M : zx_Y} {x0 : Int32} {x1 : Int32} {rv : Int32} {rM : zx_Y} {c : zx_H} {j_ : Nat} (h : g_X3_takeRow_n M x0 x1 = some (rv, rM)) (q_4 : zc c j_ ≠ 4) : rM c j_ = M c j_ := by
  unfold g_X3_takeRow_n at h
  have hf : M c j_ = M c j_ := rfl
  obtain ⟨k1, h⟩ := fr_ix h
  refine fl_X3_takeRow_18_2 (fun v1 v2 M1 h hf => ?_) q_4 1000 0 0 M h hf
  exact fr_ri h hf
theorem fl_X3_make_23 {M0 : zx_Y} {l : Nat} {kk : Int32 → Int32 → zx_Y → Option (Int32 × zx_Y)} {rv : Int32} {rM : zx_Y} {c : zx_H} {j_ : Nat} (hk : ∀ (w4 : Int32) (w5 : Int32) (M : zx_Y), kk w4 w5 M = some (rv, rM) → M c j_ = M0 c j_ → rM c j_ = M0 c j_) (q_4 : zc c j_ ≠ 4) : ∀ (q : Nat) (w4 : Int32) (w5 : Int32) (M : zx_Y), lg_X3_make_23 l kk q w4 w5 M = some (rv, rM) → M c j_ = M0 c j_ → rM c j_ = M0 c j_
  | 0, w4, w5, M, h, hf => by
    rw [lg_X3_make_23.eq_1] at h
    cases h
  | q + 1, w4, w5, M, h, hf => by
    rw [lg_X3_make_23.eq_2] at h
    rcases fr_br h with h | h
    · exact hk _ _ _ h hf
    · rcases fr_tw h with ⟨k1, h⟩ | h
      · obtain ⟨v1, M1, hf, h⟩ := fr_cv h (fun _ _ hv => fr_X3_takeRow hv q_4) hf
        obtain ⟨v2, M2, hf, h⟩ := fr_cv h (fun _ _ hv => fr_X3_takeRow hv q_4) hf
        exact fl_X3_make_23 hk q_4 q (w4 + (v1 + v2)) (w5 + 1) M2 h hf
      · obtain ⟨v3, M3, hf, h⟩ := fr_cv h (fun _ _ hv => fr_X3_takeRow_n hv q_4) hf
        obtain ⟨v4, M4, hf, h⟩ := fr_cv h (fun _ _ hv => fr_X3_takeRow_n hv q_4) hf
        exact fl_X3_make_23 hk q_4 q (w4 + (v3 + v4)) (w5 + 1) M4 h hf
theorem fr_X3_make {M : zx_Y} {l : Nat} {x0 : Int32} {x1 : Int32} {rv : Int32} {rM : zx_Y} {c : zx_H} {j_ : Nat} (h : g_X3_make M l x0 x1 = some (rv, rM)) (q_4 : zc c j_ ≠ 4) : rM c j_ = M c j_ := by
  unfold g_X3_make at h
  have hf : M c j_ = M c j_ := rfl
  obtain ⟨M1, hf, h⟩ := fr_pu h hf q_4
  obtain ⟨M2, hf, h⟩ := fr_pu h hf q_4
  obtain ⟨M3, hf, h⟩ := fr_pu h hf q_4
  refine fl_X3_make_23 (fun v1 v2 M4 h hf => ?_) q_4 1000 0 0 M3 h hf
  exact fr_ri h hf
theorem fr_X10_plan {M : zx_Y} {x0 : Int32} {rv : Int32} {rM : zx_Y} {c : zx_H} {j_ : Nat} (h : g_X10_plan M x0 = some (rv, rM)) (q_100_2 : zc c j_ ≠ 100 + 2) (q_200_2 : zc c j_ ≠ 200 + 2) (q_4 : zc c j_ ≠ 4) : rM c j_ = M c j_ := by
  unfold g_X10_plan at h
  have hf : M c j_ = M c j_ := rfl
  obtain ⟨v1, h⟩ := fr_cb h
  rcases fr_br h with h | h
  · exact fr_ri h hf
  · obtain ⟨v2, h⟩ := fr_cb h
    rcases fr_br h with h | h
    · exact fr_ri h hf
    · obtain ⟨M1, hf, h⟩ := fr_cm h (fun _ hv => fr_X2_copyFrom hv q_100_2) hf
      obtain ⟨M2, hf, h⟩ := fr_cm h (fun _ hv => fr_X2_advance hv q_100_2 q_200_2) hf
      obtain ⟨v3, M3, hf, h⟩ := fr_cv h (fun _ _ hv => fr_X3_make hv q_4) hf
      exact fr_ri h hf
theorem fl_X11_tryMinutes_13 {M0 : zx_Y} {x0 : Int32} {kk : Int32 → zx_Y → Option zx_Y} {rM : zx_Y} {c : zx_H} {j_ : Nat} (hk : ∀ (w2 : Int32) (M : zx_Y), kk w2 M = some rM → M c j_ = M0 c j_ → rM c j_ = M0 c j_) (q_10 : zc c j_ ≠ 10) (q_22 : zc c j_ ≠ 22) (q_11 : zc c j_ ≠ 11) : ∀ (q : Nat) (w2 : Int32) (M : zx_Y), lg_X11_tryMinutes_13 x0 kk q w2 M = some rM → M c j_ = M0 c j_ → rM c j_ = M0 c j_
  | 0, w2, M, h, hf => by
    rw [lg_X11_tryMinutes_13.eq_1] at h
    cases h
  | q + 1, w2, M, h, hf => by
    rw [lg_X11_tryMinutes_13.eq_2] at h
    rcases fr_br h with h | h
    · exact hk _ _ h hf
    · obtain ⟨M1, hf, h⟩ := fr_cm h (fun _ hv => fr_X11_minute hv q_10 q_22 q_11) hf
      exact fl_X11_tryMinutes_13 hk q_10 q_22 q_11 q (w2 + 1) M1 h hf
theorem fr_X11_tryMinutes {M : zx_Y} {x0 : Int32} {rM : zx_Y} {c : zx_H} {j_ : Nat} (h : g_X11_tryMinutes M x0 = some rM) (q_15 : zc c j_ ≠ 15) (q_10 : zc c j_ ≠ 10) (q_22 : zc c j_ ≠ 22) (q_11 : zc c j_ ≠ 11) : rM c j_ = M c j_ := by
  unfold g_X11_tryMinutes at h
  have hf : M c j_ = M c j_ := rfl
  obtain ⟨M1, hf, h⟩ := fr_ck h hf (fun _ => q_15)
  refine fl_X11_tryMinutes_13 (fun v1 M2 h hf => ?_) q_10 q_22 q_11 1000 0 M1 h hf
  exact fr_r0 h hf
theorem fl_X11_plan_58 {M0 : zx_Y} {x0 : Int32} {p2 : Int32} {p4 : Int32} {kk : Int32 → Int32 → zx_Y → Option (Int32 × zx_Y)} {rv : Int32} {rM : zx_Y} {c : zx_H} {j_ : Nat} (hk : ∀ (w3 : Int32) (w5 : Int32) (M : zx_Y), kk w3 w5 M = some (rv, rM) → M c j_ = M0 c j_ → rM c j_ = M0 c j_) (q_15 : zc c j_ ≠ 15) : ∀ (q : Nat) (w3 : Int32) (w5 : Int32) (M : zx_Y), lg_X11_plan_58 x0 p2 p4 kk q w3 w5 M = some (rv, rM) → M c j_ = M0 c j_ → rM c j_ = M0 c j_
  | 0, w3, w5, M, h, hf => by
    rw [lg_X11_plan_58.eq_1] at h
    cases h
  | q + 1, w3, w5, M, h, hf => by
    rw [lg_X11_plan_58.eq_2] at h
    rcases fr_br h with h | h
    · exact hk _ _ _ h hf
    · obtain ⟨v1, h⟩ := fr_cb h
      rcases fr_br h with h | h
      · obtain ⟨k1, h⟩ := fr_ix h
        obtain ⟨M1, hf, h⟩ := fr_pu h hf q_15
        exact fl_X11_plan_58 hk q_15 q (w3 + 0) (w5 + 1) M1 h hf
      · obtain ⟨v2, h⟩ := fr_cb h
        obtain ⟨k2, h⟩ := fr_ix h
        obtain ⟨M2, hf, h⟩ := fr_pu h hf q_15
        rcases fr_br h with h | h
        · exact fl_X11_plan_58 hk q_15 q (w3 + 0) (w5 + 1) M2 h hf
        · exact fl_X11_plan_58 hk q_15 q (w3 + 1) (w5 + 1) M2 h hf
theorem fl_X11_plan_43 {M0 : zx_Y} {x0 : Int32} {p2 : Int32} {kk : Int32 → Int32 → zx_Y → Option (Int32 × zx_Y)} {rv : Int32} {rM : zx_Y} {c : zx_H} {j_ : Nat} (hk : ∀ (w3 : Int32) (w4 : Int32) (M : zx_Y), kk w3 w4 M = some (rv, rM) → M c j_ = M0 c j_ → rM c j_ = M0 c j_) (q_15 : zc c j_ ≠ 15) : ∀ (q : Nat) (w3 : Int32) (w4 : Int32) (M : zx_Y), lg_X11_plan_43 x0 p2 kk q w3 w4 M = some (rv, rM) → M c j_ = M0 c j_ → rM c j_ = M0 c j_
  | 0, w3, w4, M, h, hf => by
    rw [lg_X11_plan_43.eq_1] at h
    cases h
  | q + 1, w3, w4, M, h, hf => by
    rw [lg_X11_plan_43.eq_2] at h
    rcases fr_br h with h | h
    · exact hk _ _ _ h hf
    · refine fl_X11_plan_58 (fun v1 v2 M1 h hf => ?_) q_15 1000 w3 0 M h hf
      exact fl_X11_plan_43 hk q_15 q v1 (w4 + 1) M1 h hf
theorem fr_X11_plan {M : zx_Y} {x0 : Int32} {rv : Int32} {rM : zx_Y} {c : zx_H} {j_ : Nat} (h : g_X11_plan M x0 = some (rv, rM)) (q_15 : zc c j_ ≠ 15) (q_10 : zc c j_ ≠ 10) (q_22 : zc c j_ ≠ 22) (q_11 : zc c j_ ≠ 11) : rM c j_ = M c j_ := by
  unfold g_X11_plan at h
  have hf : M c j_ = M c j_ := rfl
  rcases fr_br h with h | h
  · exact fr_ri h hf
  · obtain ⟨v1, h⟩ := fr_cb h
    rcases fr_br h with h | h
    · exact fr_ri h hf
    · obtain ⟨M1, hf, h⟩ := fr_cm h (fun _ hv => fr_X11_tryMinutes hv q_15 q_10 q_22 q_11) hf
      refine fl_X11_plan_43 (fun v2 v3 M2 h hf => ?_) q_15 1000 0 0 M1 h hf
      obtain ⟨M3, hf, h⟩ := fr_ck h hf (fun _ => q_10)
      obtain ⟨M4, hf, h⟩ := fr_pu h hf q_10
      obtain ⟨M5, hf, h⟩ := fr_pu h hf q_10
      exact fr_ri h hf
theorem fr_X10_ahead {M : zx_Y} {x0 : Int32} {x1 : Int32} {rv : Int32} {rM : zx_Y} {c : zx_H} {j_ : Nat} (h : g_X10_ahead M x0 x1 = some (rv, rM)) (q_100_2 : zc c j_ ≠ 100 + 2) (q_200_2 : zc c j_ ≠ 200 + 2) : rM c j_ = M c j_ := by
  unfold g_X10_ahead at h
  have hf : M c j_ = M c j_ := rfl
  obtain ⟨v1, h⟩ := fr_cb h
  rcases fr_br h with h | h
  · exact fr_ri h hf
  · obtain ⟨v2, h⟩ := fr_cb h
    rcases fr_br h with h | h
    · exact fr_ri h hf
    · rcases fr_br h with h | h
      · exact fr_ri h hf
      · rcases fr_br h with h | h
        · obtain ⟨M1, hf, h⟩ := fr_cm h (fun _ hv => fr_X2_copyFrom hv q_100_2) hf
          obtain ⟨M2, hf, h⟩ := fr_cm h (fun _ hv => fr_X2_advance hv q_100_2 q_200_2) hf
          rcases fr_br h with h | h
          · obtain ⟨v3, h⟩ := fr_cb h
            exact fr_ri h hf
          · rcases fr_br h with h | h
            · obtain ⟨v4, h⟩ := fr_cb h
              exact fr_ri h hf
            · rcases fr_br h with h | h
              · obtain ⟨v5, h⟩ := fr_cb h
                exact fr_ri h hf
              · obtain ⟨v6, h⟩ := fr_cb h
                rcases fr_br h with h | h
                · exact fr_ri h hf
                · exact fr_ri h hf
        · exact fr_ri h hf
theorem fl_X11_ahead_47 {M M0 : zx_Y} {x1 : Int32} {kk : Int32 → Int32 → Option (Int32 × zx_Y)} {rv : Int32} {rM : zx_Y} {c : zx_H} {j_ : Nat} (hk : ∀ (w3 : Int32) (w4 : Int32), kk w3 w4 = some (rv, rM) → rM c j_ = M0 c j_) (hf : M c j_ = M0 c j_) : ∀ (q : Nat) (w3 : Int32) (w4 : Int32), lg_X11_ahead_47 M x1 kk q w3 w4 = some (rv, rM) → rM c j_ = M0 c j_
  | 0, w3, w4, h => by
    rw [lg_X11_ahead_47.eq_1] at h
    cases h
  | q + 1, w3, w4, h => by
    rw [lg_X11_ahead_47.eq_2] at h
    rcases fr_br h with h | h
    · exact hk _ _ h
    · obtain ⟨v1, h⟩ := fr_cb h
      exact fl_X11_ahead_47 hk hf q (w3 + v1) (w4 + 1) h
theorem fr_X11_ahead {M : zx_Y} {x0 : Int32} {x1 : Int32} {rv : Int32} {rM : zx_Y} {c : zx_H} {j_ : Nat} (h : g_X11_ahead M x0 x1 = some (rv, rM)) (q_15 : zc c j_ ≠ 15) (q_10 : zc c j_ ≠ 10) (q_22 : zc c j_ ≠ 22) (q_11 : zc c j_ ≠ 11) : rM c j_ = M c j_ := by
  unfold g_X11_ahead at h
  have hf : M c j_ = M c j_ := rfl
  rcases fr_br h with h | h
  · exact fr_ri h hf
  · obtain ⟨v1, h⟩ := fr_cb h
    rcases fr_br h with h | h
    · exact fr_ri h hf
    · obtain ⟨v2, h⟩ := fr_cb h
      rcases fr_br h with h | h
      · exact fr_ri h hf
      · obtain ⟨M1, hf, h⟩ := fr_cm h (fun _ hv => fr_X11_tryMinutes hv q_15 q_10 q_22 q_11) hf
        refine fl_X11_ahead_47 (fun v3 v4 h => ?_) hf 1000 0 0  h
        rcases fr_br h with h | h
        · obtain ⟨v5, h⟩ := fr_cb h
          obtain ⟨M2, hf, h⟩ := fr_ck h hf (fun _ => q_10)
          exact fr_ri h hf
        · rcases fr_br h with h | h
          · obtain ⟨v6, h⟩ := fr_cb h
            obtain ⟨M3, hf, h⟩ := fr_ck h hf (fun _ => q_10)
            exact fr_ri h hf
          · rcases fr_br h with h | h
            · obtain ⟨M4, hf, h⟩ := fr_ck h hf (fun _ => q_10)
              exact fr_ri h hf
            · obtain ⟨v7, h⟩ := fr_cb h
              rcases fr_br h with h | h
              · obtain ⟨M5, hf, h⟩ := fr_ck h hf (fun _ => q_10)
                exact fr_ri h hf
              · obtain ⟨M6, hf, h⟩ := fr_ck h hf (fun _ => q_10)
                exact fr_ri h hf
theorem fr_X10_image {M : zx_Y} {rv : Int32} {rM : zx_Y} {c : zx_H} {j_ : Nat} (h : g_X10_image M = some (rv, rM)) (q_100_1 : zc c j_ ≠ 100 + 1) (q_5 : zc c j_ ≠ 5) : rM c j_ = M c j_ := by
  unfold g_X10_image at h
  have hf : M c j_ = M c j_ := rfl
  obtain ⟨M1, hf, h⟩ := fr_cm h (fun _ hv => fr_X2_copyFrom hv q_100_1) hf
  obtain ⟨M2, hf, h⟩ := fr_pu h hf q_5
  exact fr_ri h hf
theorem fr_X11_image {M : zx_Y} {rv : Int32} {rM : zx_Y} {c : zx_H} {j_ : Nat} (h : g_X11_image M = some (rv, rM)) (q_38 : zc c j_ ≠ 38) (q_16 : zc c j_ ≠ 16) : rM c j_ = M c j_ := by
  unfold g_X11_image at h
  have hf : M c j_ = M c j_ := rfl
  obtain ⟨M1, hf, h⟩ := fr_pu h hf q_38
  obtain ⟨M2, hf, h⟩ := fr_ck h hf (fun _ => q_16)
  exact fr_ri h hf
theorem fr_X10_undo {M : zx_Y} {rv : Int32} {rM : zx_Y} {c : zx_H} {j_ : Nat} (h : g_X10_undo M = some (rv, rM)) (q_100_0 : zc c j_ ≠ 100 + 0) (q_4 : zc c j_ ≠ 4) : rM c j_ = M c j_ := by
  unfold g_X10_undo at h
  have hf : M c j_ = M c j_ := rfl
  rcases fr_br h with h | h
  · exact fr_ri h hf
  · obtain ⟨M1, hf, h⟩ := fr_cm h (fun _ hv => fr_X2_copyFrom hv q_100_0) hf
    obtain ⟨M2, hf, h⟩ := fr_pu h hf q_4
    exact fr_ri h hf
theorem fr_X11_undo {M : zx_Y} {rv : Int32} {rM : zx_Y} {c : zx_H} {j_ : Nat} (h : g_X11_undo M = some (rv, rM)) (q_10 : zc c j_ ≠ 10) : rM c j_ = M c j_ := by
  unfold g_X11_undo at h
  have hf : M c j_ = M c j_ := rfl
  rcases fr_br h with h | h
  · exact fr_ri h hf
  · obtain ⟨M1, hf, h⟩ := fr_ck h hf (fun _ => q_10)
    obtain ⟨M2, hf, h⟩ := fr_pu h hf q_10
    obtain ⟨M3, hf, h⟩ := fr_pu h hf q_10
    exact fr_ri h hf
