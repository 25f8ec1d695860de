/-! the reference's year, whole; years -/
theorem inv_nN {d : Nat → Int32} (h : inv d) : nN d ≤ 8 ∧ d 0 = nI (nN d) := by
  obtain ⟨N, h8, e⟩ := inv_N h
  unfold nN
  rw [e, nI_clamp (by omega)]
  exact ⟨h8, rfl⟩
theorem inv_Y {d : Nat → Int32} (h : inv d) : ∃ y, y ≤ 99999 ∧ d 1 = nI y := bd_nI (n := 99999) (by decide) ((okb_1 _).mp (h.2.1 1 (by decide) (by decide)))
theorem inv_L {d : Nat → Int32} (h : inv d) {j : Nat} (hj : j < 6) : ∃ e, e ≤ 599 ∧ d (17 + j) = nI e := bd_nI (n := 599) (by decide) ((okb_17 hj _).mp (h.2.1 (17 + j) (by omega) (by omega)))
/-- the event: which place of the list, which house, which mood -/
theorem evt_at {d : Nat → Int32} (h : inv d) : ∃ j e, j < 6 ∧ e ≤ 599 ∧ d 1 - d 1 / 6 * 6 = nI j ∧ 17 + (d 1 - d 1 / 6 * 6) = nI (17 + j) ∧ d (17 + j) = nI e ∧ evt d = nI e ∧ evt d / 100 = nI (e / 100) ∧ 11 + evt d / 100 = nI (11 + e / 100) ∧ evt d - evt d / 100 * 100 = nI (e % 100) := by
  obtain ⟨y, hy, ey⟩ := inv_Y h
  have h1 : d 1 - d 1 / 6 * 6 = nI (y % 6) := by rw [ey]; exact pk_rem (d := 6) (by omega) (by decide) (by decide)
  have hj : y % 6 < 6 := Nat.mod_lt _ (by decide)
  obtain ⟨e, he, ee⟩ := inv_L h hj
  have h2 : 17 + (d 1 - d 1 / 6 * 6) = nI (17 + y % 6) := by rw [h1]; exact nI_add 17 _
  have h3 : evt d = nI e := by
    unfold evt
    rw [h2, nI_clamp (by omega), ee]
  have h4 : evt d / 100 = nI (e / 100) := by rw [h3]; exact pk_div (d := 100) (by omega) (by decide) (by decide)
  refine ⟨y % 6, e, hj, he, h1, h2, ee, h3, h4, ?_, ?_⟩
  · rw [h4]; exact nI_add 11 _
  · rw [h3]; exact pk_rem (d := 100) (by omega) (by decide) (by decide)
theorem event_at {d : Nat → Int32} (h : inv d) : ∃ j e, j < 6 ∧ e ≤ 599 ∧ d (17 + j) = nI e ∧ event d = upd d (11 + e / 100) (nI (e % 100)) := by
  obtain ⟨j, e, hj, he, -, -, e3, -, -, e6, e7⟩ := evt_at h
  refine ⟨j, e, hj, he, e3, ?_⟩
  unfold event
  rw [e6, e7, nI_clamp (by omega)]
theorem inv_event {d : Nat → Int32} (h : inv d) : inv (event d) := by
  obtain ⟨j, e, hj, he, -, ev⟩ := event_at h
  rw [ev]
  refine inv_upd h (by omega) (by omega) ((okb_11 (h := e / 100) (by omega) _).mpr ?_)
  exact bd_of (n := 99) (by omega) (by decide)
theorem event_low {d : Nat → Int32} (h : inv d) {j : Nat} (hj : j < 11) : event d j = d j := by
  obtain ⟨j', e, hj', he, -, ev⟩ := event_at h
  rw [ev, upd_ne (by omega)]
theorem inv_yearB {d : Nat → Int32} (h : inv d) : inv (yearB d) := by
  unfold yearB
  split
  · exact inv_offerN h _ (inv_nN h).1
  · exact h
theorem inv_yearG {d : Nat → Int32} (h : inv d) : inv (yearG d) := by
  unfold yearG
  exact inv_upd (inv_yearB (inv_growN (inv_event h) _ (inv_nN h).1)) (by decide) (by decide) ((okb_1 _).mpr (held_bd _ _ (by decide)))
theorem inv_yearsG {d : Nat → Int32} (h : inv d) : ∀ n, inv (yearsG d n)
  | 0 => h
  | n + 1 => inv_yearG (inv_yearsG h n)
theorem m_yearGoes' (u : xm_U) (d : Nat → Int32) (h : inv d) : xm_C 128 [xv_r 9 0] (dU u d) = some (none, dU u (yearG d)) := by
  rw [xe_X4_yearGoes]
  obtain ⟨j, e, hj, he, e1, e2, e3, e4, e5, e6, e7⟩ := evt_at h
  obtain ⟨h8, hN⟩ := inv_nN h
  have hev := inv_event h
  have hN1 : event d 0 = nI (nN d) := by rw [event_low h (by decide), hN]
  have hg := inv_growN hev (nN d) h8
  rw [dU_d]
  refine xg rfl (xg rfl (xg in9_1 (xg ne6 (xg (by rw [e2]; exact in9n (by omega)) (xlt (xg rfl (xg ne100 (xg ne100 (xg ?_ (xlt ?_))))))))))
  · show xm_in 9 1 (11 + evt d / 100)
    rw [e6]
    exact in9n (by omega)
  · rw [dU_us]
    refine m_year_grow u _ h8 (event d) hev hN1 _ ?_ (nN d) 0 (by omega)
    generalize hd2 : growN (event d) (nN d) = d2 at hg
    have h20 : d2 0 = nI (nN d) := by rw [← hd2, growN_low (by decide), hN1]
    have hn2 : nN d2 = nN d := by rw [show nN d2 = (d2 0).toNatClampNeg from rfl, h20, nI_clamp (by omega)]
    have hY : yearG d = upd (yearB d2) 1 (held (yearB d2 1 + 1) 0 99999) := by unfold yearG; rw [hd2]
    rw [hY]
    unfold yearB
    by_cases hm : d2 1 - d2 1 / d2 4 * d2 4 = 0
    · rw [if_pos hm, hn2]
      exact m_year_offer u _ h8 d2 hg h20 hm (nN d) 0 (by omega)
    · rw [if_neg hm, xe_X4_yearGoes_71]
      refine xg rfl (xg in9_0 ?_)
      by_cases h0 : (dU u d2).1 9 1 0 ≤ 0
      · exact xg h0 (m_year_end u d2)
      · refine xn h0 (xg rfl (xg in9_1 (xg rfl (xg in9_4 (xg ?_ (xg ?_ (m_year_end u d2)))))))
        · rw [dU_d]; exact inv_4 hg
        · rw [dU_d]; exact hm
theorem m_yearGoes (u : xm_U) (h : inv (u.1 9 1)) : xm_C 128 [xv_r 9 0] u = some (none, dU u (yearG (u.1 9 1))) := by
  have := m_yearGoes' u (u.1 9 1) h
  rw [dU_self] at this
  exact this
theorem m_yearsGo_loop (u : xm_U) (d : Nat → Int32) (h : inv d) (n : Nat) (hn : n < 2 ^ 31) : ∀ (m k : Nat), k + m = n → xm_E 129 (xc_X4_yearsGo.drop 2, [some (xv_r 9 0), some (xv_i (nI n)), some (xv_i (nI k))], [], dU u (yearsG d k)) = some (none, dU u (yearsG d n)) := by
  intro m
  induction m with
  | zero =>
    intro k hk
    have : k = n := by omega
    subst this
    rw [xe_X4_yearsGo_2]
    exact xg (nI_le (Nat.le_refl _) hn) rfl
  | succ m ih =>
    intro k hk
    rw [xe_X4_yearsGo_2]
    refine xn (nI_ge (by omega) hn) (xg rfl (xbv (m_yearGoes' u _ (inv_yearsG h k)) ?_))
    rw [nI_1]
    exact ih (k + 1) (by omega)
theorem m_yearsGo (u : xm_U) (d : Nat → Int32) (h : inv d) {n : Nat} (hn : n < 2 ^ 31) : xm_C 129 [xv_r 9 0, xv_i (nI n)] (dU u d) = some (none, dU u (yearsG d n)) := by
  rw [xe_X4_yearsGo]
  exact m_yearsGo_loop u d h n hn n 0 (by omega)
