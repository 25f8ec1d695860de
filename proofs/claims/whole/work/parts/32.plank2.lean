/-! plank, both sides -/
def addN (d : Nat → Int32) (N : Nat) (a1 a2 a3 a4 : Int32) : Nat → Int32 := upd (upd (upd (upd (upd (upd (upd (upd d (23 + N) a1) (31 + N) a2) (39 + N) a3) (47 + N) a4) (55 + N) 0) (63 + N) 0) (71 + N) 0) 0 (nI (N + 1))
theorem v_addPlank {u : xm_U} {i : Nat} {d : Nat → Int32} (hc : xm_cls i = 2) (hv : vd u i d) {N : Nat} (hN : d 0 = nI N) (h8 : N < 8) (a1 a2 a3 a4 : Int32) : ∃ u', xm_C 21 [xv_r i 0, xv_i a1, xv_i a2, xv_i a3, xv_i a4] u = some (some (xv_i (nI N)), u') ∧ vd u' i (addN d N a1 a2 a3 a4) ∧ oth u u' i := by
  have w1 := vw_9 hv h8 a1
  have w2 := vw_10 w1 h8 a2
  have w3 := vw_11 w2 h8 a3
  have w4 := vw_12 w3 h8 a4
  have w5 := vw_13 w4 h8 0
  have w6 := vw_14 w5 h8 0
  have w7 := vw_15 w6 h8 0
  have e := w7.2.2.2.1.2.2.2.2
  rw [upd_ne (by omega), upd_ne (by omega), upd_ne (by omega), upd_ne (by omega), upd_ne (by omega), upd_ne (by omega), upd_ne (by omega), hN] at e
  refine ⟨_, ?_, vw_f7 w7 (nI (N + 1)), oth_tr (oth_tr (oth_tr (oth_tr (oth_tr (oth_tr (oth_tr (oth_us _ _ _ _ _) (oth_us _ _ _ _ _)) (oth_us _ _ _ _ _)) (oth_us _ _ _ _ _)) (oth_us _ _ _ _ _)) (oth_us _ _ _ _ _)) (oth_us _ _ _ _ _)) (oth_us _ _ _ _ _)⟩
  rw [xe_X2_addPlank, hv.2.2.2.1.2.2.2.2, hN]
  refine xg hc (xg (nI_lt (b := 8) h8 (by decide)) (xg hc (xlt ?_)))
  rw [nI_clamp (by omega)]
  refine xg hc (xg (v_in hc (n := 8) rfl h8 (by decide)) (xlt (xg hc (xg (v_in hc (n := 8) rfl h8 (by decide)) (xlt (xg hc (xg (v_in hc (n := 8) rfl h8 (by decide)) (xlt (xg hc (xg (v_in hc (n := 8) rfl h8 (by decide)) (xlt (xg hc (xg (v_in hc (n := 8) rfl h8 (by decide)) (xlt (xg hc (xg (v_in hc (n := 8) rfl h8 (by decide)) (xlt (xg hc (xg (v_in hc (n := 8) rfl h8 (by decide)) (xlt (xg hc (xg hc (xlt ?_)))))))))))))))))))))))
  rw [e, nI_1]
theorem inv_up0 {d : Nat → Int32} (h : inv d) {N : Nat} (hN : d 0 = nI N) (h8 : N < 8) : inv (upd d 0 (nI (N + 1))) := by
  refine ⟨?_, fun j h1 h2 => ?_, fun s hs => ?_⟩
  · rw [upd_eq]
    exact bd_of (n := 8) (by omega) (by decide)
  · rw [upd_ne (by omega)]
    exact h.2.1 j h1 h2
  · rw [upd_eq, upd_ne (by omega)]
    have := h.2.2 s hs
    rw [hN] at this
    exact ⟨this.1, Int32.le_trans this.2 (nI_le (by omega) (by omega))⟩
theorem inv_addN {d : Nat → Int32} (h : inv d) {N : Nat} (hN : d 0 = nI N) (h8 : N < 8) {a1 a2 a3 a4 : Int32} (b1 : bd a1 6) (b2 : bd a2 5) (b3 : bd a3 999) (b4 : bd a4 99) : inv (addN d N a1 a2 a3 a4) := by
  have z : ∀ n : Nat, n < 2 ^ 31 → bd 0 (nI n) := fun n hn => bd_of (k := 0) (by omega) hn
  have i1 := inv_upd h (j := 23 + N) (by omega) (by omega) ((okb_23 h8 _).mpr b1)
  have i2 := inv_upd i1 (j := 31 + N) (by omega) (by omega) ((okb_31 h8 _).mpr b2)
  have i3 := inv_upd i2 (j := 39 + N) (by omega) (by omega) ((okb_39 h8 _).mpr b3)
  have i4 := inv_upd i3 (j := 47 + N) (by omega) (by omega) ((okb_47 h8 _).mpr b4)
  have i5 := inv_upd i4 (j := 55 + N) (by omega) (by omega) ((okb_55 h8 _).mpr (z 9 (by decide)))
  have i6 := inv_upd i5 (j := 63 + N) (by omega) (by omega) ((okb_63 h8 _).mpr (z 9999 (by decide)))
  have i7 := inv_upd i6 (j := 71 + N) (by omega) (by omega) ((okb_71 h8 _).mpr (z 9999 (by decide)))
  refine inv_up0 i7 ?_ h8
  rw [upd_ne (by omega), upd_ne (by omega), upd_ne (by omega), upd_ne (by omega), upd_ne (by omega), upd_ne (by omega), upd_ne (by omega), hN]
theorem come_add (d : Nat → Int32) (N : Nat) (h8 : N < 8) (a b : Int32) : comeN d N a b = addN d N a b 0 0 := by
  funext j
  show upd (upd (upd (upd (upd (upd (upd (upd (upd (upd d (23 + 8 * 0 + N) 0) (23 + 8 * 1 + N) 0) (23 + 8 * 2 + N) 0) (23 + 8 * 3 + N) 0) (23 + 8 * 4 + N) 0) (23 + 8 * 5 + N) 0) (23 + 8 * 6 + N) 0) (23 + N) a) (31 + N) b) 0 (nI (N + 1)) j = upd (upd (upd (upd (upd (upd (upd (upd d (23 + N) a) (31 + N) b) (39 + N) 0) (47 + N) 0) (55 + N) 0) (63 + N) 0) (71 + N) 0) 0 (nI (N + 1)) j
  by_cases h0 : j = 0
  · subst h0; simp [upd]
  by_cases h1 : j = 23 + N
  · subst h1; simp [upd]
  by_cases h2 : j = 31 + N
  · subst h2; simp [upd]
  by_cases h3 : j = 71 + N
  · subst h3; simp [upd]
  by_cases h4 : j = 63 + N
  · subst h4; simp [upd]
  by_cases h5 : j = 55 + N
  · subst h5; simp [upd]
  by_cases h6 : j = 47 + N
  · subst h6; simp [upd]
  by_cases h7 : j = 39 + N
  · subst h7; simp [upd]
  simp [upd, h0, h1, h2, h3, h4, h5, h6, h7]
theorem S_plank (a b : Int32) : Same 57 138 [xv_i a, xv_i b] := by
  intro u h
  have hv := h.1
  have hd := h.2.1
  obtain ⟨h8, hN⟩ := inv_nN hd
  by_cases K : bd a 6
  · by_cases H : bd b 5
    · by_cases F : nN (u.1 9 1) < 8
      · obtain ⟨u1, q1, q2, q3⟩ := v_addPlank (i := 1) rfl hv hN F a b 0 0
        have e9 : u1.1 9 1 = u.1 9 1 := by rw [q3.1 9 (by decide)]
        refine ⟨xv_i (nI (nN (u.1 9 1))), u1, _, ?_, ?_, Rel_v h q3 q2 (inv_addN hd hN F K H (bd_of (k := 0) (n := 999) (by omega) (by decide)) (bd_of (k := 0) (n := 99) (by omega) (by decide)))⟩
        · rw [xe_X3_plank]
          refine xbi (x_within _ _ _ _) (xn (bI_ne K) (xbi (x_isHouse _ _) (xg (bI_ne H) (xg rfl (xg rfl (xg ?_ (xg rfl (xg rfl (xbi q1 rfl)))))))))
          rw [hv.2.2.2.1.2.2.2.2, hN]
          exact nI_lt (b := 8) F (by decide)
        · rw [xe_X4_plank]
          refine xbi (m_inb _ _ 0 6 rfl rfl) (xn (bI_ne K) (xbi (m_isHouse _ _) (xg (bI_ne H) (xg rfl (xg in9_0 (xg ?_ (xg rfl (xbi (m_comes u1 (by rw [e9]; exact hN) F a b) ?_))))))))
          · rw [e9, hN]
            exact nI_neq (b := 8) F (by decide)
          · rw [e9, come_add _ _ F]
      · have e8 : nN (u.1 9 1) = 8 := by omega
        rw [e8] at hN
        refine S_fail h 1 (r := xv_i (-1000002)) ?_ ?_
        · rw [xe_X3_plank]
          refine xbi (x_within _ _ _ _) (xn (bI_ne K) (xbi (x_isHouse _ _) (xg (bI_ne H) (xg rfl (xg rfl (xn ?_ (xg rfl (xbi (x_f1 _) rfl))))))))
          rw [hv.2.2.2.1.2.2.2.2, hN]
          decide
        · rw [xe_X4_plank]
          refine xbi (m_inb _ _ 0 6 rfl rfl) (xn (bI_ne K) (xbi (m_isHouse _ _) (xg (bI_ne H) (xg rfl (xg in9_0 (xn ?_ (xg rfl (xbi (m_f1 _) rfl))))))))
          rw [us_obj (i := 0) _ (by decide), hN]
          exact fun q => q rfl
    · refine S_fail h 0 (r := xv_i (-1000001)) ?_ ?_
      · rw [xe_X3_plank]
        exact xbi (x_within _ _ _ _) (xn (bI_ne K) (xbi (x_isHouse _ _) (xn (bI_nn H) (xg rfl (xbi (x_f0 _) rfl)))))
      · rw [xe_X4_plank]
        exact xbi (m_inb _ _ 0 6 rfl rfl) (xn (bI_ne K) (xbi (m_isHouse _ _) (xn (bI_nn H) (xg rfl (xbi (m_f0 _) rfl)))))
  · refine S_fail h 0 (r := xv_i (-1000001)) ?_ ?_
    · rw [xe_X3_plank]
      exact xbi (x_within _ _ _ _) (xg (bI_f K) (xg rfl (xbi (x_f0 _) rfl)))
    · rw [xe_X4_plank]
      exact xbi (m_inb _ _ 0 6 rfl rfl) (xg (bI_f K) (xg rfl (xbi (m_f0 _) rfl)))
