/-! PUBLIC METHODS, both sides: house, houseOf, event, go -/
theorem lit_add (a k : Nat) : (nI a : Int32) + nI k = nI (a + k) := nI_add a k
theorem S_event (a b : Int32) : Same 54 134 [xv_i a, xv_i b] := by
  intro u h
  by_cases c : bd a 5
  · by_cases e : bd b 599
    · obtain ⟨k, hk, rfl⟩ := bd_nI (n := 5) (by decide) c
      refine S_put h 3 k (17 + k) (w := b) (r := xv_i (u.1 9 1 (17 + k))) (vw_3 h.1 (by omega) b) (inv_upd h.2.1 (by omega) (by omega) ((okb_17 (by omega) _).mpr e)) ?_ ?_
      · rw [xe_X3_event]
        have hin : xm_in 1 3 (nI k) := v_in (i := 1) rfl (n := 6) rfl (by omega) (by decide)
        refine xbi (x_within _ _ _ _) (xn (bI_ne c) (xbi (x_within _ _ _ _) (xg (bI_ne e) (xg rfl (xg rfl (xg hin ?_))))))
        rw [nI_clamp (by omega), h.1.2.2.1 k (by omega)]
        exact xlt (xg rfl (xg rfl (xg hin rfl)))
      · rw [xe_X4_event]
        refine xbi (m_inb _ _ 0 5 rfl rfl) (xn (bI_ne c) (xbi (m_isEvent _ _) (xn (bI_ne e) (xg rfl ?_))))
        rw [show (17 : Int32) = nI 17 from rfl, nI_add]
        refine xbi (m_becomes _ (by omega) _) ?_
        rw [us_obj (i := 1) _ (by decide)]
    · refine S_fail h 0 (r := xv_i (-1000001)) ?_ ?_
      · rw [xe_X3_event]
        exact xbi (x_within _ _ _ _) (xn (bI_ne c) (xbi (x_within _ _ _ _) (xn (bI_nn e) (xg rfl (xbi (x_f0 _) rfl)))))
      · rw [xe_X4_event]
        exact xbi (m_inb _ _ 0 5 rfl rfl) (xn (bI_ne c) (xbi (m_isEvent _ _) (xg (bI_f e) (xg rfl (xbi (m_f0 _) rfl)))))
  · refine S_fail h 0 (r := xv_i (-1000001)) ?_ ?_
    · rw [xe_X3_event]
      exact xbi (x_within _ _ _ _) (xg (bI_f c) (xg rfl (xbi (x_f0 _) rfl)))
    · rw [xe_X4_event]
      exact xbi (m_inb _ _ 0 5 rfl rfl) (xg (bI_f c) (xg rfl (xbi (m_f0 _) rfl)))
theorem S_houseOf (a b : Int32) : Same 53 133 [xv_i a, xv_i b] := by
  intro u h
  by_cases c : bd a 5
  · by_cases e : bd b 2
    · obtain ⟨k, hk, rfl⟩ := bd_nI (n := 5) (by decide) c
      have hin1 : xm_in 1 1 (nI k) := v_in (i := 1) rfl (n := 6) rfl (by omega) (by decide)
      have hin2 : xm_in 1 2 (nI k) := v_in (i := 1) rfl (n := 6) rfl (by omega) (by decide)
      by_cases b0 : b = 0
      · refine S_read h (r := xv_i (u.1 9 1 (5 + k))) ?_ ?_
        · rw [xe_X3_houseOf]
          refine xbi (x_isHouse _ _) (xn (bI_ne c) (xbi (x_within _ _ _ _) (xg (bI_ne e) (xn (fun z => z b0) (xg rfl (xg rfl (xg hin1 ?_)))))))
          rw [nI_clamp (by omega), h.1.1 k (by omega)]
        · rw [xe_X4_houseOf]
          refine xbi (m_isHouse _ _) (xn (bI_ne c) (xbi (m_inb _ _ 0 2 rfl rfl) (xg (bI_ne e) (xn (fun z => z b0) (xg rfl ?_)))))
          rw [show (5 : Int32) = nI 5 from rfl, nI_add, nI_clamp (by omega)]
          exact xg (in9n (by omega)) rfl
      · by_cases b1 : b = 1
        · refine S_read h (r := xv_i (u.1 9 1 (11 + k))) ?_ ?_
          · rw [xe_X3_houseOf]
            refine xbi (x_isHouse _ _) (xn (bI_ne c) (xbi (x_within _ _ _ _) (xg (bI_ne e) (xg b0 (xn (fun z => z b1) (xg rfl (xg rfl (xg hin2 ?_))))))))
            rw [nI_clamp (by omega), h.1.2.1 k (by omega)]
          · rw [xe_X4_houseOf]
            refine xbi (m_isHouse _ _) (xn (bI_ne c) (xbi (m_inb _ _ 0 2 rfl rfl) (xg (bI_ne e) (xg b0 (xn (fun z => z b1) (xg rfl ?_))))))
            rw [show (11 : Int32) = nI 11 from rfl, nI_add, nI_clamp (by omega)]
            exact xg (in9n (by omega)) rfl
        · obtain ⟨h8, hN⟩ := inv_nN h.2.1
          refine S_read h (r := xv_i (inside (u.1 9 1) (nI k))) ?_ ?_
          · rw [xe_X3_houseOf]
            exact xbi (x_isHouse _ _) (xn (bI_ne c) (xbi (x_within _ _ _ _) (xg (bI_ne e) (xg b0 (xg b1 (xg rfl (xg rfl (xbi (v_planksIn rfl h.1 h.2.1 _) rfl))))))))
          · rw [xe_X4_houseOf]
            exact xbi (m_isHouse _ _) (xn (bI_ne c) (xbi (m_inb _ _ 0 2 rfl rfl) (xg (bI_ne e) (xg b0 (xg b1 (xg rfl (xbi (m_inside _ _ hN h8) rfl)))))))
    · refine S_fail h 0 (r := xv_i (-1000001)) ?_ ?_
      · rw [xe_X3_houseOf]
        exact xbi (x_isHouse _ _) (xn (bI_ne c) (xbi (x_within _ _ _ _) (xn (bI_nn e) (xg rfl (xbi (x_f0 _) rfl)))))
      · rw [xe_X4_houseOf]
        exact xbi (m_isHouse _ _) (xn (bI_ne c) (xbi (m_inb _ _ 0 2 rfl rfl) (xn (bI_nn e) (xg rfl (xbi (m_f0 _) rfl)))))
  · refine S_fail h 0 (r := xv_i (-1000001)) ?_ ?_
    · rw [xe_X3_houseOf]
      exact xbi (x_isHouse _ _) (xg (bI_f c) (xg rfl (xbi (x_f0 _) rfl)))
    · rw [xe_X4_houseOf]
      exact xbi (m_isHouse _ _) (xg (bI_f c) (xg rfl (xbi (m_f0 _) rfl)))
theorem S_val {x y : Nat} {a : List xm_V} {u : xm_U} (h : Rel u) {u1 : xm_U} {d' : Nat → Int32} {r : xm_V} (ho : oth u u1 1) (hv : vd u1 1 d') (hd : inv d') (h1 : xm_C x (xv_r 0 0 :: a) u = some (some r, u1)) (h2 : xm_C y (xv_r 9 0 :: a) u1 = some (some r, dU u1 d')) : ∃ r u1 u2, xm_C x (xv_r 0 0 :: a) u = some (some r, u1) ∧ xm_C y (xv_r 9 0 :: a) u1 = some (some r, u2) ∧ Rel u2 := ⟨_, _, _, h1, h2, Rel_v h ho hv hd⟩
theorem S_go (a : Int32) : Same 60 142 [xv_i a] := by
  intro u h
  by_cases c : 1 ≤ a ∧ a ≤ 60
  · by_cases e : u.1 9 1 1 + a ≤ 99999
    · obtain ⟨n, hn, rfl⟩ := bd_nI (x := a) (n := 60) (by decide) ⟨by have := c.1; rw [il_le] at this ⊢; rw [show (1 : Int32).toInt = 1 from rfl] at this; rw [show (0 : Int32).toInt = 0 from rfl]; omega, c.2⟩
      obtain ⟨u1, q1, q2, q3⟩ := v_passYears (i := 1) rfl h.1 h.2.1 (n := n) (by omega)
      refine S_val h (r := xv_i (yearsG (u.1 9 1) n 3)) q3 q2 (inv_yearsG h.2.1 n) ?_ ?_
      · rw [xe_X3_go]
        refine xbi (x_within _ _ _ _) (xg (bI_ne c) (xg rfl (xg rfl ?_)))
        rw [h.1.2.2.2.1.2.2.1]
        refine xg e (xg rfl (xg rfl (xbv q1 (xg rfl (xg rfl ?_)))))
        rw [q2.2.2.2.1.2.1]
      · rw [xe_X4_go]
        have e9 : u1.1 9 1 = u.1 9 1 := by rw [q3.1 9 (by decide)]
        have hy := m_yearsGo u1 (u.1 9 1) h.2.1 (n := n) (by omega)
        rw [← e9, dU_self] at hy
        refine xbi (m_inb _ _ 1 60 rfl rfl) (xg (bI_ne c) (xg rfl (xg in9_1 ?_)))
        rw [e9]
        refine xg e (xg rfl (xbv hy (xg rfl (xg in9_3 ?_))))
        rw [dU_d, e9]
    · refine S_fail h 4 (r := xv_i (-1000005)) ?_ ?_
      · rw [xe_X3_go]
        refine xbi (x_within _ _ _ _) (xg (bI_ne c) (xg rfl (xg rfl ?_)))
        rw [h.1.2.2.2.1.2.2.1]
        exact xn e (xg rfl (xbi (x_f4 _) rfl))
      · rw [xe_X4_go]
        refine xbi (m_inb _ _ 1 60 rfl rfl) (xg (bI_ne c) (xg rfl (xg in9_1 ?_)))
        rw [us_obj (i := 0) (i' := 9) _ (by decide)]
        exact xn e (xg rfl (xbi (m_f4 _) (by rw [us_obj (i := 0) (i' := 9) _ (by decide)])))
  · refine S_fail h 0 (r := xv_i (-1000001)) ?_ ?_
    · rw [xe_X3_go]
      exact xbi (x_within _ _ _ _) (xn (bI_nn c) (xg rfl (xbi (x_f0 _) rfl)))
    · rw [xe_X4_go]
      exact xbi (m_inb _ _ 1 60 rfl rfl) (xn (bI_nn c) (xg rfl (xbi (m_f0 _) rfl)))
