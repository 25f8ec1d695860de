/-! now -/
theorem il_pos_nle {a : Int32} (h : 2 ≤ a) : ¬ a ≤ 0 := fun q => absurd (Int32.le_trans h q) (by decide)
theorem S_now (a : Int32) : Same 61 144 [xv_i a] := by
  intro u h
  have hv := h.1
  have hd := h.2.1
  have h4 := ((okb_4 _).mp (hd.2.1 4 (by decide) (by decide))).1
  by_cases c0 : a = 0
  · refine S_read h (r := xv_i (u.1 9 1 1)) ?_ ?_
    · rw [xe_X3_now, hv.2.2.2.1.2.2.1]
      exact xg c0 (xg rfl (xg rfl rfl))
    · rw [xe_X4_now]
      exact xg c0 (xg rfl (xg (in9n (k := 1) (by decide)) rfl))
  by_cases c1 : a = 1
  · refine S_read h (r := xv_i (u.1 9 1 3)) ?_ ?_
    · rw [xe_X3_now, hv.2.2.2.1.2.1]
      exact xn c0 (xg c1 (xg rfl (xg rfl rfl)))
    · rw [xe_X4_now]
      exact xn c0 (xg c1 (xg rfl (xg (in9n (k := 3) (by decide)) rfl)))
  by_cases c2 : a = 2
  · refine S_read h (r := xv_i (ringN (u.1 9 1) (nN (u.1 9 1)))) ?_ ?_
    · rw [xe_X3_now]
      exact xn c0 (xn c1 (xg c2 (xg rfl (xg rfl (xbi (v_ringing rfl hv hd) rfl)))))
    · rw [xe_X4_now]
      exact xn c0 (xn c1 (xg c2 (xg rfl (xbi (m_ringing u hd) rfl))))
  by_cases c3 : a = 3
  · refine S_read h (r := xv_i (sumN (u.1 9 1) (23 + 8 * 2) (nN (u.1 9 1)))) ?_ ?_
    · rw [xe_X3_now]
      exact xn c0 (xn c1 (xn c2 (xg c3 (xg rfl (xg rfl (xg rfl (xg rfl (xbi (v_sumOf rfl hv hd rfl (fun k hk => (hv.2.2.2.2.1 k hk).2.2.1)) rfl))))))))
    · rw [xe_X4_now]
      exact xn c0 (xn c1 (xn c2 (xg c3 (xg rfl (xbi (m_sumOf u hd (w := 2) (by decide)) rfl)))))
  by_cases c4 : a = 4
  · refine S_read h (r := xv_i (sumN (u.1 9 1) (23 + 8 * 4) (nN (u.1 9 1)))) ?_ ?_
    · rw [xe_X3_now]
      exact xn c0 (xn c1 (xn c2 (xn c3 (xg c4 (xg rfl (xg rfl (xg rfl (xg rfl (xbi (v_sumOf rfl hv hd rfl (fun k hk => (hv.2.2.2.2.1 k hk).2.2.2.2.1)) rfl)))))))))
    · rw [xe_X4_now]
      exact xn c0 (xn c1 (xn c2 (xn c3 (xg c4 (xg rfl (xbi (m_sumOf u hd (w := 4) (by decide)) rfl))))))
  by_cases c5 : a = 5
  · refine S_read h (r := xv_i (dearI (u.1 9 1) (nN (u.1 9 1)))) ?_ ?_
    · rw [xe_X3_now]
      exact xn c0 (xn c1 (xn c2 (xn c3 (xn c4 (xg c5 (xg rfl (xg rfl (xbi (v_dearest rfl hv hd) rfl))))))))
    · rw [xe_X4_now]
      exact xn c0 (xn c1 (xn c2 (xn c3 (xn c4 (xg c5 (xg rfl (xbi (m_dearest u hd) rfl)))))))
  by_cases c6 : a = 6
  · refine S_read h (r := xv_i (sumN (u.1 9 1) (23 + 8 * 6) (nN (u.1 9 1)))) ?_ ?_
    · rw [xe_X3_now]
      exact xn c0 (xn c1 (xn c2 (xn c3 (xn c4 (xn c5 (xg c6 (xg rfl (xg rfl (xg rfl (xg rfl (xbi (v_sumOf rfl hv hd rfl (fun k hk => (hv.2.2.2.2.1 k hk).2.2.2.2.2.2)) rfl)))))))))))
    · rw [xe_X4_now]
      exact xn c0 (xn c1 (xn c2 (xn c3 (xn c4 (xn c5 (xg c6 (xg rfl (xbi (m_sumOf u hd (w := 6) (by decide)) rfl))))))))
  by_cases c7 : a = 7
  · by_cases e : u.1 9 1 1 - u.1 9 1 1 / u.1 9 1 4 * u.1 9 1 4 = 0
    · refine S_read h (r := xv_i 1) ?_ ?_
      · have q : xm_C 35 [xv_r 1 0] u = some (some (xv_i 1), u) := by
          rw [xe_X2_makersCome, hv.2.2.2.1.1, hv.2.2.2.1.2.2.1]
          exact xg rfl (xn (il_pos_nle h4) (xg rfl (xg rfl (xg (inv_4 hd) (xn (fun z => z e) (xg nb1 rfl))))))
        rw [xe_X3_now]
        exact xn c0 (xn c1 (xn c2 (xn c3 (xn c4 (xn c5 (xn c6 (xg c7 (xg rfl (xg rfl (xbi q (xn (by decide) rfl)))))))))))
      · rw [xe_X4_now]
        exact xn c0 (xn c1 (xn c2 (xn c3 (xn c4 (xn c5 (xn c6 (xg c7 (xg rfl (xg (in9n (k := 1) (by decide)) (xg rfl (xg (in9n (k := 4) (by decide)) (xg (inv_4 hd) (xn (fun z => z e) rfl)))))))))))))
    · refine S_read h (r := xv_i 0) ?_ ?_
      · have q : xm_C 35 [xv_r 1 0] u = some (some (xv_i 0), u) := by
          rw [xe_X2_makersCome, hv.2.2.2.1.1, hv.2.2.2.1.2.2.1]
          exact xg rfl (xn (il_pos_nle h4) (xg rfl (xg rfl (xg (inv_4 hd) (xg e (xg nb0 rfl))))))
        rw [xe_X3_now]
        exact xn c0 (xn c1 (xn c2 (xn c3 (xn c4 (xn c5 (xn c6 (xg c7 (xg rfl (xg rfl (xbi q (xg rfl rfl)))))))))))
      · rw [xe_X4_now]
        exact xn c0 (xn c1 (xn c2 (xn c3 (xn c4 (xn c5 (xn c6 (xg c7 (xg rfl (xg (in9n (k := 1) (by decide)) (xg rfl (xg (in9n (k := 4) (by decide)) (xg (inv_4 hd) (xg e rfl)))))))))))))
  · refine S_fail h 0 (r := xv_i (-1000001)) ?_ ?_
    · rw [xe_X3_now]
      exact xn c0 (xn c1 (xn c2 (xn c3 (xn c4 (xn c5 (xn c6 (xn c7 (xg rfl (xbi (x_f0 _) rfl)))))))))
    · rw [xe_X4_now]
      exact xn c0 (xn c1 (xn c2 (xn c3 (xn c4 (xn c5 (xn c6 (xn c7 (xg rfl (xbi (m_f0 _) rfl)))))))))
