/-! house, change -/
theorem S_house (a b c : Int32) : Same 52 132 [xv_i a, xv_i b, xv_i c] := by
  intro u h
  have hv := h.1
  have hd := h.2.1
  by_cases H : bd a 5
  · by_cases b0 : b = 0
    · subst b0
      have B : bd (0 : Int32) 1 := ⟨by decide, by decide⟩
      by_cases C : bd c 9
      · obtain ⟨k, hk, rfl⟩ := bd_nI (n := 5) (by decide) H
        refine S_put h 1 k (5 + k) (w := c) (r := xv_i (u.1 9 1 (5 + k))) (vw_1 hv (by omega) c) (inv_upd hd (by omega) (by omega) ((okb_5 (by omega) _).mpr C)) ?_ ?_
        · rw [xe_X3_house]
          refine xbi (x_isHouse _ _) (xn (bI_ne H) (xbi (x_within _ _ _ _) (xn (bI_ne B) (xn (fun q => q rfl) (xbi (x_within _ _ _ _) (xg (bI_ne C) (xn (fun q => q rfl) (xg rfl (xg rfl (xg (v_in (i := 1) rfl (n := 6) rfl (by omega) (by decide)) ?_))))))))))
          rw [nI_clamp (by omega), hv.1 k (by omega)]
          exact xlt (xg (v_in (i := 1) rfl (n := 6) rfl (by omega) (by decide)) rfl)
        · rw [xe_X4_house]
          refine xbi (m_isHouse _ _) (xn (bI_ne H) (xn (fun q => q rfl) (xbi (m_inb _ _ 0 9 rfl rfl) (xg (bI_ne C) (xn (fun q => q rfl) (xg rfl ?_))))))
          rw [show (5 : Int32) = nI 5 from rfl, nI_add]
          refine xbi (m_becomes (k := 5 + k) _ (by omega) _) ?_
          rw [us_obj (i := 1) _ (by decide)]
      · refine S_fail h 0 (r := xv_i (-1000001)) ?_ ?_
        · rw [xe_X3_house]
          exact xbi (x_isHouse _ _) (xn (bI_ne H) (xbi (x_within _ _ _ _) (xn (bI_ne B) (xn (fun q => q rfl) (xbi (x_within _ _ _ _) (xn (bI_nn C) (xg rfl (xbi (x_f0 _) rfl))))))))
        · rw [xe_X4_house]
          exact xbi (m_isHouse _ _) (xn (bI_ne H) (xn (fun q => q rfl) (xbi (m_inb _ _ 0 9 rfl rfl) (xn (bI_nn C) (xg (by decide) (xg rfl (xbi (m_f0 _) rfl)))))))
    · by_cases b1 : b = 1
      · subst b1
        have B : bd (1 : Int32) 1 := ⟨by decide, by decide⟩
        by_cases C : bd c 99
        · obtain ⟨k, hk, rfl⟩ := bd_nI (n := 5) (by decide) H
          refine S_put h 2 k (11 + k) (w := c) (r := xv_i (u.1 9 1 (11 + k))) (vw_2 hv (by omega) c) (inv_upd hd (by omega) (by omega) ((okb_11 (by omega) _).mpr C)) ?_ ?_
          · rw [xe_X3_house]
            refine xbi (x_isHouse _ _) (xn (bI_ne H) (xbi (x_within _ _ _ _) (xn (bI_ne B) (xg (by decide) (xbi (x_within _ _ _ _) (xg (bI_ne C) (xg (by decide) (xg rfl (xg rfl (xg (v_in (i := 1) rfl (n := 6) rfl (by omega) (by decide)) ?_))))))))))
            rw [nI_clamp (by omega), hv.2.1 k (by omega)]
            exact xlt (xg (v_in (i := 1) rfl (n := 6) rfl (by omega) (by decide)) rfl)
          · rw [xe_X4_house]
            refine xbi (m_isHouse _ _) (xn (bI_ne H) (xg (by decide) (xn (fun q => q rfl) (xbi (m_inb _ _ 0 99 rfl rfl) (xn (bI_ne C) (xg (by decide) (xg rfl ?_)))))))
            rw [show (11 : Int32) = nI 11 from rfl, nI_add]
            refine xbi (m_becomes (k := 11 + k) _ (by omega) _) ?_
            rw [us_obj (i := 1) _ (by decide)]
        · refine S_fail h 0 (r := xv_i (-1000001)) ?_ ?_
          · rw [xe_X3_house]
            exact xbi (x_isHouse _ _) (xn (bI_ne H) (xbi (x_within _ _ _ _) (xn (bI_ne B) (xg (by decide) (xbi (x_within _ _ _ _) (xn (bI_nn C) (xg rfl (xbi (x_f0 _) rfl))))))))
          · rw [xe_X4_house]
            exact xbi (m_isHouse _ _) (xn (bI_ne H) (xg (by decide) (xn (fun q => q rfl) (xbi (m_inb _ _ 0 99 rfl rfl) (xg (bI_f C) (xg rfl (xbi (m_f0 _) rfl)))))))
      · have B : ¬ bd b 1 := by
          intro q
          obtain ⟨k, hk, rfl⟩ := bd_nI (n := 1) (by decide) q
          have : k = 0 ∨ k = 1 := by omega
          rcases this with rfl | rfl
          · exact b0 rfl
          · exact b1 rfl
        refine S_fail h 0 (r := xv_i (-1000001)) ?_ ?_
        · rw [xe_X3_house]
          exact xbi (x_isHouse _ _) (xn (bI_ne H) (xbi (x_within _ _ _ _) (xg (bI_f B) (xg rfl (xbi (x_f0 _) rfl)))))
        · rw [xe_X4_house]
          exact xbi (m_isHouse _ _) (xn (bI_ne H) (xg b0 (xg b1 (xg rfl (xbi (m_f0 _) rfl)))))
  · refine S_fail h 0 (r := xv_i (-1000001)) ?_ ?_
    · rw [xe_X3_house]
      exact xbi (x_isHouse _ _) (xg (bI_f H) (xg rfl (xbi (x_f0 _) rfl)))
    · rw [xe_X4_house]
      exact xbi (m_isHouse _ _) (xg (bI_f H) (xg rfl (xbi (m_f0 _) rfl)))
theorem vw_row {u : xm_U} {i : Nat} {d : Nat → Int32} (hv : vd u i d) {k w : Nat} (hk : k < 8) (hw : w < 7) (x : Int32) : vd (xm_us u i (9 + w) k x) i (upd d (23 + 8 * w + k) x) := by
  match w, hw with
  | 0, _ => exact vw_9 hv hk x
  | 1, _ => exact vw_10 hv hk x
  | 2, _ => exact vw_11 hv hk x
  | 3, _ => exact vw_12 hv hk x
  | 4, _ => exact vw_13 hv hk x
  | 5, _ => exact vw_14 hv hk x
  | 6, _ => exact vw_15 hv hk x
theorem okb_row {k w : Nat} (hk : k < 8) (hw : w < 7) (x : Int32) (h : bd x (xm_t1 w)) : okb (23 + 8 * w + k) x := by
  match w, hw with
  | 0, _ => exact (okb_23 hk x).mpr h
  | 1, _ => exact (okb_31 hk x).mpr h
  | 2, _ => exact (okb_39 hk x).mpr h
  | 3, _ => exact (okb_47 hk x).mpr h
  | 4, _ => exact (okb_55 hk x).mpr h
  | 5, _ => exact (okb_63 hk x).mpr h
  | 6, _ => exact (okb_71 hk x).mpr h
theorem m_mostOf (u : xm_U) {w : Nat} (hw : w < 7) : xm_C 140 [xv_i (nI w)] u = some (some (xv_i (xm_t1 w)), u) := by
  rw [xe_X4_mostOf]
  match w, hw with
  | 0, _ => exact xn (fun q => q rfl) rfl
  | 1, _ => exact xg (by decide) (xn (fun q => q rfl) rfl)
  | 2, _ => exact xg (by decide) (xg (by decide) (xn (fun q => q rfl) rfl))
  | 3, _ => exact xg (by decide) (xg (by decide) (xg (by decide) (xn (fun q => q rfl) rfl)))
  | 4, _ => exact xg (by decide) (xg (by decide) (xg (by decide) (xg (by decide) (xn (fun q => q rfl) rfl))))
  | 5, _ => exact xg (by decide) (xg (by decide) (xg (by decide) (xg (by decide) (xg (by decide) rfl))))
  | 6, _ => exact xg (by decide) (xg (by decide) (xg (by decide) (xg (by decide) (xg (by decide) rfl))))
theorem S_change (a b c : Int32) : Same 59 141 [xv_i a, xv_i b, xv_i c] := by
  intro u h
  have hv := h.1
  have hd := h.2.1
  by_cases P : bd a (u.1 9 1 0 - 1)
  · by_cases B : bd b 6
    · obtain ⟨w, hw, rfl⟩ := bd_nI (n := 6) (by decide) B
      by_cases C : bd c (xm_t1 w)
      · obtain ⟨k, hk, rfl⟩ := plank_nI hd P
        obtain ⟨h8, hN⟩ := inv_nN hd
        refine S_put h (9 + w) k (23 + 8 * w + k) (w := c) (r := xv_i (u.1 9 1 (23 + 8 * w + k))) (vw_row hv (by omega) (by omega) c) (inv_upd hd (by omega) (by omega) (okb_row (by omega) (by omega) _ C)) ?_ ?_
        · rw [xe_X3_change]
          refine xg rfl (xbi (x_isPlank u _ hv) (xn (bI_ne P) (xbi (x_within _ _ _ _) (xn (bI_ne B) (xg (vp_in_nI (by omega) (by decide)) ?_)))))
          rw [nI_clamp (n := w) (by omega), nI_clamp (n := k) (by omega)]
          refine xbi (x_within _ _ _ _) (xg (bI_ne C) (xg rfl (xg rfl (xbc (v_rowOf u rfl (by omega)) (xg (v_in (i := 1) rfl (ln_row (by omega)) (by omega) (by decide)) ?_)))))
          show xm_let (u.1 1 (9 + w) k) _ = _
          rw [vd_row hv (by omega) (by omega)]
          exact xlt (xg (v_in (i := 1) rfl (ln_row (by omega)) (by omega) (by decide)) rfl)
        · rw [xe_X4_change]
          refine xg rfl (xbi (m_isPlank _ _) (xn (bI_ne P) (xbi (m_inb _ _ 0 6 rfl rfl) (xn (bI_ne B) (xbi (m_mostOf _ (by omega)) (xbi (m_inb _ _ 0 (xm_t1 w) rfl rfl) (xn (bI_ne C) (xg rfl ?_))))))))
          rw [m_ix]
          refine xbi (m_becomes (k := 23 + 8 * w + k) _ (by omega) _) ?_
          rw [us_obj (i := 1) _ (by decide)]
      · refine S_fail h 0 (r := xv_i (-1000001)) ?_ ?_
        · rw [xe_X3_change]
          refine xg rfl (xbi (x_isPlank u _ hv) (xn (bI_ne P) (xbi (x_within _ _ _ _) (xn (bI_ne B) (xg (vp_in_nI (by omega) (by decide)) ?_)))))
          rw [nI_clamp (n := w) (by omega)]
          exact xbi (x_within _ _ _ _) (xn (bI_nn C) (xg rfl (xbi (x_f0 _) rfl)))
        · rw [xe_X4_change]
          exact xg rfl (xbi (m_isPlank _ _) (xn (bI_ne P) (xbi (m_inb _ _ 0 6 rfl rfl) (xn (bI_ne B) (xbi (m_mostOf _ (by omega)) (xbi (m_inb _ _ 0 (xm_t1 w) rfl rfl) (xg (bI_f C) (xg rfl (xbi (m_f0 _) rfl)))))))))
    · refine S_fail h 0 (r := xv_i (-1000001)) ?_ ?_
      · rw [xe_X3_change]
        exact xg rfl (xbi (x_isPlank u _ hv) (xn (bI_ne P) (xbi (x_within _ _ _ _) (xg (bI_f B) (xg rfl (xbi (x_f0 _) rfl))))))
      · rw [xe_X4_change]
        exact xg rfl (xbi (m_isPlank _ _) (xn (bI_ne P) (xbi (m_inb _ _ 0 6 rfl rfl) (xg (bI_f B) (xg rfl (xbi (m_f0 _) rfl))))))
  · refine S_fail h 0 (r := xv_i (-1000001)) ?_ ?_
    · rw [xe_X3_change]
      exact xg rfl (xbi (x_isPlank u _ hv) (xg (bI_f P) (xg rfl (xbi (x_f0 _) rfl))))
    · rw [xe_X4_change]
      exact xg rfl (xbi (m_isPlank _ _) (xg (bI_f P) (xg rfl (xbi (m_f0 _) rfl))))
