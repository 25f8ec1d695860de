/-! of -/
theorem plank_nI {d : Nat → Int32} (hd : inv d) {a : Int32} (c : bd a (d 0 - 1)) : ∃ k, k < nN d ∧ a = nI k := by
  obtain ⟨h8, hN⟩ := inv_nN hd
  rw [hN] at c
  generalize nN d = N at *
  cases N with
  | zero => exact absurd (Int32.le_trans c.1 c.2) (by decide)
  | succ n =>
    rw [← nI_1, Int32.add_sub_cancel] at c
    obtain ⟨k, hk, rfl⟩ := bd_nI (n := n) (by omega) c
    exact ⟨k, by omega, rfl⟩
noncomputable def tells (d : Nat → Int32) (k w : Nat) : Int32 :=
  if w = 7 then hears d k else if w = 8 then follows d k else if w = 9 then ringsI d k else if w = 10 then splits d k else if w = 11 then fetches d k else d (23 + 8 * w + k)
theorem v_rowOf {i w : Nat} (u : xm_U) (hc : xm_cls i = 2) (hw : w < 7) : xm_C 22 [xv_r i 0, xv_i (nI w)] u = some (some (xv_r i (9 + w)), u) := by
  rw [xe_X2_rowOf]
  match w, hw with
  | 0, _ => exact xg rfl (xg hc rfl)
  | 1, _ => exact xn (by decide) (xg rfl (xg hc rfl))
  | 2, _ => exact xn (by decide) (xn (by decide) (xg rfl (xg hc rfl)))
  | 3, _ => exact xn (by decide) (xn (by decide) (xn (by decide) (xg rfl (xg hc rfl))))
  | 4, _ => exact xn (by decide) (xn (by decide) (xn (by decide) (xn (by decide) (xg rfl (xg hc rfl)))))
  | 5, _ => exact xn (by decide) (xn (by decide) (xn (by decide) (xn (by decide) (xn (by decide) (xg rfl (xg hc rfl))))))
  | 6, _ => exact xn (by decide) (xn (by decide) (xn (by decide) (xn (by decide) (xn (by decide) (xn (by decide) (xg hc rfl))))))
theorem vd_row {u : xm_U} {i : Nat} {d : Nat → Int32} (hv : vd u i d) {k w : Nat} (hk : k < 8) (hw : w < 7) : u.1 i (9 + w) k = d (23 + 8 * w + k) := by
  obtain ⟨b1, b2, b3, b4, b5, b6, b7⟩ := hv.2.2.2.2.1 k hk
  match w, hw with
  | 0, _ => exact b1
  | 1, _ => exact b2
  | 2, _ => exact b3
  | 3, _ => exact b4
  | 4, _ => exact b5
  | 5, _ => exact b6
  | 6, _ => exact b7
theorem ln_row {w : Nat} (hw : w < 7) : xm_ln 2 (9 + w) = some 8 := by
  match w, hw with
  | 0, _ => rfl
  | 1, _ => rfl
  | 2, _ => rfl
  | 3, _ => rfl
  | 4, _ => rfl
  | 5, _ => rfl
  | 6, _ => rfl
theorem nI_neq {a b : Nat} (h : a < b) (hb : b < 2 ^ 31) : ¬ nI a = nI b := fun q => nI_ge h hb (q ▸ Int32.le_refl _)
theorem v_tell {u : xm_U} {i : Nat} {d : Nat → Int32} (hc : xm_cls i = 2) (hv : vd u i d) (hd : inv d) {k w : Nat} (hk : k < nN d) (hw : w < 12) : xm_C 23 [xv_r i 0, xv_i (nI k), xv_i (nI w)] u = some (some (xv_i (tells d k w)), u) := by
  obtain ⟨h8, hN⟩ := inv_nN hd
  rw [xe_X2_tell]
  by_cases hs : w < 7
  · refine xn (nI_neq (b := 7) (by omega) (by decide)) (xn (nI_neq (b := 8) (by omega) (by decide)) (xn (nI_neq (b := 9) (by omega) (by decide)) (xn (nI_neq (b := 10) (by omega) (by decide)) (xn (nI_neq (b := 11) (by omega) (by decide)) (xg hc (xbc (v_rowOf u hc hs) (xg (v_in hc (ln_row hs) (by omega) (by decide)) ?_)))))))
    unfold tells
    rw [if_neg (by omega), if_neg (by omega), if_neg (by omega), if_neg (by omega), if_neg (by omega), nI_clamp (by omega)]
    show some (some (xv_i (u.1 i (9 + w) k)), u) = _
    rw [vd_row hv (by omega) hs]
  · have e : w = 7 ∨ w = 8 ∨ w = 9 ∨ w = 10 ∨ w = 11 := by omega
    rcases e with rfl | rfl | rfl | rfl | rfl
    · exact xg rfl (xg hc (xbi (v_hearing hc hv hd hk) rfl))
    · exact xn (by decide) (xg rfl (xg hc (xbi (v_following hc hv hd hk) rfl)))
    · refine xn (by decide) (xn (by decide) (xg rfl (xg hc (xbi (v_isRinging hc hv (by omega)) ?_))))
      show _ = some (some (xv_i (ringsI d k)), u)
      by_cases e : ringsP d k
      · rw [ringsI_t e]
        exact xn (by decide) rfl
      · rw [ringsI_f e]
        exact xg rfl rfl
    · exact xn (by decide) (xn (by decide) (xn (by decide) (xg rfl (xg hc (xbi (v_splitting hc hv hd hk) rfl)))))
    · exact xn (by decide) (xn (by decide) (xn (by decide) (xn (by decide) (xg rfl (xg hc (xbi (v_fetching hc hv hd hk) rfl))))))
theorem S_of (a b : Int32) : Same 58 139 [xv_i a, xv_i b] := by
  intro u h
  have hv := h.1
  have hd := h.2.1
  by_cases c : bd a (u.1 9 1 0 - 1)
  · by_cases c2 : bd b 11
    · obtain ⟨k, hk, rfl⟩ := plank_nI hd c
      obtain ⟨w, hw, rfl⟩ := bd_nI (n := 11) (by decide) c2
      obtain ⟨h8, hN⟩ := inv_nN hd
      refine S_read h (r := xv_i (tells (u.1 9 1) k w)) ?_ ?_
      · rw [xe_X3_of]
        exact xg rfl (xbi (x_isPlank u _ hv) (xn (bI_ne c) (xbi (x_within _ _ _ _) (xg (bI_ne c2) (xg rfl (xg rfl (xbi (v_tell rfl hv hd hk (by omega)) rfl)))))))
      · rw [xe_X4_of]
        refine xg rfl (xbi (m_isPlank u _) (xn (bI_ne c) (xbi (m_inb _ _ 0 11 rfl rfl) (xg (bI_ne c2) ?_))))
        by_cases hs : w < 7
        · refine xn (nI_neq (b := 7) (by omega) (by decide)) (xn (nI_neq (b := 8) (by omega) (by decide)) (xn (nI_neq (b := 9) (by omega) (by decide)) (xn (nI_neq (b := 10) (by omega) (by decide)) (xn (nI_neq (b := 11) (by omega) (by decide)) (xg rfl (xbi (m_itsN u (by omega) hs) ?_))))))
          unfold tells
          rw [if_neg (by omega), if_neg (by omega), if_neg (by omega), if_neg (by omega), if_neg (by omega)]
        · have e : w = 7 ∨ w = 8 ∨ w = 9 ∨ w = 10 ∨ w = 11 := by omega
          rcases e with rfl | rfl | rfl | rfl | rfl
          · exact xg rfl (xg rfl (xbi (m_hears u hd (by omega)) rfl))
          · exact xn (by decide) (xg rfl (xg rfl (xbi (m_follows u hd (by omega)) rfl)))
          · refine xn (by decide) (xn (by decide) (xg rfl (xg rfl (xbi (m_isRinging u (by omega)) ?_))))
            show _ = some (some (xv_i (ringsI (u.1 9 1) k)), u)
            by_cases e : ringsP (u.1 9 1) k
            · rw [ringsI_t e]
              exact xn (by decide) rfl
            · rw [ringsI_f e]
              exact xg rfl rfl
          · exact xn (by decide) (xn (by decide) (xn (by decide) (xg rfl (xg rfl (xbi (m_splits u hd (by omega)) rfl)))))
          · exact xn (by decide) (xn (by decide) (xn (by decide) (xn (by decide) (xg rfl (xg rfl (xbi (m_fetches u hd (by omega)) rfl))))))
    · refine S_fail h 0 (r := xv_i (-1000001)) ?_ ?_
      · rw [xe_X3_of]
        exact xg rfl (xbi (x_isPlank u _ hv) (xn (bI_ne c) (xbi (x_within _ _ _ _) (xn (bI_nn c2) (xg rfl (xbi (x_f0 _) rfl))))))
      · rw [xe_X4_of]
        exact xg rfl (xbi (m_isPlank _ _) (xn (bI_ne c) (xbi (m_inb _ _ 0 11 rfl rfl) (xn (bI_nn c2) (xg rfl (xbi (m_f0 _) rfl))))))
  · refine S_fail h 0 (r := xv_i (-1000001)) ?_ ?_
    · rw [xe_X3_of]
      exact xg rfl (xbi (x_isPlank u _ hv) (xg (bI_f c) (xg rfl (xbi (x_f0 _) rfl))))
    · rw [xe_X4_of]
      exact xg rfl (xbi (m_isPlank _ _) (xg (bI_f c) (xg rfl (xbi (m_f0 _) rfl))))
