/-! load, judge -/
theorem load_loop {s sz : Nat} (v1 v2 w2 : Int32) (hs4 : s < 4) (hsz : sz ≤ 40) : ∀ (m k : Nat) (d : Nat → Int32) (u z : xm_U), k + m = 6 → inv d → vd u 1 d → u.1 (5 + s) 0 1 = nI sz → z.1 9 15 s = nI sz → (∀ j, j < 40 → u.1 (5 + s) 3 j = z.1 9 16 (40 * s + j)) → ∃ d' u' r, inv d' ∧ vd u' 1 d' ∧ oth u u' 1 ∧ xm_E 85 (xc_X3_load.drop 17, [some (xv_r 0 0), some (xv_i v1), some (xv_i v2), some (xv_r (5 + s) 0), some (xv_i (nI k))], [], u) = some (some (xv_i r), u') ∧ xm_E 193 (xc_X4_load.drop 12, [some (xv_r 9 0), some (xv_i (nI s)), some (xv_i w2), some (xv_i (nI k))], [], dU z d) = some (some (xv_i r), dU z d') := by
  have hc := cls_s hs4
  have i15 : xm_in 9 15 (nI s) := xin (vp_in_nI hs4 (by decide)) rfl
  intro m
  induction m with
  | zero =>
    intro k d u z hk hd hv h1 h15 h16
    have : k = 6 := by omega
    subst this
    refine ⟨d, u, nI 6, hd, hv, oth_rf _ _, ?_, ?_⟩
    · rw [xe_X3_load_17, h1]
      by_cases l : nI sz ≤ nI 6
      · exact xg hc (xg l rfl)
      · exact xg hc (xn l (xg (by decide) rfl))
    · rw [xe_X4_load_12, nI_clamp (n := s) (by omega), dU_o _ _ (by decide), h15]
      by_cases l : nI sz ≤ nI 6
      · exact xg rfl (xg i15 (xg l (rfl)))
      · exact xg rfl (xg i15 (xn l (xg ((by decide)) (rfl))))
  | succ m ih =>
    intro k d u z hk hd hv h1 h15 h16
    by_cases l : nI sz ≤ nI k
    · refine ⟨d, u, nI k, hd, hv, oth_rf _ _, ?_, ?_⟩
      · rw [xe_X3_load_17, h1]
        exact xg hc (xg l rfl)
      · rw [xe_X4_load_12, nI_clamp (n := s) (by omega), dU_o _ _ (by decide), h15]
        exact xg rfl (xg i15 (xg l (rfl)))
    · have k40 : k < 40 := by
        rw [nI_leI (by omega) (by omega)] at l
        omega
      have i16 : xm_in 9 16 (nI (40 * s + k)) := xin (vp_in_nI (n := 40 * s + k) (N := 160) (by omega) (by decide)) rfl
      have g6 : ¬ (6 : Int32) ≤ nI k := nI_ge (b := 6) (by omega) (by decide)
      have e16 := h16 k k40
      by_cases B : bd (z.1 9 16 (40 * s + k)) 99
      · have hi2 := inv_upd hd (j := 11 + k) (by omega) (by omega) ((okb_11 (by omega) _).mpr B)
        have w := vw_2 hv (k := k) (by omega) (z.1 9 16 (40 * s + k))
        obtain ⟨d', u', r, a1, a2, a3, a4, a5⟩ := ih (k + 1) _ (xm_us u 1 2 k (z.1 9 16 (40 * s + k))) z (by omega) hi2 w (by rw [us_obj _ (by omega)]; exact h1) h15 (fun j hj => by rw [us_obj _ (by omega)]; exact h16 j hj)
        refine ⟨d', u', r, a1, a2, oth_tr (oth_us _ _ _ _ _) a3, ?_, ?_⟩
        · rw [xe_X3_load_17, h1, nI_clamp (n := k) (by omega), e16]
          refine xg hc (xn l (xn g6 (xg hc (xg (s_in hs4 (n := 40) rfl k40 (by decide)) (xbi (x_within _ _ _ _) (xn (bI_ne B) (xg rfl (xg rfl (xg hc (xg (s_in hs4 (n := 40) rfl k40 (by decide)) (xg (v_in rfl (n := 6) rfl (by omega) (by decide)) (xlt ?_))))))))))))
          rw [e16, nI_1]
          exact a4
        · rw [xe_X4_load_12, nI_clamp (n := s) (by omega), ix40, nI_clamp (n := 40 * s + k) (by omega), show (11 : Int32) = nI 11 from rfl, ad_nI 11 k, nI_clamp (n := 11 + k) (by omega), dU_o (p := 15) _ _ (by decide), h15, dU_o (p := 16) _ _ (by decide)]
          refine xg rfl (xg i15 (xn l (xn g6 (xg rfl (xg i16 (xbi (m_inb _ _ 0 99 rfl rfl) (xn (bI_ne B) (xg rfl (xg rfl (xg i16 (xg (in9n (by omega)) (xlt (?_)))))))))))))
          rw [dU_o (p := 16) _ _ (by decide), dU_us, nI_1]
          exact a5
      · refine ⟨d, u, nI k, hd, hv, oth_rf _ _, ?_, ?_⟩
        · rw [xe_X3_load_17, h1, nI_clamp (n := k) (by omega), e16]
          exact xg hc (xn l (xn g6 (xg hc (xg (s_in hs4 (n := 40) rfl k40 (by decide)) (xbi (x_within _ _ _ _) (xg (bI_f B) rfl))))))
        · rw [xe_X4_load_12, nI_clamp (n := s) (by omega), ix40, nI_clamp (n := 40 * s + k) (by omega), dU_o (p := 15) _ _ (by decide), h15, dU_o (p := 16) _ _ (by decide)]
          exact xg rfl (xg i15 (xn l (xn g6 (xg rfl (xg i16 (xbi (m_inb _ _ 0 99 rfl rfl) (xg (bI_f B) (rfl))))))))
theorem S_load (a : Int32) : Same 85 193 [xv_i a] := by
  intro u h
  have hv := h.1
  have hd := h.2.1
  by_cases H : bd a 3
  · obtain ⟨s, hs, rfl⟩ := bd_nI (n := 3) (by decide) H
    have hs4 : s < 4 := by omega
    obtain ⟨g0, g1, g2, ⟨sz, hsz, g3⟩, g4⟩ := h.2.2.2.2.2 s hs4
    by_cases M : u.1 9 14 s = 0
    · refine S_fail h 5 (r := xv_i (-1000006)) ?_ ?_
      · rw [xe_X3_load]
        exact xg rfl (xbi (x_ws_m hs4 (g0.trans M)) (xn ((by decide)) (xg rfl (xbi (x_f5 _) (rfl)))))
      · rw [xe_X4_load]
        exact xg rfl (xbi (m_wn_m hs4 (by rw [us_obj (i := 0) (i' := 9) _ (by decide)]; exact M)) (xn ((by decide)) (xg rfl (xbi (m_f5 _) (rfl)))))
    · have M1 : ¬ u.1 (5 + s) 0 0 = 0 := fun q => M (g0.symm.trans q)
      obtain ⟨d0, u1, r0, -, v0, o0, e0, -⟩ := load_loop (nI s) 0 (-1) hs4 hsz 6 0 (u.1 9 1) u u rfl hd hv (g1.trans g3) g3 g4
      have e9 : u1.1 9 = u.1 9 := o0.1 9 (by decide)
      obtain ⟨d', u2, r, i', v', o', e1, e2⟩ := load_loop (nI s) 0 (-1) hs4 hsz 6 0 (u.1 9 1) u u1 rfl hd hv (g1.trans g3) (by rw [e9]; exact g3) (fun j hj => by rw [e9]; exact g4 j hj)
      have q := e0.symm.trans e1
      have q1 : u1 = u2 := by injection q with q; exact (Prod.mk.inj q).2
      subst q1
      have M2 : ¬ u1.1 9 14 s = 0 := by rw [e9]; exact M
      rw [show u.1 9 1 = u1.1 9 1 by rw [e9], dU_self] at e2
      refine S_val h (r := xv_i r) o' v' i' ?_ ?_
      · rw [xe_X3_load, nI_clamp (n := s) (by omega)]
        exact xg rfl (xbi (x_ws_k hs4 M1) (xg rfl (xg rfl (xg (vp_in_nI hs4 (by decide)) (e1)))))
      · rw [xe_X4_load]
        exact xg rfl (xbi (m_wn_k hs4 M2) (xg ((by decide)) (e2)))
  · refine S_fail h 0 (r := xv_i (-1000001)) ?_ ?_
    · rw [xe_X3_load]
      exact xg rfl (xbi (x_ws_b _ H) (xn ((by decide)) (xg rfl (xbi (x_f0 _) (rfl)))))
    · rw [xe_X4_load]
      exact xg rfl (xbi (m_wn_b _ H) (xn ((by decide)) (xg rfl (xbi (m_f0 _) (rfl)))))
theorem judge_loop {s sz : Nat} (v1 v2 w2 : Int32) (hs4 : s < 4) (hsz : sz ≤ 40) {d : Nat → Int32} {u z : xm_U} (hd : inv d) (hv : vd u 1 d) (hz : z.1 9 1 = d) (h1 : u.1 (5 + s) 0 1 = nI sz) (h15 : z.1 9 15 s = nI sz) (h16 : ∀ j, j < 40 → u.1 (5 + s) 3 j = z.1 9 16 (40 * s + j)) : ∀ (m k : Nat), k + m = sz → ∃ r, xm_E 86 (xc_X3_judge.drop 17, [some (xv_r 0 0), some (xv_i v1), some (xv_i v2), some (xv_r (5 + s) 0), some (xv_i (nI k))], [], u) = some (some (xv_i r), u) ∧ xm_E 194 (xc_X4_judge.drop 12, [some (xv_r 9 0), some (xv_i (nI s)), some (xv_i w2), some (xv_i (nI k))], [], z) = some (some (xv_i r), z) := by
  have hc := cls_s hs4
  have i15 : xm_in 9 15 (nI s) := xin (vp_in_nI hs4 (by decide)) rfl
  obtain ⟨h8, hN⟩ := inv_nN hd
  intro m
  induction m with
  | zero =>
    intro k hk
    have : k = sz := by omega
    subst this
    refine ⟨0, ?_, ?_⟩
    · rw [xe_X3_judge_17, h1]
      exact xg hc (xg (nI_le (Nat.le_refl _) (by omega)) rfl)
    · rw [xe_X4_judge_12, nI_clamp (n := s) (by omega), h15]
      exact xg rfl (xg i15 (xg (nI_le (Nat.le_refl _) (by omega)) (rfl)))
  | succ m ih =>
    intro k hk
    have l : ¬ nI sz ≤ nI k := nI_ge (by omega) (by omega)
    have k40 : k < 40 := by omega
    have i16 : xm_in 9 16 (nI (40 * s + k)) := xin (vp_in_nI (n := 40 * s + k) (N := 160) (by omega) (by decide)) rfl
    by_cases P : bd (nI k) (d 0 - 1)
    · obtain ⟨p, hp, ep⟩ := plank_nI hd P
      have kp : k = p := (nI_eq (by omega) (by omega)).mp ep
      have k8 : k < 8 := by omega
      have P2 : bd (nI k) (z.1 9 1 0 - 1) := by rw [hz]; exact P
      have its := m_its3 z k8
      rw [hz] at its
      by_cases E : z.1 9 16 (40 * s + k) = d (47 + k)
      · obtain ⟨r, e1, e2⟩ := ih (k + 1) (by omega)
        refine ⟨r, ?_, ?_⟩
        · rw [xe_X3_judge_17, h1]
          refine xg hc (xn l (xg rfl (xbi (x_isPlank u _ hv) (xn (bI_ne P) (xg hc (xg (s_in hs4 (n := 40) rfl k40 (by decide)) (xg rfl (xg rfl (xg (v_in rfl (n := 8) rfl k8 (by decide)) (xg ?_ ?_))))))))))
          · rw [nI_clamp (by omega), h16 k k40, (hv.2.2.2.2.1 k k8).2.2.2.1]
            exact E
          · rw [nI_1]
            exact e1
        · rw [xe_X4_judge_12, nI_clamp (n := s) (by omega), h15, ix40, nI_clamp (n := 40 * s + k) (by omega)]
          refine xg rfl (xg i15 (xn l (xg rfl (xbi (m_isPlank _ _) (xn (bI_ne P2) (xg rfl (xg i16 (xg rfl (xbi its (xg E (?_)))))))))))
          rw [nI_1]
          exact e2
      · refine ⟨1 + nI k, ?_, ?_⟩
        · rw [xe_X3_judge_17, h1]
          refine xg hc (xn l (xg rfl (xbi (x_isPlank u _ hv) (xn (bI_ne P) (xg hc (xg (s_in hs4 (n := 40) rfl k40 (by decide)) (xg rfl (xg rfl (xg (v_in rfl (n := 8) rfl k8 (by decide)) (xn ?_ rfl))))))))))
          rw [nI_clamp (by omega), h16 k k40, (hv.2.2.2.2.1 k k8).2.2.2.1]
          exact E
        · rw [xe_X4_judge_12, nI_clamp (n := s) (by omega), h15, ix40, nI_clamp (n := 40 * s + k) (by omega)]
          exact xg rfl (xg i15 (xn l (xg rfl (xbi (m_isPlank _ _) (xn (bI_ne P2) (xg rfl (xg i16 (xg rfl (xbi its (xn E (rfl)))))))))))
    · have P2 : ¬ bd (nI k) (z.1 9 1 0 - 1) := by rw [hz]; exact P
      refine ⟨1 + nI k, ?_, ?_⟩
      · rw [xe_X3_judge_17, h1]
        exact xg hc (xn l (xg rfl (xbi (x_isPlank u _ hv) (xg (bI_f P) rfl))))
      · rw [xe_X4_judge_12, nI_clamp (n := s) (by omega), h15]
        exact xg rfl (xg i15 (xn l (xg rfl (xbi (m_isPlank _ _) (xg (bI_f P2) (rfl))))))
theorem S_judge (a : Int32) : Same 86 194 [xv_i a] := by
  intro u h
  have hv := h.1
  have hd := h.2.1
  by_cases H : bd a 3
  · obtain ⟨s, hs, rfl⟩ := bd_nI (n := 3) (by decide) H
    have hs4 : s < 4 := by omega
    obtain ⟨g0, g1, g2, ⟨sz, hsz, g3⟩, g4⟩ := h.2.2.2.2.2 s hs4
    by_cases M : u.1 9 14 s = 0
    · refine S_fail h 5 (r := xv_i (-1000006)) ?_ ?_
      · rw [xe_X3_judge]
        exact xg rfl (xbi (x_ws_m hs4 (g0.trans M)) (xn ((by decide)) (xg rfl (xbi (x_f5 _) (rfl)))))
      · rw [xe_X4_judge]
        exact xg rfl (xbi (m_wn_m hs4 (by rw [us_obj (i := 0) (i' := 9) _ (by decide)]; exact M)) (xn ((by decide)) (xg rfl (xbi (m_f5 _) (rfl)))))
    · have M1 : ¬ u.1 (5 + s) 0 0 = 0 := fun q => M (g0.symm.trans q)
      obtain ⟨r, e1, e2⟩ := judge_loop (nI s) 0 (-1) hs4 hsz hd hv (z := u) rfl (g1.trans g3) g3 g4 sz 0 (by omega)
      refine S_read h (r := xv_i r) ?_ ?_
      · rw [xe_X3_judge, nI_clamp (n := s) (by omega)]
        exact xg rfl (xbi (x_ws_k hs4 M1) (xg rfl (xg rfl (xg (vp_in_nI hs4 (by decide)) (e1)))))
      · rw [xe_X4_judge]
        exact xg rfl (xbi (m_wn_k hs4 M) (xg ((by decide)) (e2)))
  · refine S_fail h 0 (r := xv_i (-1000001)) ?_ ?_
    · rw [xe_X3_judge]
      exact xg rfl (xbi (x_ws_b _ H) (xn ((by decide)) (xg rfl (xbi (x_f0 _) (rfl)))))
    · rw [xe_X4_judge]
      exact xg rfl (xbi (m_wn_b _ H) (xn ((by decide)) (xg rfl (xbi (m_f0 _) (rfl)))))
