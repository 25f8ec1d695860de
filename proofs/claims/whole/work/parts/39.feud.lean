/-! feuds -/
def zn (x : Int32) : Int32 := x * 1103515245 + 12345
def dz (x : Int32) : Int32 := (x.toUInt32 >>> ((8 : Int32).toUInt32 &&& Int32.toUInt32 31)).toInt32
theorem dz_nI (x : Int32) : ∃ n, n < 2 ^ 24 ∧ dz x = nI n := by
  have h := pk_ushr x 8 8 (by decide)
  have hx : x.toBitVec.toNat < 2 ^ 32 := x.toBitVec.isLt
  refine ⟨x.toBitVec.toNat / 2 ^ 8, by omega, ?_⟩
  apply Int32.toBitVec_inj.mp
  apply BitVec.eq_of_toNat_eq
  rw [pk_tn (by omega)]
  exact h
theorem v_draw {u : xm_U} {i : Nat} {d : Nat → Int32} (hc : xm_cls i = 2) (hv : vd u i d) : xm_C 37 [xv_r i 0] u = some (some (xv_i (dz (zn (d 2)))), xm_us u i 0 6 (zn (d 2))) := by
  rw [xe_X2_draw, hv.2.2.2.1.2.2.2.1]
  refine xg hc (xg hc (xlt (xg hc (?_))))
  rw [us_same]
  rfl
theorem m_draw (z : xm_U) (d : Nat → Int32) : xm_C 163 [xv_r 9 0] (dU z d) = some (some (xv_i (dz (zn (d 2)))), dU z (upd d 2 (zn (d 2)))) := by
  rw [xe_X4_draw, dU_d, dU_us]
  refine xg rfl (xg rfl (xg (in9n (k := 2) (by decide)) (xg (in9n (k := 2) (by decide)) (xlt (xg rfl (xg (in9n (k := 2) (by decide)) (?_)))))))
  rw [dU_d, upd_eq]
  rfl
theorem bd_pl : ∀ N, N < 9 → ∀ p, p < 8 → (((0 : Int32) ≤ nI p ∧ nI p ≤ nI N - 1) ↔ p < N) := by decide +kernel
theorem feud_step {d : Nat → Int32} (hd : inv d) : ∃ d', inv d' ∧ (∀ (u : xm_U) (i : Nat), xm_cls i = 2 → vd u i d → ∃ u', xm_C 38 [xv_r i 0] u = some (none, u') ∧ vd u' i d' ∧ oth u u' i) ∧ ∀ (z : xm_U) (n k : Nat) (r : xm_R), k < n → n < 2 ^ 31 → xm_E 164 (xc_X4_feuds.drop 24, [some (xv_r 9 0), some (xv_i (nI n)), some (xv_i (nI (k + 1))), none, none], [], dU z (yearG d')) = some r → xm_E 164 (xc_X4_feuds.drop 24, [some (xv_r 9 0), some (xv_i (nI n)), some (xv_i (nI k)), none, none], [], dU z d) = some r := by
  obtain ⟨h8, hN⟩ := inv_nN hd
  obtain ⟨a1, ha1, ea1⟩ := dz_nI (zn (d 2))
  have eh : dz (zn (d 2)) - dz (zn (d 2)) / 6 * 6 = nI (a1 % 6) := by rw [ea1]; exact pk_rem (d := 6) (by omega) (by decide) (by decide)
  have hh : a1 % 6 < 6 := Nat.mod_lt _ (by decide)
  generalize a1 % 6 = h at eh hh
  have i1 : inv (upd d 2 (zn (d 2))) := inv_upd hd (by decide) (by decide) (okb_2 _)
  generalize hd1 : upd d 2 (zn (d 2)) = d1 at i1
  obtain ⟨m, hm, em⟩ := bd_nI (n := 99) (by decide) ((okb_11 hh _).mp (i1.2.1 (11 + h) (by omega) (by omega)))
  have i2 : inv (upd d1 (11 + h) (d1 (11 + h) / 2)) := inv_upd i1 (by omega) (by omega) ((okb_11 hh _).mpr (by rw [em, show nI m / 2 = nI (m / 2) from pk_div (d := 2) (by omega) (by decide) (by decide)]; exact bd_of (n := 99) (by omega) (by decide)))
  generalize hd2 : upd d1 (11 + h) (d1 (11 + h) / 2) = d2 at i2
  have i3 : inv (upd d2 2 (zn (d2 2))) := inv_upd i2 (by decide) (by decide) (okb_2 _)
  generalize hd3 : upd d2 2 (zn (d2 2)) = d3 at i3
  obtain ⟨a2, ha2, ea2⟩ := dz_nI (zn (d2 2))
  have el : dz (zn (d2 2)) - dz (zn (d2 2)) / 10 * 10 = nI (a2 % 10) := by rw [ea2]; exact pk_rem (d := 10) (by omega) (by decide) (by decide)
  have i4 : inv (upd d3 (5 + h) (dz (zn (d2 2)) - dz (zn (d2 2)) / 10 * 10)) := inv_upd i3 (by omega) (by omega) ((okb_5 hh _).mpr (by rw [el]; exact bd_of (n := 9) (by omega) (by decide)))
  generalize hd4 : upd d3 (5 + h) (dz (zn (d2 2)) - dz (zn (d2 2)) / 10 * 10) = d4 at i4
  have i5 : inv (upd d4 2 (zn (d4 2))) := inv_upd i4 (by decide) (by decide) (okb_2 _)
  generalize hd5 : upd d4 2 (zn (d4 2)) = d5 at i5
  obtain ⟨a3, ha3, ea3⟩ := dz_nI (zn (d4 2))
  have ep : dz (zn (d4 2)) - dz (zn (d4 2)) / 8 * 8 = nI (a3 % 8) := by rw [ea3]; exact pk_rem (d := 8) (by omega) (by decide) (by decide)
  have hp : a3 % 8 < 8 := Nat.mod_lt _ (by decide)
  generalize a3 % 8 = p at ep hp
  have e0 : d5 0 = nI (nN d) := by rw [← hd5, upd_ne (by decide), ← hd4, upd_ne (by omega), ← hd3, upd_ne (by decide), ← hd2, upd_ne (by omega), ← hd1, upd_ne (by decide), hN]
  obtain ⟨g, hg, eg⟩ := inv_H i5 hp
  have er : (d5 (31 + p) + 1) - (d5 (31 + p) + 1) / 6 * 6 = nI ((g + 1) % 6) := by rw [eg, nI_1]; exact pk_rem (d := 6) (by omega) (by decide) (by decide)
  have i6 : inv (upd d5 (31 + p) ((d5 (31 + p) + 1) - (d5 (31 + p) + 1) / 6 * 6)) := inv_upd i5 (by omega) (by omega) ((okb_31 hp _).mpr (by rw [er]; exact bd_of (n := 5) (by omega) (by decide)))
  have bp := bd_pl (nN d) (by omega) p hp
  have cls : ∀ (u : xm_U) (i : Nat), xm_cls i = 2 → vd u i d → ∃ u8, vd u8 i d5 ∧ oth u u8 i ∧ xm_C 38 [xv_r i 0] u = some (none, if d5 0 ≤ nI p then u8 else xm_us u8 i 10 p ((d5 (31 + p) + 1) - (d5 (31 + p) + 1) / 6 * 6)) := by
    intro u i hc hv
    have w1 := vw_f6 hv (zn (d 2))
    rw [hd1] at w1
    have w2 := vw_2 w1 hh (d1 (11 + h) / 2)
    rw [hd2] at w2
    have w3 := vw_f6 w2 (zn (d2 2))
    rw [hd3] at w3
    have w4 := vw_1 w3 hh (dz (zn (d2 2)) - dz (zn (d2 2)) / 10 * 10)
    rw [hd4] at w4
    have w5 := vw_f6 w4 (zn (d4 2))
    rw [hd5] at w5
    refine ⟨_, w5, oth_tr (oth_us _ _ _ _ _) (oth_tr (oth_us _ _ _ _ _) (oth_tr (oth_us _ _ _ _ _) (oth_tr (oth_us _ _ _ _ _) (oth_us _ _ _ _ _)))), ?_⟩
    have g2 : xm_in i 2 (nI h) := v_in hc (n := 6) rfl hh (by decide)
    have g1 : xm_in i 1 (nI h) := v_in hc (n := 6) rfl hh (by decide)
    have g10 : xm_in i 10 (nI p) := v_in hc (n := 8) rfl hp (by decide)
    rw [xe_X2_feud]
    refine xg hc (xbi (v_draw hc hv) (xg ne6 (xlt ?_)))
    rw [eh, nI_clamp (n := h) (by omega), w1.2.1 h hh]
    refine xg hc (xg hc (xg g2 (xg ne2 (xg g2 (xlt (xg hc (xg hc (xbi (v_draw hc w2) (xg ne10 (xg g1 (xlt (xg hc (xbi (v_draw hc w4) (xg ne8 (xlt ?_)))))))))))))))
    rw [ep, nI_clamp (n := p) (by omega), w5.2.2.2.1.2.2.2.2, (w5.2.2.2.2.1 p hp).2.1]
    by_cases c : d5 0 ≤ nI p
    · rw [if_pos c]
      exact xg hc (xg c rfl)
    · rw [if_neg c]
      exact xg hc (xn c (xg hc (xg hc (xg g10 (xg ne6 (xg g10 (xlt rfl)))))))
  have ref : ∀ (z : xm_U) (n k : Nat) (r : xm_R), k < n → n < 2 ^ 31 → xm_E 164 (xc_X4_feuds.drop 24, [some (xv_r 9 0), some (xv_i (nI n)), some (xv_i (nI (k + 1))), none, none], [], dU z (yearG (if d5 0 ≤ nI p then d5 else upd d5 (31 + p) ((d5 (31 + p) + 1) - (d5 (31 + p) + 1) / 6 * 6)))) = some r → xm_E 164 (xc_X4_feuds.drop 24, [some (xv_r 9 0), some (xv_i (nI n)), some (xv_i (nI k)), none, none], [], dU z d) = some r := by
    intro z n k r hk hn e
    have g2 : xm_in 9 1 (nI (11 + h)) := in9n (by omega)
    have g1 : xm_in 9 1 (nI (5 + h)) := in9n (by omega)
    rw [xe_X4_feuds_24]
    refine xn (nI_ge hk hn) (xg rfl (xbi (m_draw z d) (xg ne6 (xlt ?_))))
    rw [eh, show (11 : Int32) = nI 11 from rfl, show (5 : Int32) = nI 5 from rfl, ad_nI 11 h, ad_nI 5 h, nI_clamp (n := 11 + h) (by omega), nI_clamp (n := 5 + h) (by omega), hd1, dU_d, dU_us, hd2]
    refine xg rfl (xg g2 (xg ne2 (xg g2 (xlt (xg rfl (xg rfl (xbi (m_draw z d2) (xg ne10 (xg g1 (xlt (xg rfl ?_)))))))))))
    rw [hd3, dU_us, hd4]
    refine xbi (m_draw z d4) (xg ne8 (xlt (xg rfl ?_)))
    rw [hd5, ep]
    refine xbi (m_isPlank _ _) ?_
    rw [dU_d, e0]
    by_cases c : d5 0 ≤ nI p
    · rw [if_pos c] at e
      have np : ¬ bd (nI p) (nI (nN d) - 1) := fun q => by
        have := bp.mp q
        rw [e0, nI_leI (by omega) (by omega)] at c
        omega
      refine xg (bI_f np) (xg rfl (xbv (m_yearGoes' z d5 i5) ?_))
      rw [nI_1 k]
      exact xm_E_mono (by repeat (first | exact lq_rf _ | apply lq_r | apply lq_n)) e
    · rw [if_neg c] at e
      have yp : bd (nI p) (nI (nN d) - 1) := bp.mpr (by
        rw [e0, nI_leI (by omega) (by omega)] at c
        omega)
      refine xn (bI_ne yp) (xg rfl (xbi (m_its1 _ hp) (xg ne6 (xg rfl (xbv (m_sets1 _ hp _) (xg rfl ?_))))))
      rw [dU_d, dU_us]
      refine xbv (m_yearGoes' z _ i6) ?_
      rw [nI_1 k]
      exact xm_E_mono (by repeat (first | exact lq_rf _ | apply lq_r | apply lq_n)) e
  refine ⟨_, ?_, fun u i hc hv => ?_, ref⟩
  · split
    · exact i5
    · exact i6
  · obtain ⟨u8, w5, o5, e5⟩ := cls u i hc hv
    refine ⟨_, e5, ?_, ?_⟩
    · split
      · exact w5
      · exact vw_10 w5 hp _
    · split
      · exact o5
      · exact oth_tr o5 (oth_us _ _ _ _ _)
theorem feuds_loop {n : Nat} (hn : n < 2 ^ 31) : ∀ (m k : Nat) (d : Nat → Int32) (u z : xm_U), k + m = n → inv d → vd u 1 d → ∃ d' u', inv d' ∧ vd u' 1 d' ∧ oth u u' 1 ∧ xm_E 74 (xc_X3_feuds.drop 22, [some (xv_r 0 0), some (xv_i (nI n)), some (xv_i (nI k))], [], u) = some (some (xv_i (d' 3)), u') ∧ xm_E 164 (xc_X4_feuds.drop 24, [some (xv_r 9 0), some (xv_i (nI n)), some (xv_i (nI k)), none, none], [], dU z d) = some (some (xv_i (d' 3)), dU z d') := by
  intro m
  induction m with
  | zero =>
    intro k d u z hk hd hv
    have : k = n := by omega
    subst this
    refine ⟨d, u, hd, hv, oth_rf _ _, ?_, ?_⟩
    · rw [xe_X3_feuds_22, hv.2.2.2.1.2.1]
      exact xg (nI_le (Nat.le_refl _) hn) (xg rfl (xg rfl (rfl)))
    · rw [xe_X4_feuds_24, dU_d]
      exact xg (nI_le (Nat.le_refl _) hn) (xg rfl (xg (in9n (k := 3) (by decide)) (rfl)))
  | succ m ih =>
    intro k d u z hk hd hv
    obtain ⟨d1, i1, hc, hr⟩ := feud_step hd
    obtain ⟨u1, e1, v1, o1⟩ := hc u 1 rfl hv
    obtain ⟨u2, e2, v2, o2⟩ := v_passYear (i := 1) rfl v1 i1
    obtain ⟨d', u', hd', hv', ho', e3, e4⟩ := ih (k + 1) (yearG d1) u2 z (by omega) (inv_yearG i1) v2
    refine ⟨d', u', hd', hv', oth_tr o1 (oth_tr o2 ho'), ?_, hr z n k _ (by omega) hn e4⟩
    rw [xe_X3_feuds_22]
    refine xn (nI_ge (by omega) hn) (xg rfl (xg rfl (xbv e1 (xg rfl (xg rfl (xbv e2 (?_)))))))
    rw [nI_1]
    exact e3
theorem S_feuds (a : Int32) : Same 74 164 [xv_i a] := by
  intro u h
  have hv := h.1
  have hd := h.2.1
  by_cases c : 1 ≤ a ∧ a ≤ 20
  · by_cases e : u.1 9 1 1 + a ≤ 99999
    · obtain ⟨n, hn, rfl⟩ := bd_nI (x := a) (n := 20) (by decide) ⟨Int32.le_trans (by decide) c.1, c.2⟩
      obtain ⟨d0, u0, -, -, o0, -, -⟩ := feuds_loop (n := n) (by omega) n 0 (u.1 9 1) u u (by omega) hd hv
      obtain ⟨d1, u1, i1, v1, o1, e1, -⟩ := feuds_loop (n := n) (by omega) n 0 (u.1 9 1) u u (by omega) hd hv
      obtain ⟨d2, u2, i2, v2, o2, e2, e3⟩ := feuds_loop (n := n) (by omega) n 0 (u.1 9 1) u u1 (by omega) hd hv
      have q := e1.symm.trans e2
      have q1 : u1 = u2 := by injection q with q; exact (Prod.mk.inj q).2
      have q2 : d1 3 = d2 3 := by injection q with q; have := (Prod.mk.inj q).1; injection this with this; injection this
      subst q1
      have e9 : u1.1 9 1 = u.1 9 1 := by rw [o1.1 9 (by decide)]
      rw [← e9, dU_self] at e3
      refine S_val h (r := xv_i (d2 3)) o1 v2 i2 ?_ ?_
      · rw [xe_X3_feuds]
        exact xbi (x_within _ _ _ _) (xg (bI_ne c) (xg rfl (xg rfl (xg ((by rw [hv.2.2.2.1.2.2.1]; exact e)) (e2)))))
      · rw [xe_X4_feuds]
        exact xbi (m_inb _ _ 1 20 rfl rfl) (xg (bI_ne c) (xg rfl (xg (in9n (k := 1) (by decide)) (xg ((by rw [e9]; exact e)) (e3)))))
    · refine S_fail h 4 (r := xv_i (-1000005)) ?_ ?_
      · rw [xe_X3_feuds]
        exact xbi (x_within _ _ _ _) (xg (bI_ne c) (xg rfl (xg rfl (xn ((by rw [hv.2.2.2.1.2.2.1]; exact e)) (xg rfl (xbi (x_f4 _) (rfl)))))))
      · rw [xe_X4_feuds]
        exact xbi (m_inb _ _ 1 20 rfl rfl) (xg (bI_ne c) (xg rfl (xg (in9n (k := 1) (by decide)) (xn ((by rw [us_obj (i := 0) (i' := 9) _ (by decide)]; exact e)) (xg rfl (xbi (m_f4 _) (rfl)))))))
  · refine S_fail h 0 (r := xv_i (-1000001)) ?_ ?_
    · rw [xe_X3_feuds]
      exact xbi (x_within _ _ _ _) (xn (bI_nn c) (xg rfl (xbi (x_f0 _) (rfl))))
    · rw [xe_X4_feuds]
      exact xbi (m_inb _ _ 1 20 rfl rfl) (xn (bI_nn c) (xg rfl (xbi (m_f0 _) (rfl))))
