/-! A YEAR of the class's valley; years -/
theorem il_pos_ne {x : Int32} (h : 2 ≤ x) : ¬ x ≤ 0 ∧ ¬ x = 0 := by
  rw [il_le, show (2 : Int32).toInt = 2 from rfl] at h
  refine ⟨fun z => ?_, fun z => ?_⟩
  · rw [il_le, show (0 : Int32).toInt = 0 from rfl] at z; omega
  · rw [z, show (0 : Int32).toInt = 0 from rfl] at h; omega
theorem v_makers {u : xm_U} {i : Nat} {d : Nat → Int32} (hc : xm_cls i = 2) (hv : vd u i d) (hd : inv d) : xm_C 35 [xv_r i 0] u = some (some (xv_i (if d 1 - d 1 / d 4 * d 4 = 0 then 1 else 0)), u) := by
  obtain ⟨y3, y4, y5, y6, y7⟩ := hv.2.2.2.1
  obtain ⟨q1, q2⟩ := il_pos_ne ((okb_4 _).mp (hd.2.1 4 (by decide) (by decide))).1
  rw [xe_X2_makersCome, y3, y5]
  refine xg hc (xn q1 (xg hc (xg hc (xg q2 ?_))))
  by_cases h : d 1 - d 1 / d 4 * d 4 = 0
  · rw [if_pos h]; exact xn (fun z => z h) (xg nb1 rfl)
  · rw [if_neg h]; exact xg h (xg nb0 rfl)
theorem nN_of {d e : Nat → Int32} (h : e 0 = d 0) : nN e = nN d := by unfold nN; rw [h]
theorem v_year_end {u : xm_U} {i : Nat} {d : Nat → Int32} (hc : xm_cls i = 2) (hv : vd u i d) (hd : inv d) : ∃ u', xm_if (xm_cls i = 2) (xm_if (xm_cls i = 2) (xm_let (xm_us u i 0 5 (if ((u.1 i 0 5) + 1) < 99999 then ((u.1 i 0 5) + 1) else 99999)) (fun u1 => some (none, u1))) none) none = some (none, u') ∧ vd u' i (upd d 1 (held (d 1 + 1) 0 99999)) ∧ oth u u' i := by
  obtain ⟨y, hy, ey⟩ := inv_Y hd
  have p : 0 ≤ d 1 + 1 := by rw [ey, show (1 : Int32) = nI 1 from rfl]; exact nn_add (by omega)
  refine ⟨xm_us u i 0 5 (held (d 1 + 1) 0 99999), ?_, vw_f5 hv _, oth_us _ _ _ _ _⟩
  rw [hv.2.2.2.1.2.2.1, min_held 99999 p]
  exact xg hc (xg hc rfl)
theorem v_year_offer {i : Nat} (hc : xm_cls i = 2) (v1 : Int32) {d : Nat → Int32} (hd : inv d) : ∀ (n k : Nat) (u : xm_U), k + n = nN d → vd u i (offerN d k) → ∃ u', xm_E 33 (xc_X2_passYear.drop 33, [some (xv_r i 0), some (xv_i v1), some (xv_i (nI k))], [], u) = some (none, u') ∧ vd u' i (upd (offerN d (nN d)) 1 (held (offerN d (nN d) 1 + 1) 0 99999)) ∧ oth u u' i := by
  obtain ⟨h8, hN⟩ := inv_nN hd
  intro n
  induction n with
  | zero =>
    intro k u hkn hv
    have : k = nN d := by omega
    subst this
    obtain ⟨u', h1, h2, h3⟩ := v_year_end hc hv (inv_offerN hd _ h8)
    refine ⟨u', ?_, h2, h3⟩
    rw [xe_X2_passYear_33]
    refine xg hc (xg ?_ h1)
    rw [hv.2.2.2.1.2.2.2.2, offerN_low (by decide) (by decide), hN]
    exact nI_le (Nat.le_refl _) (by omega)
  | succ n ih =>
    intro k u hkn hv
    have hi := inv_offerN hd k (by omega)
    have hnn : nN (offerN d k) = nN d := nN_of (offerN_low (by decide) (by decide) k)
    obtain ⟨u1, a1, a2, a3⟩ := v_offer hc hv hi (k := k) (by omega)
    obtain ⟨u2, b1, b2, b3⟩ := ih (k + 1) u1 (by omega) a2
    refine ⟨u2, ?_, b2, oth_tr a3 b3⟩
    rw [xe_X2_passYear_33]
    refine xg hc (xn ?_ (xg hc (xbv a1 ?_)))
    · rw [hv.2.2.2.1.2.2.2.2, offerN_low (by decide) (by decide), hN]
      exact nI_ge (by omega) (by omega)
    · rw [nI_1]
      exact b1
theorem v_year_grow {i : Nat} (hc : xm_cls i = 2) (v1 : Int32) {d : Nat → Int32} (hd : inv d) : ∀ (n k : Nat) (u : xm_U), k + n = nN d → vd u i (growN d k) → ∃ u', xm_E 33 (xc_X2_passYear.drop 19, [some (xv_r i 0), some (xv_i v1), some (xv_i (nI k))], [], u) = some (none, u') ∧ vd u' i (upd (yearB (growN d (nN d))) 1 (held (yearB (growN d (nN d)) 1 + 1) 0 99999)) ∧ oth u u' i := by
  obtain ⟨h8, hN⟩ := inv_nN hd
  intro n
  induction n with
  | zero =>
    intro k u hkn hv
    have : k = nN d := by omega
    subst this
    have hg := inv_growN hd (nN d) h8
    have hle : (u.1 i 0 7 : Int32) ≤ nI (nN d) := by
      rw [hv.2.2.2.1.2.2.2.2, growN_low (by decide), hN]
      exact nI_le (Nat.le_refl _) (by omega)
    have hm := v_makers hc hv hg
    have hn2 : nN (growN d (nN d)) = nN d := nN_of (growN_low (by decide) _)
    generalize growN d (nN d) = d2 at hm hg hv hn2 ⊢
    unfold yearB
    by_cases h : d2 1 - d2 1 / d2 4 * d2 4 = 0
    · rw [if_pos h] at hm ⊢
      obtain ⟨u', b1, b2, b3⟩ := v_year_offer hc v1 hg (nN d2) 0 u (by omega) hv
      refine ⟨u', ?_, b2, b3⟩
      rw [xe_X2_passYear_19]
      exact xg hc (xg hle (xg hc (xbi hm (xn (by decide) b1))))
    · rw [if_neg h] at hm ⊢
      obtain ⟨u', b1, b2, b3⟩ := v_year_end hc hv hg
      refine ⟨u', ?_, b2, b3⟩
      rw [xe_X2_passYear_19]
      exact xg hc (xg hle (xg hc (xbi hm (xg rfl b1))))
  | succ n ih =>
    intro k u hkn hv
    have hi := inv_growN hd k (by omega)
    have hnn : nN (growN d k) = nN d := nN_of (growN_low (by decide) k)
    obtain ⟨u1, a1, a2, a3⟩ := v_grow hc hv hi (k := k) (by omega)
    obtain ⟨u2, b1, b2, b3⟩ := ih (k + 1) u1 (by omega) a2
    refine ⟨u2, ?_, b2, oth_tr a3 b3⟩
    rw [xe_X2_passYear_19]
    refine xg hc (xn ?_ (xg hc (xbv a1 ?_)))
    · rw [hv.2.2.2.1.2.2.2.2, growN_low (by decide), hN]
      exact nI_ge (by omega) (by omega)
    · rw [nI_1]
      exact b1
theorem v_passYear {u : xm_U} {i : Nat} {d : Nat → Int32} (hc : xm_cls i = 2) (hv : vd u i d) (hd : inv d) : ∃ u', xm_C 33 [xv_r i 0] u = some (none, u') ∧ vd u' i (yearG d) ∧ oth u u' i := by
  obtain ⟨j, e, hj, he, e1, e2, e3, e4, e5, e6, e7⟩ := evt_at hd
  have hev := inv_event hd
  have hE : event d = upd d (11 + e / 100) (nI (e % 100)) := by
    unfold event
    rw [e6, e7, nI_clamp (by omega)]
  have w := vw_2 hv (k := e / 100) (by omega) (nI (e % 100))
  rw [← hE] at w
  have hn : nN (event d) = nN d := nN_of (event_low hd (by decide))
  obtain ⟨u', b1, b2, b3⟩ := v_year_grow hc (nI e) hev (nN d) 0 _ (by omega) w
  rw [hn] at b2
  refine ⟨u', ?_, b2, oth_tr (oth_us _ _ _ _ _) b3⟩
  rw [xe_X2_passYear, hv.2.2.2.1.2.2.1, e1, nI_clamp (by omega), hv.2.2.1 j hj, e3]
  have f1 : nI e / 100 = nI (e / 100) := by rw [← e4]; exact e5
  have f2 : nI e - nI e / 100 * 100 = nI (e % 100) := by rw [← e4]; exact e7
  refine xg hc (xg hc (xg ne6 (xg (v_in hc (n := 6) rfl hj (by decide)) (xlt (xg hc (xg ne100 (xg ne100 ?_)))))))
  rw [f2, f1, nI_clamp (by omega)]
  exact xg (v_in hc (n := 6) rfl (by omega) (by decide)) (xlt b1)
theorem v_years_loop {i : Nat} (hc : xm_cls i = 2) {d : Nat → Int32} (hd : inv d) {n : Nat} (hn : n < 2 ^ 31) : ∀ (m k : Nat) (u : xm_U), k + m = n → vd u i (yearsG d k) → ∃ u', xm_E 32 (xc_X2_passYears.drop 2, [some (xv_r i 0), some (xv_i (nI n)), some (xv_i (nI k))], [], u) = some (none, u') ∧ vd u' i (yearsG d n) ∧ oth u u' i := by
  intro m
  induction m with
  | zero =>
    intro k u hk hv
    have : k = n := by omega
    subst this
    refine ⟨u, ?_, hv, oth_rf u i⟩
    rw [xe_X2_passYears_2]
    exact xg (nI_le (Nat.le_refl _) hn) rfl
  | succ m ih =>
    intro k u hk hv
    obtain ⟨u1, a1, a2, a3⟩ := v_passYear hc hv (inv_yearsG hd k)
    obtain ⟨u2, b1, b2, b3⟩ := ih (k + 1) u1 (by omega) a2
    refine ⟨u2, ?_, b2, oth_tr a3 b3⟩
    rw [xe_X2_passYears_2]
    refine xn (nI_ge (by omega) hn) (xg hc (xbv a1 ?_))
    rw [nI_1]
    exact b1
theorem v_passYears {u : xm_U} {i : Nat} {d : Nat → Int32} (hc : xm_cls i = 2) (hv : vd u i d) (hd : inv d) {n : Nat} (hn : n < 2 ^ 31) : ∃ u', xm_C 32 [xv_r i 0, xv_i (nI n)] u = some (none, u') ∧ vd u' i (yearsG d n) ∧ oth u u' i := by
  rw [xe_X2_passYears]
  exact v_years_loop hc hd hn n 0 u (by omega) hv
