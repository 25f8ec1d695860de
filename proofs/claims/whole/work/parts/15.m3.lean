/-! A YEAR, over the reference's row -/
def dU (u : xm_U) (d : Nat → Int32) : xm_U := xm_ua u 9 1 d
theorem dU_d (u : xm_U) (d : Nat → Int32) : (dU u d).1 9 1 = d := ua_row _ _ _ _
theorem dU_us (u : xm_U) (d : Nat → Int32) (k : Nat) (x : Int32) : xm_us (dU u d) 9 1 k x = dU u (upd d k x) := by
  unfold xm_us
  rw [dU_d]
  unfold dU xm_ua
  congr 1
  funext i p
  by_cases h : i = 9 ∧ p = 1
  · simp [h]
  · simp [h]
theorem dU_self (u : xm_U) : dU u (u.1 9 1) = u := by
  obtain ⟨u1, u2⟩ := u
  unfold dU xm_ua
  congr 1
  funext i p
  split
  · rename_i z; rw [z.1, z.2]
  · rfl
theorem dU_dU (u : xm_U) (d e : Nat → Int32) : dU (dU u d) e = dU u e := by
  unfold dU xm_ua
  congr 1
  funext i p
  by_cases h : i = 9 ∧ p = 1
  · simp [h]
  · simp [h]
theorem dU_o (u : xm_U) (d : Nat → Int32) {i p : Nat} (h : ¬ (i = 9 ∧ p = 1)) : (dU u d).1 i p = u.1 i p := ua_arr _ h
theorem held_bd (v c : Int32) (hc : 0 ≤ c) : bd (held v 0 c) c := by
  unfold held bd
  split
  · split
    · exact ⟨by assumption, by assumption⟩
    · exact ⟨hc, by rw [il_le]; omega⟩
  · exact ⟨by rw [il_le]; omega, hc⟩
def ad1 (d : Nat → Int32) (j : Nat) (x c : Int32) : Nat → Int32 := upd d j (held (d j + x) 0 c)
def grow (d : Nat → Int32) (k : Nat) : Nat → Int32 := ad1 (ad1 (ad1 (ad1 d (39 + k) (hears d k) 999) (47 + k) (follows d k) 99) (55 + k) (splits d k) 9) (63 + k) 1 9999
def growN (d : Nat → Int32) : Nat → Nat → Int32
  | 0 => d
  | n + 1 => grow (growN d n) n
noncomputable def offer (d : Nat → Int32) (k : Nat) : Nat → Int32 := @ite _ (ringsP d k) (Classical.propDecidable _) (upd (upd (upd (upd (ad1 (upd d 3 (held (d 3 + fetches d k) 0 99999)) (71 + k) 1 9999) (39 + k) 0) (47 + k) 0) (55 + k) 0) (63 + k) 0) d
noncomputable def offerN (d : Nat → Int32) : Nat → Nat → Int32
  | 0 => d
  | n + 1 => offer (offerN d n) n
def evt (d : Nat → Int32) : Int32 := d ((17 + (d 1 - d 1 / 6 * 6)).toNatClampNeg)
def event (d : Nat → Int32) : Nat → Int32 := upd d ((11 + evt d / 100).toNatClampNeg) (evt d - evt d / 100 * 100)
def nN (d : Nat → Int32) : Nat := (d 0).toNatClampNeg
noncomputable def yearB (d : Nat → Int32) : Nat → Int32 := if d 1 - d 1 / d 4 * d 4 = 0 then offerN d (nN d) else d
noncomputable def yearG (d : Nat → Int32) : Nat → Int32 := upd (yearB (growN (event d) (nN d))) 1 (held (yearB (growN (event d) (nN d)) 1 + 1) 0 99999)
noncomputable def yearsG (d : Nat → Int32) : Nat → Nat → Int32
  | 0 => d
  | n + 1 => yearG (yearsG d n)
theorem inv_ad1 {d : Nat → Int32} (h : inv d) {j : Nat} {x c : Int32} (h1 : 1 ≤ j) (h2 : j < 79) (hc : 0 ≤ c) (hx : ∀ v, bd v c → okb j v) : inv (ad1 d j x c) := inv_upd h h1 h2 (hx _ (held_bd _ _ hc))
theorem inv_grow {d : Nat → Int32} (h : inv d) {k : Nat} (hk : k < 8) : inv (grow d k) := by
  unfold grow
  refine inv_ad1 (inv_ad1 (inv_ad1 (inv_ad1 h ?_ ?_ (by decide) (fun v hv => (okb_39 hk v).mpr hv)) ?_ ?_ (by decide) (fun v hv => (okb_47 hk v).mpr hv)) ?_ ?_ (by decide) (fun v hv => (okb_55 hk v).mpr hv)) ?_ ?_ (by decide) (fun v hv => (okb_63 hk v).mpr hv) <;> omega
theorem bd0 (c : Int32) (hc : 0 ≤ c) : bd 0 c := ⟨by decide, hc⟩
theorem inv_offer {d : Nat → Int32} (h : inv d) {k : Nat} (hk : k < 8) : inv (offer d k) := by
  unfold offer
  split
  · refine inv_upd (inv_upd (inv_upd (inv_upd (inv_ad1 (inv_upd h (by decide) (by decide) ((okb_3 _).mpr (held_bd _ _ (by decide)))) ?_ ?_ (by decide) (fun v hv => (okb_71 hk v).mpr hv)) ?_ ?_ ((okb_39 hk _).mpr (bd0 _ (by decide)))) ?_ ?_ ((okb_47 hk _).mpr (bd0 _ (by decide)))) ?_ ?_ ((okb_55 hk _).mpr (bd0 _ (by decide)))) ?_ ?_ ((okb_63 hk _).mpr (bd0 _ (by decide))) <;> omega
  · exact h
theorem inv_growN {d : Nat → Int32} (h : inv d) : ∀ n, n ≤ 8 → inv (growN d n)
  | 0, _ => h
  | n + 1, hn => inv_grow (inv_growN h n (by omega)) (by omega)
theorem inv_offerN {d : Nat → Int32} (h : inv d) : ∀ n, n ≤ 8 → inv (offerN d n)
  | 0, _ => h
  | n + 1, hn => inv_offer (inv_offerN h n (by omega)) (by omega)
theorem upd_ne {f : Nat → Int32} {j i : Nat} {x : Int32} (h : i ≠ j) : upd f j x i = f i := if_neg h
theorem upd_eq {f : Nat → Int32} {j : Nat} {x : Int32} : upd f j x j = x := if_pos rfl
/-- low places (but gold) stay in growing and offering -/
theorem grow_low {d : Nat → Int32} {k j : Nat} (hj : j < 39) : grow d k j = d j := by
  unfold grow ad1
  rw [upd_ne (by omega), upd_ne (by omega), upd_ne (by omega), upd_ne (by omega)]
theorem growN_low {d : Nat → Int32} {j : Nat} (hj : j < 39) : ∀ n, growN d n j = d j
  | 0 => rfl
  | n + 1 => (grow_low hj).trans (growN_low hj n)
theorem offer_low {d : Nat → Int32} {k j : Nat} (hj : j < 39) (h3 : j ≠ 3) : offer d k j = d j := by
  unfold offer ad1
  split
  · rw [upd_ne (by omega), upd_ne (by omega), upd_ne (by omega), upd_ne (by omega), upd_ne (by omega), upd_ne (by omega)]
  · rfl
theorem offerN_low {d : Nat → Int32} {j : Nat} (hj : j < 39) (h3 : j ≠ 3) : ∀ n, offerN d n j = d j
  | 0 => rfl
  | n + 1 => (offer_low hj h3).trans (offerN_low hj h3 n)
theorem m_year_grow (u : xm_U) (v1 : Int32) {N : Nat} (h8 : N ≤ 8) (d : Nat → Int32) (hd : inv d) (hN : d 0 = nI N) (r : xm_R) (hk : xm_E 128 (xc_X4_yearGoes.drop 71, [some (xv_r 9 0), some (xv_i v1), some (xv_i 0), none, none, none], [], dU u (growN d N)) = some r) : ∀ (n k : Nat), k + n = N → xm_E 128 (xc_X4_yearGoes.drop 25, [some (xv_r 9 0), some (xv_i v1), some (xv_i (nI k)), none, none, none], [], dU u (growN d k)) = some r := by
  intro n
  induction n with
  | zero =>
    intro k hkn
    have : k = N := by omega
    subst this
    rw [xe_X4_yearGoes_25, dU_d, growN_low (by decide), hN]
    exact xg rfl (xg in9_0 (xg (nI_le (Nat.le_refl _) (by omega)) hk))
  | succ n ih =>
    intro k hkn
    rw [xe_X4_yearGoes_25, dU_d, growN_low (by decide), hN]
    have hi := inv_growN hd k (by omega)
    have h8' : k < 8 := by omega
    refine xg rfl (xg in9_0 (xn (nI_ge (by omega) (by omega)) (xg rfl (xbi (m_hears _ (by rw [dU_d]; exact hi) h8') ?_))))
    refine xg rfl (xbi (m_follows _ (by rw [dU_d]; exact hi) h8') (xg rfl (xbi (m_splits _ (by rw [dU_d]; exact hi) h8') ?_)))
    refine xg rfl (xbv (m_adds2 _ h8' _ _) (xg rfl (xbv (m_adds3 _ h8' _ _) (xg rfl (xbv (m_adds4 _ h8' _ _) (xg rfl (xbv (m_adds5 _ h8' _ _) ?_)))))))
    simp only [dU_d, dU_us]
    rw [nI_1]
    refine xm_E_mono ?_ (ih (k + 1) (by omega))
    refine ⟨rfl, fun i v hv => ?_⟩
    match i, hv with
    | 0, hv => exact hv
    | 1, hv => exact hv
    | 2, hv => exact hv
    | 3, hv => cases hv
    | 4, hv => cases hv
    | 5, hv => cases hv
    | i + 6, hv => cases hv
theorem offer_t {d : Nat → Int32} {k : Nat} (h : ringsP d k) : offer d k = upd (upd (upd (upd (ad1 (upd d 3 (held (d 3 + fetches d k) 0 99999)) (71 + k) 1 9999) (39 + k) 0) (47 + k) 0) (55 + k) 0) (63 + k) 0 := if_pos h
theorem offer_f {d : Nat → Int32} {k : Nat} (h : ¬ ringsP d k) : offer d k = d := if_neg h
theorem inv_4 {d : Nat → Int32} (h : inv d) : ¬ d 4 = 0 := by
  intro z
  have := ((okb_4 _).mp (h.2.1 4 (by decide) (by decide))).1
  rw [z] at this
  exact absurd this (by decide)
theorem m_year_end (u : xm_U) (d : Nat → Int32) : xm_if (xm_cls 9 = 4) (xm_if (xm_cls 9 = 4) (xm_if (xm_in 9 1 1) (xm_bi (xm_C 112 [xv_i (((dU u d).1 9 1 1) + 1), xv_i 0, xv_i 99999] (dU u d)) (fun r2 u1 => xm_if (xm_in 9 1 1) (xm_let (xm_us u1 9 1 1 r2) (fun u3 => some (none, u3))) none)) none) none) none = some (none, dU u (upd d 1 (held (d 1 + 1) 0 99999))) := by
  rw [dU_d]
  refine xg rfl (xg rfl (xg in9_1 (xbi (m_held _ _ _ _) (xg in9_1 (xlt ?_)))))
  rw [dU_us]
theorem m_year_offer (u : xm_U) (v1 : Int32) {N : Nat} (h8 : N ≤ 8) (d : Nat → Int32) (hd : inv d) (hN : d 0 = nI N) (hY : d 1 - d 1 / d 4 * d 4 = 0) : ∀ (n k : Nat), k + n = N → xm_E 128 (xc_X4_yearGoes.drop 71, [some (xv_r 9 0), some (xv_i v1), some (xv_i (nI k)), none, none, none], [], dU u (offerN d k)) = some (none, dU u (upd (offerN d N) 1 (held (offerN d N 1 + 1) 0 99999))) := by
  intro n
  induction n with
  | zero =>
    intro k hkn
    have : k = N := by omega
    subst this
    rw [xe_X4_yearGoes_71]
    refine xg rfl (xg in9_0 (xg ?_ (m_year_end u _)))
    rw [dU_d, offerN_low (by decide) (by decide), hN]
    exact nI_le (Nat.le_refl _) (by omega)
  | succ n ih =>
    intro k hkn
    have hi := inv_offerN hd k (by omega)
    have h8' : k < 8 := by omega
    have e0 : offerN d k 0 = nI N := by rw [offerN_low (by decide) (by decide), hN]
    have e1 : offerN d k 1 = d 1 := offerN_low (by decide) (by decide) k
    have e4 : offerN d k 4 = d 4 := offerN_low (by decide) (by decide) k
    rw [xe_X4_yearGoes_71]
    refine xg rfl (xg in9_0 (xn ?_ ?_))
    · rw [dU_d, e0]
      exact nI_ge (by omega) (by omega)
    refine xg rfl (xg in9_1 (xg rfl (xg in9_4 (xg ?_ (xn ?_ (xg rfl (xbi (m_isRinging _ h8') ?_)))))))
    · rw [dU_d]
      exact inv_4 hi
    · rw [dU_d, e1, e4]
      exact fun z => z hY
    rw [dU_d]
    by_cases hr : ringsP (offerN d k) k
    · rw [ringsI_t hr]
      refine xn (by decide) (xg rfl (xg rfl (xg in9_3 (xg rfl (xbi (m_fetches _ (by rw [dU_d]; exact hi) h8') (xbi (m_held _ _ _ _) (xg in9_3 (xlt ?_))))))))
      refine xg rfl (xbv (m_adds6 _ h8' _ _) (xg rfl (xbv (m_sets2 _ h8' _) (xg rfl (xbv (m_sets3 _ h8' _) (xg rfl (xbv (m_sets4 _ h8' _) (xg rfl (xbv (m_sets5 _ h8' _) ?_)))))))))
      simp only [dU_d, dU_us]
      rw [nI_1]
      have := ih (k + 1) (by omega)
      rw [show offerN d (k + 1) = offer (offerN d k) k from rfl, offer_t hr] at this
      exact this
    · rw [ringsI_f hr]
      refine xg rfl ?_
      rw [nI_1]
      have := ih (k + 1) (by omega)
      rw [show offerN d (k + 1) = offer (offerN d k) k from rfl, offer_f hr] at this
      exact this
