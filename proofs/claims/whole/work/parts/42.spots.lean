/-! spots -/
theorem sp_iff {b c : Int32} (h : ¬ b = -1) : (-1 ≤ b ∧ b ≤ c) ↔ bd b c := by
  have e : (-1 : Int32).toInt = -1 := by decide
  have e0 : (0 : Int32).toInt = 0 := by decide
  have h2 : ¬ b.toInt = -1 := fun q => h (Int32.toInt_inj.mp (q.trans e.symm))
  unfold bd
  rw [il_le, il_le, il_le, e, e0]
  omega
theorem m1_N : ∀ N, N < 9 → (-1 : Int32) ≤ nI N - 1 := by decide +kernel
theorem inv_sp {d : Nat → Int32} (h : inv d) {s : Nat} (hs : s < 10) {x : Int32} (hx : bd x (d 0)) : inv (upd d (79 + s) x) := by
  refine ⟨?_, fun i hi1 hi2 => ?_, fun s' hs' => ?_⟩
  · rw [upd_ne (by omega)]; exact h.1
  · rw [upd_ne (by omega)]; exact h.2.1 i hi1 hi2
  · rw [upd_ne (show 0 ≠ 79 + s by omega)]
    by_cases e : s' = s
    · subst e; rw [upd_eq]; exact hx
    · rw [upd_ne (by omega)]; exact h.2.2 s' hs'
theorem S_hold (a b : Int32) : Same 80 185 [xv_i a, xv_i b] := by
  intro u h
  have hv := h.1
  have hd := h.2.1
  obtain ⟨h8, hN⟩ := inv_nN hd
  by_cases H : bd a 9
  · obtain ⟨s, hs, rfl⟩ := bd_nI (n := 9) (by decide) H
    have go : bd (b + 1) (u.1 9 1 0) → -1 ≤ b ∧ b ≤ u.1 9 1 0 - 1 → xm_C 80 [xv_r 0 0, xv_i (nI s), xv_i b] u = some (some (xv_i 1), xm_us u 1 16 s b) → ∃ r u1 u2, xm_C 80 [xv_r 0 0, xv_i (nI s), xv_i b] u = some (some r, u1) ∧ xm_C 185 [xv_r 9 0, xv_i (nI s), xv_i b] u1 = some (some r, u2) ∧ Rel u2 := fun B M e => by
      refine S_val h (r := xv_i 1) (oth_us _ _ _ _ _) (vw_16 hv (k := s) (by omega) b) (inv_sp hd (by omega) B) e ?_
      have e9 : (xm_us u 1 16 s b).1 9 1 = u.1 9 1 := by rw [us_obj (i := 1) (i' := 9) _ (by decide)]
      have M2 : -1 ≤ b ∧ b ≤ (xm_us u 1 16 s b).1 9 1 0 - 1 := by rw [e9]; exact M
      rw [xe_X4_hold, show (79 : Int32) = nI 79 from rfl, nI_add, nI_clamp (by omega)]
      refine xbi (m_inb _ _ 0 9 rfl rfl) (xn (bI_ne H) (xg rfl (xg (in9n (k := 0) (by decide)) (xbi (m_inb _ _ (-1) _ rfl rfl) (xg (bI_ne M2) (xg rfl (xg (in9n (by omega)) (xlt (?_)))))))))
      rw [us_dU, e9]
    by_cases c : b = -1
    · subst c
      refine go ?_ ⟨Int32.le_refl _, by rw [hN]; exact m1_N _ (by omega)⟩ ?_
      · rw [hN]; exact bd_of (k := 0) (by omega) (by omega)
      · rw [xe_X3_hold, nI_clamp (by omega)]
        exact xbi (x_isSpot _ _) (xn (bI_ne H) (xg rfl (xg rfl (xg rfl (xg (v_in rfl (n := 10) rfl (by omega) (by decide)) (xlt (rfl)))))))
    · by_cases P : bd b (u.1 9 1 0 - 1)
      · obtain ⟨k, hk, rfl⟩ := plank_nI hd P
        refine go ?_ ((sp_iff c).mpr P) ?_
        · rw [hN, nI_1]; exact bd_of (by omega) (by omega)
        · rw [xe_X3_hold, nI_clamp (n := s) (by omega)]
          exact xbi (x_isSpot _ _) (xn (bI_ne H) (xn c (xg rfl (xbi (x_isPlank _ _ hv) (xg (bI_ne P) (xg rfl (xg rfl (xg (v_in rfl (n := 10) rfl (by omega) (by decide)) (xlt (rfl))))))))))
      · refine S_fail h 0 (r := xv_i (-1000001)) ?_ ?_
        · rw [xe_X3_hold]
          exact xbi (x_isSpot _ _) (xn (bI_ne H) (xn c (xg rfl (xbi (x_isPlank _ _ hv) (xn (bI_nn P) (xg rfl (xbi (x_f0 _) (rfl))))))))
        · have M2 : ¬ (-1 ≤ b ∧ b ≤ (xm_us u 0 7 0 (u.1 0 7 0 + 1)).1 9 1 0 - 1) := by rw [us_obj (i := 0) (i' := 9) _ (by decide)]; exact fun q => P ((sp_iff c).mp q)
          rw [xe_X4_hold]
          exact xbi (m_inb _ _ 0 9 rfl rfl) (xn (bI_ne H) (xg rfl (xg (in9n (k := 0) (by decide)) (xbi (m_inb _ _ (-1) _ rfl rfl) (xn (bI_nn M2) (xg rfl (xbi (m_f0 _) (rfl))))))))
  · refine S_fail h 0 (r := xv_i (-1000001)) ?_ ?_
    · rw [xe_X3_hold]
      exact xbi (x_isSpot _ _) (xg (bI_f H) (xg rfl (xbi (x_f0 _) (rfl))))
    · rw [xe_X4_hold]
      exact xbi (m_inb _ _ 0 9 rfl rfl) (xg (bI_f H) (xg rfl (xbi (m_f0 _) (rfl))))
/-! kinds under kinds -/
def undL : Nat → List Nat
  | 1 => [1, 0]
  | 2 => [2, 0]
  | 3 => [3, 2, 0]
  | 4 => [4, 3, 2, 0]
  | 5 => [5, 0]
  | 6 => [6, 1, 0]
  | _ => [0]
theorem und_end (v0 v1 : Int32) (u : xm_U) {i : Nat} (hi : i < 7) : xm_E 109 (xc_X3_isKindOrUnder.drop 4, [some (xv_i v0), some (xv_i v1), some (xv_i (-1)), some (xv_i (nI i))], [], u) = some (some (xv_i 0), u) := by
  rw [xe_X3_isKindOrUnder_4]
  exact xn (nI_ge (b := 7) hi (by decide)) (xbi (x_within _ _ _ _) (xg (bI_f ((show ¬ ((0 : Int32) ≤ -1 ∧ (-1 : Int32) ≤ 6) by decide))) (xg nb0 (rfl))))
theorem und_st (v0 : Int32) (u : xm_U) {a c i : Nat} (ha : a < 7) (hc : c < 7) (hi : i < 6) (L : List Nat) (e : xm_E 109 (xc_X3_isKindOrUnder.drop 4, [some (xv_i v0), some (xv_i (nI c)), some (xv_i (xm_t2 a)), some (xv_i (nI (i + 1)))], [], u) = some (some (xv_i (if c ∈ L then 1 else 0)), u)) : xm_E 109 (xc_X3_isKindOrUnder.drop 4, [some (xv_i v0), some (xv_i (nI c)), some (xv_i (nI a)), some (xv_i (nI i))], [], u) = some (some (xv_i (if c ∈ a :: L then 1 else 0)), u) := by
  have B : 0 ≤ nI a ∧ nI a ≤ 6 := bd_of (n := 6) (by omega) (by decide)
  rw [xe_X3_isKindOrUnder_4, nI_clamp (n := a) (by omega), nI_1 i]
  by_cases q : a = c
  · subst q
    rw [if_pos List.mem_cons_self]
    exact xn (nI_ge (b := 7) (by omega) (by decide)) (xbi (x_within _ _ _ _) (xn (bI_ne B) (xn ((fun q => q rfl)) (xg nb1 (rfl)))))
  · have m : (c ∈ a :: L) = (c ∈ L) := by
      apply propext
      rw [List.mem_cons]
      exact ⟨fun z => z.resolve_left (fun z => q z.symm), fun z => Or.inr z⟩
    simp only [m]
    exact xn (nI_ge (b := 7) (by omega) (by decide)) (xbi (x_within _ _ _ _) (xn (bI_ne B) (xg ((fun z => q ((nI_eq (by omega) (by omega)).mp z))) (xg (vp_in_nI ha (by decide)) (xlt (e))))))
theorem x_under (u : xm_U) {a c : Nat} (ha : a < 7) (hc : c < 7) : xm_C 109 [xv_i (nI a), xv_i (nI c)] u = some (some (xv_i (if c ∈ undL a then 1 else 0)), u) := by
  rw [xe_X3_isKindOrUnder]
  have z : ∀ v0, ∀ i, i < 5 → xm_E 109 (xc_X3_isKindOrUnder.drop 4, [some (xv_i v0), some (xv_i (nI c)), some (xv_i (nI 0)), some (xv_i (nI i))], [], u) = some (some (xv_i (if c ∈ [0] then 1 else 0)), u) := fun v0 i hi => und_st v0 u (by decide) hc (by omega) [] (und_end v0 _ u (by omega))
  match a, ha with
  | 0, _ => exact z _ 0 (by decide)
  | 1, _ => exact und_st _ u (a := 1) (by decide) hc (i := 0) (by decide) [0] (z _ 1 (by decide))
  | 2, _ => exact und_st _ u (a := 2) (by decide) hc (i := 0) (by decide) [0] (z _ 1 (by decide))
  | 3, _ => exact und_st _ u (a := 3) (by decide) hc (i := 0) (by decide) [2, 0] (und_st _ u (a := 2) (by decide) hc (i := 1) (by decide) [0] (z _ 2 (by decide)))
  | 4, _ => exact und_st _ u (a := 4) (by decide) hc (i := 0) (by decide) [3, 2, 0] (und_st _ u (a := 3) (by decide) hc (i := 1) (by decide) [2, 0] (und_st _ u (a := 2) (by decide) hc (i := 2) (by decide) [0] (z _ 3 (by decide))))
  | 5, _ => exact und_st _ u (a := 5) (by decide) hc (i := 0) (by decide) [0] (z _ 1 (by decide))
  | 6, _ => exact und_st _ u (a := 6) (by decide) hc (i := 0) (by decide) [1, 0] (und_st _ u (a := 1) (by decide) hc (i := 1) (by decide) [0] (z _ 2 (by decide)))
def abN : Nat → Nat
  | 3 => 2
  | 4 => 3
  | 6 => 1
  | _ => 0
theorem m_above (u : xm_U) {a : Nat} (ha : a < 7) : xm_C 186 [xv_i (nI a)] u = some (some (xv_i (nI (abN a))), u) := by
  rw [xe_X4_above]
  match a, ha with
  | 0, _ => exact xg ((by decide)) (xg ((by decide)) (xg ((by decide)) (rfl)))
  | 1, _ => exact xg ((by decide)) (xg ((by decide)) (xg ((by decide)) (rfl)))
  | 2, _ => exact xg ((by decide)) (xg ((by decide)) (xg ((by decide)) (rfl)))
  | 3, _ => exact xn ((fun q => q rfl)) (rfl)
  | 4, _ => exact xg ((by decide)) (xn ((fun q => q rfl)) (rfl))
  | 5, _ => exact xg ((by decide)) (xg ((by decide)) (xg ((by decide)) (rfl)))
  | 6, _ => exact xg ((by decide)) (xg ((by decide)) (xn ((fun q => q rfl)) (rfl)))
theorem abN_lt : ∀ a, a < 7 → abN a < 7 := by decide
theorem und_iff : ∀ a, a < 7 → ∀ c, c < 7 → (c ∈ undL a ↔ (c = 0 ∨ c = a ∨ c = abN a ∨ c = abN (abN a))) := by decide
theorem S_as (a b : Int32) : Same 81 187 [xv_i a, xv_i b] := by
  intro u h
  have hv := h.1
  have hd := h.2.1
  obtain ⟨h8, hN⟩ := inv_nN hd
  by_cases H : bd a 9
  · by_cases K : bd b 6
    · obtain ⟨s, hs, rfl⟩ := bd_nI (n := 9) (by decide) H
      obtain ⟨c, hc, rfl⟩ := bd_nI (n := 6) (by decide) K
      obtain ⟨t, ht, et⟩ := inv_S hd (s := s) (by omega)
      have es := hv.2.2.2.2.2 s (by omega)
      have g16 : xm_in 1 16 (nI s) := v_in rfl (n := 10) rfl (by omega) (by decide)
      by_cases t0 : t = 0
      · subst t0
        rw [et] at es
        have np : ¬ bd (nI 0 - 1) (u.1 9 1 0 - 1) := fun q => absurd q.1 (by decide)
        refine S_fail h 5 (r := xv_i (-1000006)) ?_ ?_
        · rw [xe_X3_as, nI_clamp (n := s) (by omega)]
          refine xbi (x_isSpot _ _) (xn (bI_ne H) (xbi (x_within _ _ _ _) (xg (bI_ne K) (xg rfl (xg rfl (xg g16 (xlt (?_))))))))
          rw [es]
          exact xg rfl (xbi (x_isPlank _ _ hv) (xn (bI_nn np) (xg rfl (xbi (x_f5 _) (rfl)))))
        · rw [xe_X4_as, show (79 : Int32) = nI 79 from rfl, nI_add, nI_clamp (by omega)]
          exact xbi (m_inb _ _ 0 9 rfl rfl) (xn (bI_ne H) (xbi (m_inb _ _ 0 6 rfl rfl) (xg (bI_ne K) (xg rfl (xg (in9n (by omega)) (xn ((fun q => q (by rw [us_obj (i := 0) (i' := 9) _ (by decide), et]; rfl))) (xg rfl (xbi (m_f5 _) (rfl)))))))))
      · obtain ⟨j, rfl⟩ : ∃ j, t = j + 1 := ⟨t - 1, by omega⟩
        rw [et, nI_pred] at es
        have P : bd (nI j) (u.1 9 1 0 - 1) := by
          rw [hN]
          exact ((sp_iff (fun q => nI_nle1 (n := j) (by omega) (q ▸ Int32.le_refl _))).mp ⟨Int32.le_trans (show (-1 : Int32) ≤ 0 by decide) (nI_pos' (by omega)), by obtain ⟨m, hm⟩ : ∃ m, nN (u.1 9 1) = m + 1 := ⟨nN (u.1 9 1) - 1, by omega⟩; rw [hm, nI_pred]; exact nI_le (by omega) (by omega)⟩)
        obtain ⟨k, hk, ek⟩ := bd_nI (n := 6) (by decide) ((okb_23 (k := j) (by omega) _).mp (hd.2.1 (23 + j) (by omega) (by omega)))
        have g9 : xm_in 1 9 (nI j) := v_in rfl (n := 8) rfl (by omega) (by decide)
        have e9 : u.1 1 9 j = nI k := (hv.2.2.2.2.1 j (by omega)).1.trans ek
        have xu := x_under u (a := k) (c := c) (by omega) (by omega)
        have n0 : ¬ nI (j + 1) = 0 := nI_ne0 (by omega) (by omega)
        have mi : ∀ z : xm_U, z.1 9 1 = u.1 9 1 → xm_C 117 [xv_r 9 0, xv_i (nI (j + 1) - 1), xv_i 0] z = some (some (xv_i (nI k)), z) := fun z hz => by rw [nI_pred, m_its0 z (by omega), hz, ek]
        have ui := und_iff k (by omega) c (by omega)
        have ne : ∀ {x y : Nat}, x < 7 → y < 7 → ¬ x = y → ¬ nI x = nI y := fun hx hy q z => q ((nI_eq (by omega) (by omega)).mp z)
        by_cases U : c ∈ undL k
        · rw [if_pos U] at xu
          refine S_read h (r := xv_i (nI j)) ?_ ?_
          · rw [xe_X3_as, nI_clamp (n := s) (by omega)]
            refine xbi (x_isSpot _ _) (xn (bI_ne H) (xbi (x_within _ _ _ _) (xg (bI_ne K) (xg rfl (xg rfl (xg g16 (xlt (?_))))))))
            rw [es, nI_clamp (n := j) (by omega)]
            refine xg rfl (xbi (x_isPlank _ _ hv) (xg (bI_ne P) (xg rfl (xg rfl (xg g9 (?_))))))
            rw [e9]
            exact xbi xu (xn ((by decide)) (rfl))
          · rw [xe_X4_as, show (79 : Int32) = nI 79 from rfl, nI_add, nI_clamp (by omega)]
            refine xbi (m_inb _ _ 0 9 rfl rfl) (xn (bI_ne H) (xbi (m_inb _ _ 0 6 rfl rfl) (xg (bI_ne K) (xg rfl (xg (in9n (by omega)) (?_))))))
            rw [et, nI_pred]
            have mi' := mi u rfl
            rw [nI_pred] at mi'
            have ka := abN_lt k (by omega)
            by_cases c0 : c = 0
            · exact xg n0 (xg rfl (xg (in9n (by omega)) (xlt (xg rfl (xbi mi' (xg ((by rw [c0]; rfl)) (rfl)))))))
            by_cases c1 : c = k
            · exact xg n0 (xg rfl (xg (in9n (by omega)) (xlt (xg rfl (xbi mi' (xn (ne (y := 0) (by omega) (by decide) c0) (xg ((by rw [c1])) (rfl))))))))
            by_cases c2 : c = abN k
            · exact xg n0 (xg rfl (xg (in9n (by omega)) (xlt (xg rfl (xbi mi' (xn (ne (y := 0) (by omega) (by decide) c0) (xn (ne (by omega) (by omega) c1) (xbi (m_above u (by omega)) (xg ((by rw [c2])) (rfl))))))))))
            have c3 : c = abN (abN k) := (((ui.mp U).resolve_left c0).resolve_left c1).resolve_left c2
            exact xg n0 (xg rfl (xg (in9n (by omega)) (xlt (xg rfl (xbi mi' (xn (ne (y := 0) (by omega) (by decide) c0) (xn (ne (by omega) (by omega) c1) (xbi (m_above u (by omega)) (xn (ne (by omega) (by omega) c2) (xbi (m_above u (by omega)) (xbi (m_above u (by omega)) (xn ((fun q => q (by rw [c3]))) (rfl)))))))))))))
        · rw [if_neg U] at xu
          have c0 : ¬ c = 0 := fun q => U (ui.mpr (Or.inl q))
          have c1 : ¬ c = k := fun q => U (ui.mpr (Or.inr (Or.inl q)))
          have c2 : ¬ c = abN k := fun q => U (ui.mpr (Or.inr (Or.inr (Or.inl q))))
          have c3 : ¬ c = abN (abN k) := fun q => U (ui.mpr (Or.inr (Or.inr (Or.inr q))))
          have ka := abN_lt k (by omega)
          have kb := abN_lt _ ka
          refine S_fail h 2 (r := xv_i (-1000003)) ?_ ?_
          · rw [xe_X3_as, nI_clamp (n := s) (by omega)]
            refine xbi (x_isSpot _ _) (xn (bI_ne H) (xbi (x_within _ _ _ _) (xg (bI_ne K) (xg rfl (xg rfl (xg g16 (xlt (?_))))))))
            rw [es, nI_clamp (n := j) (by omega)]
            refine xg rfl (xbi (x_isPlank _ _ hv) (xg (bI_ne P) (xg rfl (xg rfl (xg g9 (?_))))))
            rw [e9]
            exact xbi xu (xg rfl (xg rfl (xbi (x_f2 _) (rfl))))
          · have e0 : (xm_us u 0 7 2 (u.1 0 7 2 + 1)).1 9 1 = u.1 9 1 := by rw [us_obj (i := 0) (i' := 9) _ (by decide)]
            have mi' := mi (xm_us u 0 7 2 (u.1 0 7 2 + 1)) e0
            rw [nI_pred] at mi'
            rw [xe_X4_as, show (79 : Int32) = nI 79 from rfl, nI_add, nI_clamp (by omega)]
            refine xbi (m_inb _ _ 0 9 rfl rfl) (xn (bI_ne H) (xbi (m_inb _ _ 0 6 rfl rfl) (xg (bI_ne K) (xg rfl (xg (in9n (by omega)) (?_))))))
            rw [e0, et, nI_pred]
            exact xg n0 (xg rfl (xg (in9n (by omega)) (xlt (xg rfl (xbi mi' (xn (ne (y := 0) (by omega) (by decide) c0) (xn (ne (by omega) (by omega) c1) (xbi (m_above _ (by omega)) (xn (ne (by omega) (by omega) c2) (xbi (m_above _ (by omega)) (xbi (m_above _ (by omega)) (xg (ne (by omega) (by omega) c3) (xg rfl (xbi (m_f2 _) (rfl)))))))))))))))
    · refine S_fail h 0 (r := xv_i (-1000001)) ?_ ?_
      · rw [xe_X3_as]
        exact xbi (x_isSpot _ _) (xn (bI_ne H) (xbi (x_within _ _ _ _) (xn (bI_nn K) (xg rfl (xbi (x_f0 _) (rfl))))))
      · rw [xe_X4_as]
        exact xbi (m_inb _ _ 0 9 rfl rfl) (xn (bI_ne H) (xbi (m_inb _ _ 0 6 rfl rfl) (xn (bI_nn K) (xg rfl (xbi (m_f0 _) (rfl))))))
  · refine S_fail h 0 (r := xv_i (-1000001)) ?_ ?_
    · rw [xe_X3_as]
      exact xbi (x_isSpot _ _) (xg (bI_f H) (xg rfl (xbi (x_f0 _) (rfl))))
    · rw [xe_X4_as]
      exact xbi (m_inb _ _ 0 9 rfl rfl) (xg (bI_f H) (xg rfl (xbi (m_f0 _) (rfl))))
