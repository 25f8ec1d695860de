/-! sheets become others -/
theorem Rel_sh {u z : xm_U} (h : Rel u) (h0 : ∀ i, i < 5 → i ≠ 2 → z.1 i = u.1 i) (hp : ∀ p, p = 0 ∨ p = 1 ∨ p = 4 ∨ p = 6 ∨ p = 7 → z.1 9 p = u.1 9 p) (hs : sh z) : Rel z := by
  obtain ⟨r1, r2, r3, r4, r5, r6⟩ := h
  refine ⟨?_, ?_, ?_, ?_, ?_, hs⟩
  · rw [hp 1 (by decide)]; exact vd_of (h0 1 (by decide) (by decide)) r1
  · rw [hp 1 (by decide)]; exact r2
  · unfold kp at r3 ⊢
    rw [h0 0 (by decide) (by decide), hp 0 (by decide), hp 4 (by decide)]
    exact ⟨r3.1, r3.2.1, fun q => ⟨vd_of (h0 3 (by decide) (by decide)) (r3.2.2 q).1, (r3.2.2 q).2⟩⟩
  · intro k hk
    rw [h0 0 (by decide) (by decide), hp 6 (by decide)]
    exact r4 k hk
  · unfold tp at r5 ⊢
    rw [h0 4 (by decide) (by decide), hp 0 (by decide), hp 7 (by decide)]
    exact r5
theorem x_begin_loop {s : Nat} (hs4 : s < 4) (v1 v2 : Int32) : ∀ (m k : Nat) (u : xm_U), k + m = 40 → (∀ j, j < k → u.1 (5 + s) 3 j = 0) → ∃ u', xm_E 1 (xc_X0_begin.drop 14, [some (xv_r (5 + s) 0), some (xv_i v1), some (xv_i v2), some (xv_i (nI k))], [], u) = some (none, u') ∧ (∀ j, j < 40 → u'.1 (5 + s) 3 j = 0) ∧ u'.1 (5 + s) 0 = u.1 (5 + s) 0 ∧ oth u u' (5 + s) := by
  have hc := cls_s hs4
  intro m
  induction m with
  | zero =>
    intro k u hk h0
    have : k = 40 := by omega
    subst this
    refine ⟨u, ?_, h0, rfl, oth_rf _ _⟩
    rw [xe_X0_begin_14]
    exact xg (nI_le (a := 40) (Nat.le_refl _) (by decide)) (rfl)
  | succ m ih =>
    intro k u hk h0
    obtain ⟨u', e, a1, a2, a3⟩ := ih (k + 1) (xm_us u (5 + s) 3 k 0) (by omega) (fun j hj => by
      rw [us_row]
      unfold upd
      by_cases q : j = k
      · rw [if_pos q]
      · rw [if_neg q]; exact h0 j (by omega))
    refine ⟨u', ?_, a1, ?_, oth_tr (oth_us _ _ _ _ _) a3⟩
    · rw [xe_X0_begin_14, nI_clamp (by omega), nI_1]
      exact xn (nI_ge (b := 40) (by omega) (by decide)) (xg hc (xg (s_in hs4 (n := 40) rfl (by omega) (by decide)) (xlt (e))))
    · rw [a2, us_arr _ (by simp)]
theorem x_begin {s : Nat} (hs4 : s < 4) (u : xm_U) (b : Int32) {n : Nat} (hn : n ≤ 40) : ∃ u', xm_C 1 [xv_r (5 + s) 0, xv_i b, xv_i (nI n)] u = some (none, u') ∧ u'.1 (5 + s) 0 0 = b ∧ u'.1 (5 + s) 0 1 = (if b = 0 then 0 else nI n) ∧ (∀ j, j < 40 → u'.1 (5 + s) 3 j = 0) ∧ oth u u' (5 + s) := by
  have hc := cls_s hs4
  by_cases c : b = 0
  · obtain ⟨u', e, a1, a2, a3⟩ := x_begin_loop hs4 b (nI n) 40 0 (xm_us (xm_us u (5 + s) 0 0 b) (5 + s) 0 1 0) rfl (fun j hj => absurd hj (Nat.not_lt_zero j))
    refine ⟨u', ?_, ?_, ?_, a1, oth_tr (oth_us _ _ _ _ _) (oth_tr (oth_us _ _ _ _ _) a3)⟩
    · rw [xe_X0_begin]
      exact xg hc (xlt (xn ((fun q => q c)) (xg hc (xlt (e)))))
    · rw [a2, us_row, upd_ne (by decide), us_row, upd_eq]
    · rw [a2, us_row, upd_eq, if_pos c]
  · obtain ⟨u', e, a1, a2, a3⟩ := x_begin_loop hs4 b (nI n) 40 0 (xm_us (xm_us u (5 + s) 0 0 b) (5 + s) 0 1 (nI n)) rfl (fun j hj => absurd hj (Nat.not_lt_zero j))
    refine ⟨u', ?_, ?_, ?_, a1, oth_tr (oth_us _ _ _ _ _) (oth_tr (oth_us _ _ _ _ _) a3)⟩
    · rw [xe_X0_begin, if_neg (show ¬ (40 : Int32) < nI n from nI_nlt (a := 40) hn (by decide))]
      exact xg hc (xlt (xg c (xg hc (xlt (e)))))
    · rw [a2, us_row, upd_ne (by decide), us_row, upd_eq]
    · rw [a2, us_row, upd_eq, if_neg c]
theorem m_sheet_loop {s : Nat} (hs4 : s < 4) (v2 v3 : Int32) : ∀ (m k : Nat) (z : xm_U), k + m = 40 → (∀ j, j < k → z.1 9 16 (40 * s + j) = 0) → ∃ z', xm_E 189 (xc_X4_sheet.drop 47, [some (xv_r 9 0), some (xv_i (nI s)), some (xv_i v2), some (xv_i v3), some (xv_i (nI k))], [], z) = some (some (xv_i (z.1 9 15 s)), z') ∧ (∀ j, j < 40 → z'.1 9 16 (40 * s + j) = 0) ∧ (∀ q, (∀ j, j < 40 → q ≠ 40 * s + j) → z'.1 9 16 q = z.1 9 16 q) ∧ (∀ i, i ≠ 9 → z'.1 i = z.1 i) ∧ ∀ p, p ≠ 16 → z'.1 9 p = z.1 9 p := by
  intro m
  induction m with
  | zero =>
    intro k z hk h0
    have : k = 40 := by omega
    subst this
    refine ⟨z, ?_, h0, fun _ _ => rfl, fun _ _ => rfl, fun _ _ => rfl⟩
    rw [xe_X4_sheet_47, nI_clamp (n := s) (by omega)]
    exact xg (nI_le (a := 40) (Nat.le_refl _) (by decide)) (xg rfl (xg (xin (vp_in_nI hs4 (by decide)) rfl) (rfl)))
  | succ m ih =>
    intro k z hk h0
    obtain ⟨z', e, a1, a2, a3, a4⟩ := ih (k + 1) (xm_us z 9 16 (40 * s + k) 0) (by omega) (fun j hj => by
      rw [us_row]
      unfold upd
      by_cases q : j = k
      · rw [if_pos (by omega)]
      · rw [if_neg (by omega)]; exact h0 j (by omega))
    refine ⟨z', ?_, a1, fun q hq => ?_, fun i hi => (a3 i hi).trans (us_obj _ hi), fun p hp => (a4 p hp).trans (us_arr _ (fun q => hp q.2))⟩
    · rw [us_arr _ (by decide)] at e
      rw [xe_X4_sheet_47, ix40, nI_clamp (n := 40 * s + k) (by omega), nI_1]
      exact xn (nI_ge (b := 40) (by omega) (by decide)) (xg rfl (xg (xin (vp_in_nI (n := 40 * s + k) (N := 160) (by omega) (by decide)) rfl) (xlt (e))))
    · rw [a2 q hq, us_row, upd_ne (hq k (by omega))]
theorem sheet_Rel {u w z : xm_U} {s n : Nat} {b : Int32} (h : Rel u) (hs4 : s < 4) (hn : n ≤ 40) (hb : b = 0 ∨ b = 8 ∨ b = 16 ∨ b = 32) (w0 : w.1 (5 + s) 0 0 = b) (w1 : w.1 (5 + s) 0 1 = (if b = 0 then 0 else nI n)) (w3 : ∀ j, j < 40 → w.1 (5 + s) 3 j = 0) (wo : oth u w (5 + s)) (z1 : ∀ j, j < 40 → z.1 9 16 (40 * s + j) = 0) (z2 : ∀ q, (∀ j, j < 40 → q ≠ 40 * s + j) → z.1 9 16 q = w.1 9 16 q) (z3 : ∀ i, i ≠ 9 → z.1 i = w.1 i) (z4 : ∀ p, p ≠ 16 → z.1 9 p = (xm_us (xm_us w 9 14 s b) 9 15 s (if b = 0 then 0 else nI n)).1 9 p) : Rel z := by
  have e9 : w.1 9 = u.1 9 := wo.1 9 (by omega)
  refine Rel_sh h (fun i h5 _ => (z3 i (by omega)).trans (wo.1 i (by omega))) (fun p hp => ?_) (fun s' hs' => ?_)
  · rw [z4 p (by omega), us_arr _ (by omega), us_arr _ (by omega), e9]
  · have e14 : z.1 9 14 = upd (u.1 9 14) s b := by rw [z4 14 (by decide), us_arr _ (by decide), us_row, e9]
    have e15 : z.1 9 15 = upd (u.1 9 15) s (if b = 0 then 0 else nI n) := by rw [z4 15 (by decide), us_row, us_arr _ (by decide), e9]
    rw [e14, e15, z3 (5 + s') (by omega)]
    by_cases c : s' = s
    · subst c
      rw [upd_eq, upd_eq]
      refine ⟨w0, w1, hb, ?_, fun k hk => by rw [w3 k hk, z1 k hk]⟩
      by_cases c0 : b = 0
      · exact ⟨0, by decide, by rw [if_pos c0]; rfl⟩
      · exact ⟨n, hn, by rw [if_neg c0]⟩
    · obtain ⟨g0, g1, g2, g3, g4⟩ := h.2.2.2.2.2 s' hs'
      rw [upd_ne c, upd_ne c, wo.1 (5 + s') (by omega)]
      refine ⟨g0, g1, g2, g3, fun k hk => ?_⟩
      rw [z2 _ (fun j hj => by omega), e9]
      exact g4 k hk
theorem S_sheet (a b c : Int32) : Same 82 189 [xv_i a, xv_i b, xv_i c] := by
  intro u h
  by_cases B : b = 0 ∨ b = 8 ∨ b = 16 ∨ b = 32
  · by_cases H : bd a 3
    · obtain ⟨s, hs, rfl⟩ := bd_nI (n := 3) (by decide) H
      have hs4 : s < 4 := by omega
      have hc := cls_s hs4
      have i14 : xm_in 9 14 (nI s) := xin (vp_in_nI hs4 (by decide)) rfl
      have i15 : xm_in 9 15 (nI s) := xin (vp_in_nI hs4 (by decide)) rfl
      by_cases C0 : 0 ≤ c
      · by_cases C4 : c ≤ 40
        · obtain ⟨n, hn, rfl⟩ := bd_nI (n := 40) (by decide) ⟨C0, C4⟩
          obtain ⟨w, e1, w0, w1, w3, wo⟩ := x_begin hs4 u b hn
          obtain ⟨z, e2, z1, z2, z3, z4⟩ := m_sheet_loop hs4 b (nI n) 40 0 (xm_us (xm_us w 9 14 s b) 9 15 s (if b = 0 then 0 else nI n)) rfl (fun j hj => absurd hj (Nat.not_lt_zero j))
          rw [us_same] at e2
          have hR : Rel z := sheet_Rel h hs4 hn B w0 w1 w3 wo z1 (fun q hq => by rw [z2 q hq, us_arr _ (by decide), us_arr _ (by decide)]) (fun i hi => by rw [z3 i hi, us_obj _ hi, us_obj _ hi]) z4
          refine ⟨xv_i (if b = 0 then 0 else nI n), w, z, ?_, ?_, hR⟩
          · rw [xe_X3_sheet, nI_clamp (n := s) (by omega)]
            rcases B with rfl | rfl | rfl | rfl
            · exact xg rfl (xbi (x_isSheet _ _) (xn (bI_ne H) (xg (by decide) (xg C0 (xg C4 (xg rfl (xg (vp_in_nI hs4 (by decide)) (xg hc (xbv e1 (xn ((fun q => q rfl)) (rfl)))))))))))
            · exact xn ((by decide)) (xg rfl (xbi (x_isSheet _ _) (xn (bI_ne H) (xg (by decide) (xg C0 (xg C4 (xg rfl (xg (vp_in_nI hs4 (by decide)) (xg hc (xbv e1 (xg ((by decide)) (rfl))))))))))))
            · exact xn ((by decide)) (xn ((by decide)) (xg rfl (xbi (x_isSheet _ _) (xn (bI_ne H) (xg (by decide) (xg C0 (xg C4 (xg rfl (xg (vp_in_nI hs4 (by decide)) (xg hc (xbv e1 (xg ((by decide)) (rfl)))))))))))))
            · exact xn ((by decide)) (xn ((by decide)) (xn ((by decide)) (xn ((fun q => q rfl)) (xbi (x_isSheet _ _) (xn (bI_ne H) (xg (by decide) (xg C0 (xg C4 (xg rfl (xg (vp_in_nI hs4 (by decide)) (xg hc (xbv e1 (xg ((by decide)) (rfl))))))))))))))
          · rw [xe_X4_sheet, nI_clamp (n := s) (by omega)]
            rcases B with rfl | rfl | rfl | rfl
            · exact xbi (m_isSheet _ _) (xn (bI_ne H) (xg rfl (xg C0 (xg C4 (xg rfl (xg i14 (xlt (xg rfl (xn ((fun q => q rfl)) (xg i15 (xlt (e2))))))))))))
            · exact xbi (m_isSheet _ _) (xn (bI_ne H) (xn ((by decide)) (xg rfl (xg C0 (xg C4 (xg rfl (xg i14 (xlt (xg rfl (xg ((by decide)) (xg i15 (xlt (e2)))))))))))))
            · exact xbi (m_isSheet _ _) (xn (bI_ne H) (xn ((by decide)) (xn ((by decide)) (xg rfl (xg C0 (xg C4 (xg rfl (xg i14 (xlt (xg rfl (xg ((by decide)) (xg i15 (xlt (e2))))))))))))))
            · exact xbi (m_isSheet _ _) (xn (bI_ne H) (xn ((by decide)) (xn ((by decide)) (xn ((by decide)) (xg rfl (xg C0 (xg C4 (xg rfl (xg i14 (xlt (xg rfl (xg ((by decide)) (xg i15 (xlt (e2)))))))))))))))
        · refine S_fail h 0 (r := xv_i (-1000001)) ?_ ?_
          · rw [xe_X3_sheet]
            rcases B with rfl | rfl | rfl | rfl
            · exact xg rfl (xbi (x_isSheet _ _) (xn (bI_ne H) (xg (by decide) (xg C0 (xn C4 (xg rfl (xbi (x_f0 _) (rfl))))))))
            · exact xn ((by decide)) (xg rfl (xbi (x_isSheet _ _) (xn (bI_ne H) (xg (by decide) (xg C0 (xn C4 (xg rfl (xbi (x_f0 _) (rfl)))))))))
            · exact xn ((by decide)) (xn ((by decide)) (xg rfl (xbi (x_isSheet _ _) (xn (bI_ne H) (xg (by decide) (xg C0 (xn C4 (xg rfl (xbi (x_f0 _) (rfl))))))))))
            · exact xn ((by decide)) (xn ((by decide)) (xn ((by decide)) (xn ((fun q => q rfl)) (xbi (x_isSheet _ _) (xn (bI_ne H) (xg (by decide) (xg C0 (xn C4 (xg rfl (xbi (x_f0 _) (rfl)))))))))))
          · rw [xe_X4_sheet]
            rcases B with rfl | rfl | rfl | rfl
            · exact xbi (m_isSheet _ _) (xn (bI_ne H) (xg rfl (xg C0 (xn C4 (xg rfl (xbi (m_f0 _) (rfl)))))))
            · exact xbi (m_isSheet _ _) (xn (bI_ne H) (xn ((by decide)) (xg rfl (xg C0 (xn C4 (xg rfl (xbi (m_f0 _) (rfl))))))))
            · exact xbi (m_isSheet _ _) (xn (bI_ne H) (xn ((by decide)) (xn ((by decide)) (xg rfl (xg C0 (xn C4 (xg rfl (xbi (m_f0 _) (rfl)))))))))
            · exact xbi (m_isSheet _ _) (xn (bI_ne H) (xn ((by decide)) (xn ((by decide)) (xn ((by decide)) (xg rfl (xg C0 (xn C4 (xg rfl (xbi (m_f0 _) (rfl))))))))))
      · refine S_fail h 6 (r := xv_i (-1000007)) ?_ ?_
        · rw [xe_X3_sheet]
          rcases B with rfl | rfl | rfl | rfl
          · exact xg rfl (xbi (x_isSheet _ _) (xn (bI_ne H) (xg (by decide) (xn C0 (xg rfl (xbi (x_f6 _) (rfl)))))))
          · exact xn ((by decide)) (xg rfl (xbi (x_isSheet _ _) (xn (bI_ne H) (xg (by decide) (xn C0 (xg rfl (xbi (x_f6 _) (rfl))))))))
          · exact xn ((by decide)) (xn ((by decide)) (xg rfl (xbi (x_isSheet _ _) (xn (bI_ne H) (xg (by decide) (xn C0 (xg rfl (xbi (x_f6 _) (rfl)))))))))
          · exact xn ((by decide)) (xn ((by decide)) (xn ((by decide)) (xn ((fun q => q rfl)) (xbi (x_isSheet _ _) (xn (bI_ne H) (xg (by decide) (xn C0 (xg rfl (xbi (x_f6 _) (rfl))))))))))
        · rw [xe_X4_sheet]
          rcases B with rfl | rfl | rfl | rfl
          · exact xbi (m_isSheet _ _) (xn (bI_ne H) (xg rfl (xn C0 (xg rfl (xbi (m_f6 _) (rfl))))))
          · exact xbi (m_isSheet _ _) (xn (bI_ne H) (xn ((by decide)) (xg rfl (xn C0 (xg rfl (xbi (m_f6 _) (rfl)))))))
          · exact xbi (m_isSheet _ _) (xn (bI_ne H) (xn ((by decide)) (xn ((by decide)) (xg rfl (xn C0 (xg rfl (xbi (m_f6 _) (rfl))))))))
          · exact xbi (m_isSheet _ _) (xn (bI_ne H) (xn ((by decide)) (xn ((by decide)) (xn ((by decide)) (xg rfl (xn C0 (xg rfl (xbi (m_f6 _) (rfl)))))))))
    · refine S_fail h 0 (r := xv_i (-1000001)) ?_ ?_
      · rw [xe_X3_sheet]
        rcases B with rfl | rfl | rfl | rfl
        · exact xg rfl (xbi (x_isSheet _ _) (xg (bI_f H) (xg rfl (xbi (x_f0 _) (rfl)))))
        · exact xn ((by decide)) (xg rfl (xbi (x_isSheet _ _) (xg (bI_f H) (xg rfl (xbi (x_f0 _) (rfl))))))
        · exact xn ((by decide)) (xn ((by decide)) (xg rfl (xbi (x_isSheet _ _) (xg (bI_f H) (xg rfl (xbi (x_f0 _) (rfl)))))))
        · exact xn ((by decide)) (xn ((by decide)) (xn ((by decide)) (xn ((fun q => q rfl)) (xbi (x_isSheet _ _) (xg (bI_f H) (xg rfl (xbi (x_f0 _) (rfl))))))))
      · rw [xe_X4_sheet]
        exact xbi (m_isSheet _ _) (xg (bI_f H) (xg rfl (xbi (m_f0 _) (rfl))))
  · have b0 : ¬ b = 0 := fun q => B (Or.inl q)
    have b8 : ¬ b = 8 := fun q => B (Or.inr (Or.inl q))
    have b16 : ¬ b = 16 := fun q => B (Or.inr (Or.inr (Or.inl q)))
    have b32 : ¬ b = 32 := fun q => B (Or.inr (Or.inr (Or.inr q)))
    refine S_fail h 0 (r := xv_i (-1000001)) ?_ ?_
    · rw [xe_X3_sheet]
      by_cases H : bd a 3
      · exact xn b0 (xn b8 (xn b16 (xg b32 (xbi (x_isSheet _ _) (xn (bI_ne H) (xn (by decide) (xg rfl (xbi (x_f0 _) (rfl)))))))))
      · exact xn b0 (xn b8 (xn b16 (xg b32 (xbi (x_isSheet _ _) (xg (bI_f H) (xg rfl (xbi (x_f0 _) (rfl))))))))
    · rw [xe_X4_sheet]
      by_cases H : bd a 3
      · exact xbi (m_isSheet _ _) (xn (bI_ne H) (xn b0 (xn b8 (xn b16 (xn b32 (xg rfl (xbi (m_f0 _) (rfl))))))))
      · exact xbi (m_isSheet _ _) (xg (bI_f H) (xg rfl (xbi (m_f0 _) (rfl))))
/-! write -/
theorem bd_pred {a : Int32} {n : Nat} (hn : n < 2 ^ 31) (h : bd a (nI n - 1)) : ∃ k, k < n ∧ a = nI k := by
  cases n with
  | zero => exact absurd (Int32.le_trans h.1 h.2) (by decide)
  | succ n =>
    rw [nI_pred] at h
    obtain ⟨k, hk, rfl⟩ := bd_nI (n := n) (by omega) h
    exact ⟨k, by omega, rfl⟩
theorem write_Rel {u : xm_U} (h : Rel u) {s k : Nat} (hs4 : s < 4) (hk : k < 40) (y : Int32) : Rel (xm_us (xm_us u (5 + s) 3 k y) 9 16 (40 * s + k) y) := by
  refine Rel_sh h (fun i h5 _ => by rw [us_obj _ (by omega), us_obj _ (by omega)]) (fun p hp => by rw [us_arr _ (by omega), us_obj _ (by omega)]) (fun s' hs' => ?_)
  obtain ⟨g0, g1, g2, g3, g4⟩ := h.2.2.2.2.2 s' hs'
  rw [us_obj (i := 9) (i' := 5 + s') _ (by omega), us_arr (i := 9) (i' := 9) (p' := 14) _ (by omega), us_arr (i := 9) (i' := 9) (p' := 15) _ (by omega), us_obj (i := 5 + s) (i' := 9) _ (by omega), us_row, us_obj (i := 5 + s) (i' := 9) _ (by omega)]
  by_cases c : s' = s
  · subst c
    rw [us_arr (p' := 0) _ (by omega), us_row]
    refine ⟨g0, g1, g2, g3, fun j hj => ?_⟩
    unfold upd
    by_cases e : j = k
    · rw [if_pos e, if_pos (by omega)]
    · rw [if_neg e, if_neg (by omega)]; exact g4 j hj
  · rw [us_obj (i := 5 + s) (i' := 5 + s') _ (by omega)]
    refine ⟨g0, g1, g2, g3, fun j hj => ?_⟩
    rw [upd_ne (by omega)]; exact g4 j hj
theorem S_write (a b c : Int32) : Same 83 191 [xv_i a, xv_i b, xv_i c] := by
  intro u h
  by_cases H : bd a 3
  · obtain ⟨s, hs, rfl⟩ := bd_nI (n := 3) (by decide) H
    have hs4 : s < 4 := by omega
    have hc := cls_s hs4
    have i14 : xm_in 9 14 (nI s) := xin (vp_in_nI hs4 (by decide)) rfl
    have i15 : xm_in 9 15 (nI s) := xin (vp_in_nI hs4 (by decide)) rfl
    obtain ⟨g0, g1, g2, ⟨sz, hsz, g3⟩, g4⟩ := h.2.2.2.2.2 s hs4
    by_cases M : u.1 9 14 s = 0
    · refine S_fail h 5 (r := xv_i (-1000006)) ?_ ?_
      · rw [xe_X3_write]
        exact xg rfl (xbi (x_ws_m hs4 (g0.trans M)) (xn ((by decide)) (xg rfl (xbi (x_f5 _) (rfl)))))
      · rw [xe_X4_write]
        exact xg rfl (xbi (m_wn_m hs4 (by rw [us_obj (i := 0) (i' := 9) _ (by decide)]; exact M)) (xg ((by decide)) (xn ((by decide)) (xg rfl (xbi (m_f5 _) (rfl))))))
    · have M1 : ¬ u.1 (5 + s) 0 0 = 0 := fun q => M (g0.symm.trans q)
      by_cases I : bd b (nI sz - 1)
      · obtain ⟨k, hk, rfl⟩ := bd_pred (by omega) I
        have I1 : 0 ≤ nI k ∧ nI k ≤ u.1 (5 + s) 0 1 - 1 := by rw [g1, g3]; exact I
        have i16 : xm_in 9 16 (nI (40 * s + k)) := xin (vp_in_nI (n := 40 * s + k) (N := 160) (by omega) (by decide)) rfl
        have i3 : xm_in (5 + s) 3 (nI k) := s_in hs4 (n := 40) rfl (by omega) (by decide)
        have go : ∀ y, xm_C 2 [xv_r (5 + s) 0, xv_i (nI k), xv_i c] u = some (none, xm_us u (5 + s) 3 k y) → (∀ z : xm_U, z.1 9 14 s = u.1 9 14 s → z.1 9 15 s = u.1 9 15 s → xm_C 191 [xv_r 9 0, xv_i (nI s), xv_i (nI k), xv_i c] z = some (some (xv_i 1), xm_us z 9 16 (40 * s + k) y)) → ∃ r u1 u2, xm_C 83 [xv_r 0 0, xv_i (nI s), xv_i (nI k), xv_i c] u = some (some r, u1) ∧ xm_C 191 [xv_r 9 0, xv_i (nI s), xv_i (nI k), xv_i c] u1 = some (some r, u2) ∧ Rel u2 := fun y e1 e2 => by
          refine ⟨xv_i 1, xm_us u (5 + s) 3 k y, _, ?_, e2 _ (by rw [us_obj _ (by omega)]) (by rw [us_obj _ (by omega)]), write_Rel h hs4 (by omega) y⟩
          rw [xe_X3_write, nI_clamp (n := s) (by omega)]
          exact xg rfl (xbi (x_ws_k hs4 M1) (xg rfl (xg rfl (xg (vp_in_nI hs4 (by decide)) (xg hc (xbi (x_within _ _ _ _) (xg (bI_ne I1) (xg rfl (xg (vp_in_nI hs4 (by decide)) (xg hc (xbv e1 (rfl))))))))))))
        have I2 : ∀ z : xm_U, z.1 9 15 s = u.1 9 15 s → bd (nI k) (z.1 9 15 s - 1) := fun z q => by rw [q, g3]; exact I
        by_cases b8 : u.1 9 14 s = 8
        · refine go c.toInt8.toInt32 ?_ (fun z q14 q15 => ?_)
          · rw [xe_X0_put, nI_clamp (n := k) (by omega), g0]
            exact xg hc (xn ((fun q => q b8)) (xg hc (xg i3 (xlt (rfl)))))
          · have I3 := I2 z q15
            rw [xe_X4_write, nI_clamp (n := s) (by omega), ix40, nI_clamp (n := 40 * s + k) (by omega)]
            refine xg rfl (xbi (m_wn_k hs4 (by rw [q14]; exact M)) (xn ((by decide)) (xg rfl (xg i15 (xbi (m_inb _ _ 0 _ rfl rfl) (xg (bI_ne I3) (xg ((by decide)) (xg rfl (xg rfl (xg i14 (xn ((fun q => q (q14.trans b8))) (xg i16 (xlt (rfl))))))))))))))
        · by_cases b16 : u.1 9 14 s = 16
          · refine go c.toInt16.toInt32 ?_ (fun z q14 q15 => ?_)
            · rw [xe_X0_put, nI_clamp (n := k) (by omega), g0]
              exact xg hc (xg b8 (xg hc (xn ((fun q => q b16)) (xg hc (xg i3 (xlt (rfl)))))))
            · have I3 := I2 z q15
              rw [xe_X4_write, nI_clamp (n := s) (by omega), ix40, nI_clamp (n := 40 * s + k) (by omega)]
              refine xg rfl (xbi (m_wn_k hs4 (by rw [q14]; exact M)) (xn ((by decide)) (xg rfl (xg i15 (xbi (m_inb _ _ 0 _ rfl rfl) (xg (bI_ne I3) (xg ((by decide)) (xg rfl (xg rfl (xg i14 (xg ((by rw [q14]; exact b8)) (xg rfl (xg i14 (xn ((fun q => q (q14.trans b16))) (xg i16 (xlt (rfl)))))))))))))))))
          · refine go c ?_ (fun z q14 q15 => ?_)
            · rw [xe_X0_put, nI_clamp (n := k) (by omega), g0]
              exact xg hc (xg b8 (xg hc (xg b16 (xg hc (xg i3 (xlt (rfl)))))))
            · have I3 := I2 z q15
              rw [xe_X4_write, nI_clamp (n := s) (by omega), ix40, nI_clamp (n := 40 * s + k) (by omega)]
              refine xg rfl (xbi (m_wn_k hs4 (by rw [q14]; exact M)) (xn ((by decide)) (xg rfl (xg i15 (xbi (m_inb _ _ 0 _ rfl rfl) (xg (bI_ne I3) (xg ((by decide)) (xg rfl (xg rfl (xg i14 (xg ((by rw [q14]; exact b8)) (xg rfl (xg i14 (xg ((by rw [q14]; exact b16)) (xg i16 (xlt (rfl)))))))))))))))))
      · have I1 : ¬ (0 ≤ b ∧ b ≤ u.1 (5 + s) 0 1 - 1) := by rw [g1, g3]; exact I
        have I2 : ¬ (0 ≤ b ∧ b ≤ (xm_us u 0 7 0 (u.1 0 7 0 + 1)).1 9 15 s - 1) := by rw [us_obj (i := 0) (i' := 9) _ (by decide), g3]; exact I
        refine S_fail h 0 (r := xv_i (-1000001)) ?_ ?_
        · rw [xe_X3_write, nI_clamp (n := s) (by omega)]
          exact xg rfl (xbi (x_ws_k hs4 M1) (xg rfl (xg rfl (xg (vp_in_nI hs4 (by decide)) (xg hc (xbi (x_within _ _ _ _) (xn (bI_nn I1) (xg rfl (xbi (x_f0 _) (rfl))))))))))
        · rw [xe_X4_write, nI_clamp (n := s) (by omega)]
          exact xg rfl (xbi (m_wn_k hs4 (by rw [us_obj (i := 0) (i' := 9) _ (by decide)]; exact M)) (xn ((by decide)) (xg rfl (xg i15 (xbi (m_inb _ _ 0 _ rfl rfl) (xn (bI_nn I2) (xn (by decide) (xg rfl (xbi (m_f0 _) (rfl))))))))))
  · refine S_fail h 0 (r := xv_i (-1000001)) ?_ ?_
    · rw [xe_X3_write]
      exact xg rfl (xbi (x_ws_b _ H) (xn ((by decide)) (xg rfl (xbi (x_f0 _) (rfl)))))
    · rw [xe_X4_write]
      exact xg rfl (xbi (m_wn_b _ H) (xg ((by decide)) (xn ((by decide)) (xg rfl (xbi (m_f0 _) (rfl))))))
