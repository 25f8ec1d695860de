/-! taken, tuned -/
theorem x_until_lp {d : Nat → Int32} (hd : inv d) {p w : Nat} (hp : p < 8) (hw : w < 7) (v : Int32) {u0 : xm_U} (hv0 : vd u0 2 d) (n : Nat) (hn : n ≤ 201) (hq : ∀ j, j < n → ¬ v ≤ yearsG d j (23 + 8 * w + p)) : ∃ u', (∀ r, xm_E 101 (xc_X3_yearsUntil.drop 2, [some (xv_r 0 0), some (xv_r 2 (9 + w)), some (xv_i (nI p)), some (xv_i v), some (xv_i (nI n))], [], u') = some r → xm_E 101 (xc_X3_yearsUntil.drop 2, [some (xv_r 0 0), some (xv_r 2 (9 + w)), some (xv_i (nI p)), some (xv_i v), some (xv_i 0)], [], u0) = some r) ∧ vd u' 2 (yearsG d n) ∧ oth u0 u' 2 := by
  refine lp (E := fun k u => xm_E 101 (xc_X3_yearsUntil.drop 2, [some (xv_r 0 0), some (xv_r 2 (9 + w)), some (xv_i (nI p)), some (xv_i v), some (xv_i (nI k))], [], u)) (I := fun k u => vd u 2 (yearsG d k) ∧ oth u0 u 2) (B := 201) (Q := fun j => v ≤ yearsG d j (23 + 8 * w + p)) ?_ n hn hq u0 ⟨hv0, oth_rf _ _⟩
  intro k u hk hI hQ
  obtain ⟨u1, q1, q2, q3⟩ := v_passYear (i := 2) rfl hI.1 (inv_yearsG hd k)
  have e : u.1 2 (9 + w) (nI p).toNatClampNeg = yearsG d k (23 + 8 * w + p) := by rw [nI_clamp (by omega), vd_row hI.1 hp hw]
  refine ⟨u1, fun r h => ?_, q2, oth_tr hI.2 q3⟩
  show xm_E 101 (xc_X3_yearsUntil.drop 2, [some (xv_r 0 0), some (xv_r 2 (9 + w)), some (xv_i (nI p)), some (xv_i v), some (xv_i (nI k))], [], u) = some r
  rw [xe_X3_yearsUntil_2]
  refine xn (n200 (by omega)) (xg (v_in rfl (ln_row hw) (by omega) (by decide)) (xg ((by rw [e]; exact il_nle hQ)) (xg rfl (xg rfl (xbv q1 (?_))))))
  rw [nI_1]
  exact h
theorem m_first_lp {w0 : xm_U} {d : Nat → Int32} (hd : inv d) {q : Nat} (hq9 : q < 89) (v : Int32) {z0 : xm_U} (hs : sv w0 d z0) (n : Nat) (hn : n ≤ 200) (hq : ∀ j, j < n → ¬ v ≤ yearsG d j q) : ∃ z, (∀ r, xm_E 149 (xc_X4_firstOf.drop 7, [some (xv_r 9 0), some (xv_i (nI q)), some (xv_i v), some (xv_i (nI n)), none], [], z) = some r → xm_E 149 (xc_X4_firstOf.drop 7, [some (xv_r 9 0), some (xv_i (nI q)), some (xv_i v), some (xv_i 0), none], [], z0) = some r) ∧ sv w0 (yearsG d n) z := by
  refine lp (E := fun k u => xm_E 149 (xc_X4_firstOf.drop 7, [some (xv_r 9 0), some (xv_i (nI q)), some (xv_i v), some (xv_i (nI k)), none], [], u)) (I := fun k u => sv w0 (yearsG d k) u) (B := 200) (Q := fun j => v ≤ yearsG d j q) ?_ n hn hq z0 hs
  intro k z hk hI hQ
  have e : z.1 9 1 (nI q).toNatClampNeg = yearsG d k q := by rw [nI_clamp (by omega), hI.2.1]
  refine ⟨_, fun r h => ?_, sv_dU hI (yearsG d (k + 1))⟩
  show xm_E 149 (xc_X4_firstOf.drop 7, [some (xv_r 9 0), some (xv_i (nI q)), some (xv_i v), some (xv_i (nI k)), none], [], z) = some r
  rw [xe_X4_firstOf_7]
  refine xn (g200 (by omega)) (xg rfl (xg (in9n hq9) (xn ((by rw [e]; exact hQ)) (xg rfl (xbv (sv_year hI (inv_yearsG hd k)) (?_))))))
  rw [nI_1]
  exact h
theorem x_until {d : Nat → Int32} (hd : inv d) {p w : Nat} (hp : p < 8) (hw : w < 7) (v : Int32) {u0 : xm_U} (hv0 : vd u0 2 d) {n : Nat} (hn : n ≤ 200) (hq : v ≤ yearsG d n (23 + 8 * w + p)) (hl : ∀ j, j < n → ¬ v ≤ yearsG d j (23 + 8 * w + p)) : ∃ u', xm_C 101 [xv_r 0 0, xv_r 2 (9 + w), xv_i (nI p), xv_i v] u0 = some (some (xv_i (nI n)), u') ∧ oth u0 u' 2 := by
  obtain ⟨u2, e2, v2, o2⟩ := x_until_lp hd hp hw v hv0 n (by omega) hl
  refine ⟨u2, ?_, o2⟩
  rw [xe_X3_yearsUntil]
  refine e2 _ ?_
  rw [xe_X3_yearsUntil_2]
  exact xn (n200 (by omega)) (xg (v_in rfl (ln_row hw) (by omega) (by decide)) (xn ((by rw [nI_clamp (by omega), vd_row v2 hp hw]; exact il_len hq)) (rfl)))
theorem x_until_n {d : Nat → Int32} (hd : inv d) {p w : Nat} (hp : p < 8) (hw : w < 7) (v : Int32) {u0 : xm_U} (hv0 : vd u0 2 d) (hl : ∀ j, j ≤ 200 → ¬ v ≤ yearsG d j (23 + 8 * w + p)) : ∃ u', xm_C 101 [xv_r 0 0, xv_r 2 (9 + w), xv_i (nI p), xv_i v] u0 = some (some (xv_i (-1000004)), xm_us u' 0 7 3 (u'.1 0 7 3 + 1)) ∧ oth u0 u' 2 := by
  obtain ⟨u2, e2, v2, o2⟩ := x_until_lp hd hp hw v hv0 201 (by omega) (fun j hj => hl j (by omega))
  refine ⟨u2, ?_, o2⟩
  rw [xe_X3_yearsUntil]
  refine e2 _ ?_
  rw [xe_X3_yearsUntil_2]
  exact xg ((by decide)) (xg rfl (xbi (x_f3 _) (rfl)))
theorem m_first {w0 : xm_U} {d : Nat → Int32} (hd : inv d) {q : Nat} (hq9 : q < 89) (v : Int32) (hw0 : w0.1 9 1 = d) {n : Nat} (hn : n ≤ 200) (hq : v ≤ yearsG d n q) (hl : ∀ j, j < n → ¬ v ≤ yearsG d j q) : ∃ z, xm_C 149 [xv_r 9 0, xv_i (nI q), xv_i v] w0 = some (some (xv_i (nI n)), dU z (cop (z.1 9 3) (yearsG d n) 89)) ∧ sv w0 (yearsG d n) z := by
  have hs := sv_save w0
  rw [hw0] at hs
  obtain ⟨z, e3, s3⟩ := m_first_lp hd hq9 v hs n hn hl
  have e : z.1 9 1 (nI q).toNatClampNeg = yearsG d n q := by rw [nI_clamp (by omega), s3.2.1]
  refine ⟨z, ?_, s3⟩
  rw [xe_X4_firstOf]
  refine xg rfl (xg rfl (xbv (m_save _) (?_)))
  rw [hw0]
  refine e3 _ ?_
  rw [xe_X4_firstOf_7]
  by_cases c : n < 200
  · exact xn (g200 c) (xg rfl (xg (in9n hq9) (xg ((by rw [e]; exact hq)) (xg rfl (xg (in9n hq9) (xn ((by rw [e]; exact il_len hq)) (xg rfl (xg rfl (xbv (sv_back s3) (xn (by decide) (rfl)))))))))))
  · exact xg (nI_le (a := 200) (by omega) (by omega)) (xg rfl (xg (in9n hq9) (xn ((by rw [e]; exact il_len hq)) (xg rfl (xg rfl (xbv (sv_back s3) (xn (by decide) (rfl))))))))
theorem m_first_n {w0 : xm_U} {d : Nat → Int32} (hd : inv d) {q : Nat} (hq9 : q < 89) (v : Int32) (hw0 : w0.1 9 1 = d) (hl : ∀ j, j ≤ 200 → ¬ v ≤ yearsG d j q) : ∃ z, xm_C 149 [xv_r 9 0, xv_i (nI q), xv_i v] w0 = some (some (xv_i (-1000004)), xm_us (dU z (cop (z.1 9 3) (yearsG d 200) 89)) 9 6 3 ((dU z (cop (z.1 9 3) (yearsG d 200) 89)).1 9 6 3 + 1)) ∧ sv w0 (yearsG d 200) z := by
  have hs := sv_save w0
  rw [hw0] at hs
  obtain ⟨z, e3, s3⟩ := m_first_lp hd hq9 v hs 200 (by omega) (fun j hj => hl j (by omega))
  have e : z.1 9 1 (nI q).toNatClampNeg = yearsG d 200 q := by rw [nI_clamp (by omega), s3.2.1]
  refine ⟨z, ?_, s3⟩
  rw [xe_X4_firstOf]
  refine xg rfl (xg rfl (xbv (m_save _) (?_)))
  rw [hw0]
  refine e3 _ ?_
  rw [xe_X4_firstOf_7]
  exact xg (nI_le (a := 200) (b := 200) (by omega) (by omega)) (xg rfl (xg (in9n hq9) (xg ((by rw [e]; exact il_nle (hl 200 (by omega)))) (xg rfl (xg rfl (xbv (sv_back s3) (xg (by decide) (xg rfl (xbi (m_f3 _) (rfl))))))))))

theorem S_taken (a b : Int32) : Same 65 150 [xv_i a, xv_i b] := by
  intro u h
  have hv := h.1
  have hd := h.2.1
  by_cases P : bd a (u.1 9 1 0 - 1)
  · by_cases B : bd b 9999
    · obtain ⟨k, hk, rfl⟩ := plank_nI hd P
      obtain ⟨h8, hN⟩ := inv_nN hd
      obtain ⟨u1, q1, q2, q3⟩ := v_become (i := 2) (i1 := 1) rfl rfl (by decide) hv
      rcases least (fun j => b ≤ yearsG (u.1 9 1) j (23 + 8 * 6 + k)) 200 with ⟨n, hn, hq, hl⟩ | hl
      · obtain ⟨u2, e2, o2⟩ := x_until hd (p := k) (w := 6) (by omega) (by decide) b q2 hn hq hl
        have ho := oth_tr q3 o2
        have hR := Rel_t h ho
        have e9 : u2.1 9 1 = u.1 9 1 := by rw [ho.1 9 (by decide)]
        obtain ⟨z, e3, s3⟩ := m_first hd (q := 23 + 8 * 6 + k) (by omega) b e9 hn hq hl
        have P2 : bd (nI k) (u2.1 9 1 0 - 1) := by rw [e9]; exact P
        refine ⟨xv_i (nI n), u2, _, ?_, ?_, sv_R hR s3⟩
        · rw [xe_X3_taken]
          exact xg rfl (xbi (x_isPlank _ _ hv) (xn (bI_ne P) (xbi (x_within _ _ _ _) (xg (bI_ne B) (xg rfl (xg rfl (xg rfl (xbv q1 (xg rfl (xg rfl (xg rfl (xbi e2 (rfl)))))))))))))
        · rw [xe_X4_taken, show (71 : Int32) = nI (23 + 8 * 6) from rfl, nI_add]
          exact xg rfl (xbi (m_isPlank _ _) (xn (bI_ne P2) (xbi (m_inb _ _ 0 9999 rfl rfl) (xn (bI_ne B) (xg rfl (xbi e3 (rfl)))))))
      · obtain ⟨u2, e2, o2⟩ := x_until_n hd (p := k) (w := 6) (by omega) (by decide) b q2 hl
        have ho := oth_tr q3 o2
        have hR := Rel_t h ho
        have e9 : (xm_us u2 0 7 3 (u2.1 0 7 3 + 1)).1 9 1 = u.1 9 1 := by rw [us_obj (i := 0) (i' := 9) _ (by decide), ho.1 9 (by decide)]
        obtain ⟨z, e3, s3⟩ := m_first_n hd (q := 23 + 8 * 6 + k) (by omega) b e9 hl
        have P2 : bd (nI k) ((xm_us u2 0 7 3 (u2.1 0 7 3 + 1)).1 9 1 0 - 1) := by rw [e9]; exact P
        refine ⟨xv_i (-1000004), xm_us u2 0 7 3 (u2.1 0 7 3 + 1), _, ?_, ?_, sv_Rf hR rfl s3⟩
        · rw [xe_X3_taken]
          exact xg rfl (xbi (x_isPlank _ _ hv) (xn (bI_ne P) (xbi (x_within _ _ _ _) (xg (bI_ne B) (xg rfl (xg rfl (xg rfl (xbv q1 (xg rfl (xg rfl (xg rfl (xbi e2 (rfl)))))))))))))
        · rw [xe_X4_taken, show (71 : Int32) = nI (23 + 8 * 6) from rfl, nI_add]
          exact xg rfl (xbi (m_isPlank _ _) (xn (bI_ne P2) (xbi (m_inb _ _ 0 9999 rfl rfl) (xn (bI_ne B) (xg rfl (xbi e3 (rfl)))))))
    · refine S_fail h 0 (r := xv_i (-1000001)) ?_ ?_
      · rw [xe_X3_taken]
        exact xg rfl (xbi (x_isPlank _ _ hv) (xn (bI_ne P) (xbi (x_within _ _ _ _) (xn (bI_nn B) (xg rfl (xbi (x_f0 _) (rfl)))))))
      · rw [xe_X4_taken]
        exact xg rfl (xbi (m_isPlank _ _) (xn (bI_ne P) (xbi (m_inb _ _ 0 9999 rfl rfl) (xg (bI_f B) (xg rfl (xbi (m_f0 _) (rfl)))))))
  · refine S_fail h 0 (r := xv_i (-1000001)) ?_ ?_
    · rw [xe_X3_taken]
      exact xg rfl (xbi (x_isPlank _ _ hv) (xg (bI_f P) (xg rfl (xbi (x_f0 _) (rfl)))))
    · rw [xe_X4_taken]
      exact xg rfl (xbi (m_isPlank _ _) (xg (bI_f P) (xg rfl (xbi (m_f0 _) (rfl)))))

theorem S_tuned (a b : Int32) : Same 66 151 [xv_i a, xv_i b] := by
  intro u h
  have hv := h.1
  have hd := h.2.1
  by_cases P : bd a (u.1 9 1 0 - 1)
  · by_cases B : bd b 99
    · obtain ⟨k, hk, rfl⟩ := plank_nI hd P
      obtain ⟨h8, hN⟩ := inv_nN hd
      obtain ⟨u1, q1, q2, q3⟩ := v_become (i := 2) (i1 := 1) rfl rfl (by decide) hv
      rcases least (fun j => b ≤ yearsG (u.1 9 1) j (23 + 8 * 3 + k)) 200 with ⟨n, hn, hq, hl⟩ | hl
      · obtain ⟨u2, e2, o2⟩ := x_until hd (p := k) (w := 3) (by omega) (by decide) b q2 hn hq hl
        have ho := oth_tr q3 o2
        have hR := Rel_t h ho
        have e9 : u2.1 9 1 = u.1 9 1 := by rw [ho.1 9 (by decide)]
        obtain ⟨z, e3, s3⟩ := m_first hd (q := 23 + 8 * 3 + k) (by omega) b e9 hn hq hl
        have P2 : bd (nI k) (u2.1 9 1 0 - 1) := by rw [e9]; exact P
        refine ⟨xv_i (nI n), u2, _, ?_, ?_, sv_R hR s3⟩
        · rw [xe_X3_tuned]
          exact xg rfl (xbi (x_isPlank _ _ hv) (xn (bI_ne P) (xbi (x_within _ _ _ _) (xg (bI_ne B) (xg rfl (xg rfl (xg rfl (xbv q1 (xg rfl (xg rfl (xg rfl (xbi e2 (rfl)))))))))))))
        · rw [xe_X4_tuned, show (47 : Int32) = nI (23 + 8 * 3) from rfl, nI_add]
          exact xg rfl (xbi (m_isPlank _ _) (xn (bI_ne P2) (xbi (m_inb _ _ 0 99 rfl rfl) (xn (bI_ne B) (xg rfl (xbi e3 (rfl)))))))
      · obtain ⟨u2, e2, o2⟩ := x_until_n hd (p := k) (w := 3) (by omega) (by decide) b q2 hl
        have ho := oth_tr q3 o2
        have hR := Rel_t h ho
        have e9 : (xm_us u2 0 7 3 (u2.1 0 7 3 + 1)).1 9 1 = u.1 9 1 := by rw [us_obj (i := 0) (i' := 9) _ (by decide), ho.1 9 (by decide)]
        obtain ⟨z, e3, s3⟩ := m_first_n hd (q := 23 + 8 * 3 + k) (by omega) b e9 hl
        have P2 : bd (nI k) ((xm_us u2 0 7 3 (u2.1 0 7 3 + 1)).1 9 1 0 - 1) := by rw [e9]; exact P
        refine ⟨xv_i (-1000004), xm_us u2 0 7 3 (u2.1 0 7 3 + 1), _, ?_, ?_, sv_Rf hR rfl s3⟩
        · rw [xe_X3_tuned]
          exact xg rfl (xbi (x_isPlank _ _ hv) (xn (bI_ne P) (xbi (x_within _ _ _ _) (xg (bI_ne B) (xg rfl (xg rfl (xg rfl (xbv q1 (xg rfl (xg rfl (xg rfl (xbi e2 (rfl)))))))))))))
        · rw [xe_X4_tuned, show (47 : Int32) = nI (23 + 8 * 3) from rfl, nI_add]
          exact xg rfl (xbi (m_isPlank _ _) (xn (bI_ne P2) (xbi (m_inb _ _ 0 99 rfl rfl) (xn (bI_ne B) (xg rfl (xbi e3 (rfl)))))))
    · refine S_fail h 0 (r := xv_i (-1000001)) ?_ ?_
      · rw [xe_X3_tuned]
        exact xg rfl (xbi (x_isPlank _ _ hv) (xn (bI_ne P) (xbi (x_within _ _ _ _) (xn (bI_nn B) (xg rfl (xbi (x_f0 _) (rfl)))))))
      · rw [xe_X4_tuned]
        exact xg rfl (xbi (m_isPlank _ _) (xn (bI_ne P) (xbi (m_inb _ _ 0 99 rfl rfl) (xg (bI_f B) (xg rfl (xbi (m_f0 _) (rfl)))))))
  · refine S_fail h 0 (r := xv_i (-1000001)) ?_ ?_
    · rw [xe_X3_tuned]
      exact xg rfl (xbi (x_isPlank _ _ hv) (xg (bI_f P) (xg rfl (xbi (x_f0 _) (rfl)))))
    · rw [xe_X4_tuned]
      exact xg rfl (xbi (m_isPlank _ _) (xg (bI_f P) (xg rfl (xbi (m_f0 _) (rfl)))))
