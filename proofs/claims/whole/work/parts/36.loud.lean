/-! loudFor -/
theorem inv_lo {d : Nat → Int32} (hd : inv d) {h c : Nat} (hh : h < 6) (hc : c < 10) : inv (upd d (5 + h) (nI c)) := inv_upd hd (by omega) (by omega) ((okb_5 hh _).mpr (bd_of (n := 9) (by omega) (by decide)))
theorem nN_hi {d : Nat → Int32} {q : Nat} {x : Int32} (hq : 1 ≤ q) : nN (upd d q x) = nN d := nN_of (upd_ne (by omega))
theorem x_loud_at {d : Nat → Int32} (hd : inv d) {h p n k : Nat} (hh : h < 6) (hk : k < 10) (hn : n < 2 ^ 31) {u0 u : xm_U} (hv0 : vd u0 1 d) (ho : oth u0 u 2) : ∃ u1 u2, xm_C 20 [xv_r 2 0, xv_r 1 0] u = some (none, u1) ∧ xm_C 32 [xv_r 2 0, xv_i (nI n)] (xm_us u1 2 1 h (nI k)) = some (none, u2) ∧ vd u2 2 (yearsG (upd d (5 + h) (nI k)) n) ∧ oth u0 u2 2 := by
  obtain ⟨u1, q1, q2, q3⟩ := v_become (i := 2) (i1 := 1) rfl rfl (by decide) (vd_of (ho.1 1 (by decide)) hv0)
  obtain ⟨u2, p1, p2, p3⟩ := v_passYears (i := 2) rfl (vw_1 q2 hh (nI k)) (inv_lo hd hh hk) hn
  exact ⟨u1, u2, q1, p1, p2, oth_tr ho (oth_tr q3 (oth_tr (oth_us _ _ _ _ _) p3))⟩
theorem x_loud_lp {d : Nat → Int32} (hd : inv d) {h p n : Nat} (hh : h < 6) (hp : p < 8) (hn : n < 2 ^ 31) {u0 : xm_U} (hv0 : vd u0 1 d) (m : Nat) (hm : m ≤ 10) (hq : ∀ j, j < m → ¬ ringsP (yearsG (upd d (5 + h) (nI j)) n) p) : ∃ u', (∀ r, xm_E 69 (xc_X3_loudFor.drop 18, [some (xv_r 0 0), some (xv_i (nI h)), some (xv_i (nI p)), some (xv_i (nI n)), some (xv_i (nI m))], [], u') = some r → xm_E 69 (xc_X3_loudFor.drop 18, [some (xv_r 0 0), some (xv_i (nI h)), some (xv_i (nI p)), some (xv_i (nI n)), some (xv_i 0)], [], u0) = some r) ∧ oth u0 u' 2 := by
  refine lp (E := fun k u => xm_E 69 (xc_X3_loudFor.drop 18, [some (xv_r 0 0), some (xv_i (nI h)), some (xv_i (nI p)), some (xv_i (nI n)), some (xv_i (nI k))], [], u)) (I := fun k u => oth u0 u 2) (B := 10) (Q := fun j => ringsP (yearsG (upd d (5 + h) (nI j)) n) p) ?_ m hm hq u0 (oth_rf _ _)
  intro k u hk hI hQ
  obtain ⟨u1, u2, q1, p1, p2, o2⟩ := x_loud_at hd (p := p) hh hk hn hv0 hI
  refine ⟨u2, fun r e => ?_, o2⟩
  show xm_E 69 (xc_X3_loudFor.drop 18, [some (xv_r 0 0), some (xv_i (nI h)), some (xv_i (nI p)), some (xv_i (nI n)), some (xv_i (nI k))], [], u) = some r
  rw [xe_X3_loudFor_18]
  refine xn (nI_nlt (a := 9) (by omega) (by decide)) (xg rfl (xg rfl (xg rfl (xbv q1 (xg rfl (xg rfl (xg (v_in rfl (n := 6) rfl (by omega) (by decide)) (xlt (xg rfl (xg rfl (?_)))))))))))
  rw [nI_clamp (by omega)]
  refine xbv p1 (xg rfl (xg rfl (xbi (v_isRinging rfl p2 hp) (xg (ringsI_f hQ) ?_))))
  rw [nI_1]
  exact e
theorem m_loud_at {w0 z : xm_U} {d : Nat → Int32} (hw0 : w0.1 9 1 = d) (hd : inv d) (hs : sv w0 d z) {h n k : Nat} (hh : h < 6) (hk : k < 10) (hn : n < 2 ^ 31) : ∃ z1, xm_C 129 [xv_r 9 0, xv_i (nI n)] (xm_us z 9 1 (5 + h) (nI k)) = some (none, z1) ∧ sv w0 (yearsG (upd d (5 + h) (nI k)) n) z1 ∧ sv w0 d (dU z1 (cop (z1.1 9 3) (yearsG (upd d (5 + h) (nI k)) n) 89)) := by
  have hi2 := inv_lo hd hh hk
  have hs2 := sv_dU hs (upd d (5 + h) (nI k))
  have hy := sv_years hs2 hi2 hn
  have hs3 := sv_dU hs2 (yearsG (upd d (5 + h) (nI k)) n)
  have hs4 := sv_again hs3 (e := yearsG (upd d (5 + h) (nI k)) n) (fun j hj => by rw [yearsG_hi hi2 (by omega), upd_ne (by omega), hw0])
  rw [hw0] at hs4
  refine ⟨_, ?_, hs3, hs4⟩
  rw [us_dU, hs.2.1]
  exact hy
theorem m_loud_lp {w0 : xm_U} {d : Nat → Int32} (hw0 : w0.1 9 1 = d) (hd : inv d) {h p n : Nat} (hh : h < 6) (hp : p < 8) (hn : n < 2 ^ 31) {z0 : xm_U} (hs0 : sv w0 d z0) (m : Nat) (hm : m ≤ 10) (hq : ∀ j, j < m → ¬ ringsP (yearsG (upd d (5 + h) (nI j)) n) p) : ∃ z, (∀ r, xm_E 156 (xc_X4_loudFor.drop 21, [some (xv_r 9 0), some (xv_i (nI h)), some (xv_i (nI p)), some (xv_i (nI n)), some (xv_i (nI m)), none], [], z) = some r → xm_E 156 (xc_X4_loudFor.drop 21, [some (xv_r 9 0), some (xv_i (nI h)), some (xv_i (nI p)), some (xv_i (nI n)), some (xv_i 0), none], [], z0) = some r) ∧ sv w0 d z := by
  refine lp (E := fun k u => xm_E 156 (xc_X4_loudFor.drop 21, [some (xv_r 9 0), some (xv_i (nI h)), some (xv_i (nI p)), some (xv_i (nI n)), some (xv_i (nI k)), none], [], u)) (I := fun k u => sv w0 d u) (B := 10) (Q := fun j => ringsP (yearsG (upd d (5 + h) (nI j)) n) p) ?_ m hm hq z0 hs0
  intro k z hk hI hQ
  obtain ⟨z1, e1, s1, s2⟩ := m_loud_at hw0 hd hI hh hk hn
  refine ⟨_, fun r e => ?_, s2⟩
  show xm_E 156 (xc_X4_loudFor.drop 21, [some (xv_r 9 0), some (xv_i (nI h)), some (xv_i (nI p)), some (xv_i (nI n)), some (xv_i (nI k)), none], [], z) = some r
  rw [xe_X4_loudFor_21, show (5 : Int32) = nI 5 from rfl, nI_add]
  refine xn (nI_ge (b := 10) (by omega) (by decide)) (xg rfl (xg (in9n (by omega)) (xlt (xg rfl (?_)))))
  rw [nI_clamp (by omega)]
  refine xbv e1 (xg rfl (xbi (sv_ring s1 hp) (xg rfl (xg rfl (xbv (sv_back s1) (xg (ringsI_f hQ) ?_))))))
  rw [nI_1]
  exact xm_E_mono (by repeat (first | exact lq_rf _ | apply lq_r | apply lq_n)) e
theorem S_loudFor (a b c : Int32) : Same 69 156 [xv_i a, xv_i b, xv_i c] := by
  intro u h
  have hv := h.1
  have hd := h.2.1
  by_cases H : bd a 5
  · by_cases P : bd b (u.1 9 1 0 - 1)
    · by_cases C : bd c 60
      · obtain ⟨j, hj, rfl⟩ := bd_nI (n := 5) (by decide) H
        obtain ⟨k, hk, rfl⟩ := plank_nI hd P
        obtain ⟨n, hn, rfl⟩ := bd_nI (n := 60) (by decide) C
        obtain ⟨h8, hN⟩ := inv_nN hd
        rcases least (fun m => ringsP (yearsG (upd (u.1 9 1) (5 + j) (nI m)) n) k) 9 with ⟨m, hm, hq, hl⟩ | hl
        · obtain ⟨u1, e1, o1⟩ := x_loud_lp hd (h := j) (p := k) (n := n) (by omega) (by omega) (by omega) hv m (by omega) hl
          obtain ⟨u2, u3, q1, p1, p2, o3⟩ := x_loud_at hd (h := j) (p := k) (n := n) (k := m) (by omega) (by omega) (by omega) hv o1
          have e9 : u3.1 9 1 = u.1 9 1 := by rw [o3.1 9 (by decide)]
          have hs := sv_save u3
          rw [e9] at hs
          obtain ⟨z, e2, s2⟩ := m_loud_lp e9 hd (h := j) (p := k) (n := n) (by omega) (by omega) (by omega) hs m (by omega) hl
          obtain ⟨z1, e4, s4, s5⟩ := m_loud_at e9 hd s2 (h := j) (n := n) (k := m) (by omega) (by omega) (by omega)
          rw [← e9] at s5
          have P2 : bd (nI k) (u3.1 9 1 0 - 1) := by rw [e9]; exact P
          refine ⟨xv_i (nI m), u3, _, ?_, ?_, sv_R0 (Rel_t h o3) s5⟩
          · rw [xe_X3_loudFor]
            refine xbi (x_isHouse _ _) (xn (bI_ne H) (xg rfl (xbi (x_isPlank _ _ hv) (xn (bI_ne P) (xbi (x_within _ _ _ _) (xg (bI_ne C) (e1 _ ?_)))))))
            rw [xe_X3_loudFor_18]
            refine xn (nI_nlt (a := 9) (by omega) (by decide)) (xg rfl (xg rfl (xg rfl (xbv q1 (xg rfl (xg rfl (xg (v_in rfl (n := 6) rfl (by omega) (by decide)) (xlt (xg rfl (xg rfl (?_)))))))))))
            rw [nI_clamp (by omega)]
            exact xbv p1 (xg rfl (xg rfl (xbi (v_isRinging rfl p2 (by omega)) (xn (ringsI_n hq) rfl))))
          · rw [xe_X4_loudFor]
            refine xbi (m_isHouse _ _) (xn (bI_ne H) (xg rfl (xbi (m_isPlank _ _) (xn (bI_ne P2) (xbi (m_isShort _ _) (xg (bI_ne C) (xg rfl (xg rfl (xbv (m_save _) (?_))))))))))
            rw [e9]
            refine e2 _ ?_
            rw [xe_X4_loudFor_21, show (5 : Int32) = nI 5 from rfl, nI_add]
            refine xn (nI_ge (b := 10) (by omega) (by decide)) (xg rfl (xg (in9n (by omega)) (xlt (xg rfl (?_)))))
            rw [nI_clamp (by omega)]
            exact xbv e4 (xg rfl (xbi (sv_ring s4 (by omega)) (xg rfl (xg rfl (xbv (sv_back s4) (xn (ringsI_n hq) rfl))))))
        · obtain ⟨u1, e1, o1⟩ := x_loud_lp hd (h := j) (p := k) (n := n) (by omega) (by omega) (by omega) hv 10 (by omega) (fun i hi => hl i (by omega))
          have e9 : (xm_us u1 0 7 3 (u1.1 0 7 3 + 1)).1 9 1 = u.1 9 1 := by rw [us_obj (i := 0) (i' := 9) _ (by decide), o1.1 9 (by decide)]
          have hs := sv_save (xm_us u1 0 7 3 (u1.1 0 7 3 + 1))
          rw [e9] at hs
          obtain ⟨z, e2, s2⟩ := m_loud_lp e9 hd (h := j) (p := k) (n := n) (by omega) (by omega) (by omega) hs 10 (by omega) (fun i hi => hl i (by omega))
          rw [← e9] at s2
          have P2 : bd (nI k) ((xm_us u1 0 7 3 (u1.1 0 7 3 + 1)).1 9 1 0 - 1) := by rw [e9]; exact P
          refine ⟨xv_i (-1000004), xm_us u1 0 7 3 (u1.1 0 7 3 + 1), _, ?_, ?_, sv_Rf0 (Rel_t h o1) rfl s2⟩
          · rw [xe_X3_loudFor]
            refine xbi (x_isHouse _ _) (xn (bI_ne H) (xg rfl (xbi (x_isPlank _ _ hv) (xn (bI_ne P) (xbi (x_within _ _ _ _) (xg (bI_ne C) (e1 _ ?_)))))))
            rw [xe_X3_loudFor_18]
            exact xg (nI_lt (a := 9) (b := 10) (by decide) (by decide)) (xg rfl (xbi (x_f3 _) (rfl)))
          · rw [xe_X4_loudFor]
            refine xbi (m_isHouse _ _) (xn (bI_ne H) (xg rfl (xbi (m_isPlank _ _) (xn (bI_ne P2) (xbi (m_isShort _ _) (xg (bI_ne C) (xg rfl (xg rfl (xbv (m_save _) (?_))))))))))
            rw [e9]
            refine e2 _ ?_
            rw [xe_X4_loudFor_21]
            exact xg (nI_le (a := 10) (b := 10) (by decide) (by decide)) (xg rfl (xbi (m_f3 _) (rfl)))
      · refine S_fail h 0 (r := xv_i (-1000001)) ?_ ?_
        · rw [xe_X3_loudFor]
          exact xbi (x_isHouse _ _) (xn (bI_ne H) (xg rfl (xbi (x_isPlank _ _ hv) (xn (bI_ne P) (xbi (x_within _ _ _ _) (xn (bI_nn C) (xg rfl (xbi (x_f0 _) (rfl)))))))))
        · rw [xe_X4_loudFor]
          exact xbi (m_isHouse _ _) (xn (bI_ne H) (xg rfl (xbi (m_isPlank _ _) (xn (bI_ne P) (xbi (m_isShort _ _) (xn (bI_nn C) (xg rfl (xbi (m_f0 _) (rfl)))))))))
    · refine S_fail h 0 (r := xv_i (-1000001)) ?_ ?_
      · rw [xe_X3_loudFor]
        exact xbi (x_isHouse _ _) (xn (bI_ne H) (xg rfl (xbi (x_isPlank _ _ hv) (xg (bI_f P) (xg rfl (xbi (x_f0 _) (rfl)))))))
      · rw [xe_X4_loudFor]
        exact xbi (m_isHouse _ _) (xn (bI_ne H) (xg rfl (xbi (m_isPlank _ _) (xg (bI_f P) (xg rfl (xbi (m_f0 _) (rfl)))))))
  · refine S_fail h 0 (r := xv_i (-1000001)) ?_ ?_
    · rw [xe_X3_loudFor]
      exact xbi (x_isHouse _ _) (xg (bI_f H) (xg rfl (xbi (x_f0 _) (rfl))))
    · rw [xe_X4_loudFor]
      exact xbi (m_isHouse _ _) (xg (bI_f H) (xg rfl (xbi (m_f0 _) (rfl))))
