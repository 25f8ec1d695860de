/-! one valley becomes another -/
theorem v_cp {i p n m : Nat} {c : Int32} (hc : xm_cls i = 2) (hl : xm_ln 2 p = some n) (hm : c = nI m) (hmn : m ≤ n) (h31 : m < 2 ^ 31) : xm_cp i p 0 c := by
  subst hm
  refine ⟨n, by rw [hc]; exact hl, by decide, nI_pos h31, ?_⟩
  rw [nI_clamp h31, show (0 : Int32).toNatClampNeg = 0 from rfl]
  omega
theorem cpy_at {f g : Nat → Int32} {n j : Nat} (h : j < n) : va_cpy f g 0 0 n j = f j := by
  rw [pk_cpy_in (Nat.zero_le _) (by omega)]
  simp
theorem v_become {u : xm_U} {i i1 : Nat} {d : Nat → Int32} (hc : xm_cls i = 2) (hc1 : xm_cls i1 = 2) (hne : i1 ≠ i) (hv : vd u i1 d) : ∃ u', xm_C 20 [xv_r i 0, xv_r i1 0] u = some (none, u') ∧ vd u' i d ∧ oth u u' i := by
  obtain ⟨u1, e1⟩ : ∃ x, x = xm_ua u i 1 (va_cpy (u.1 i1 1) (u.1 i 1) 0 0 6) := ⟨_, rfl⟩
  have v1 : u1.1 i 1 = va_cpy (u.1 i1 1) (u.1 i 1) 0 0 6 := by rw [e1]; exact ua_row _ _ _ _
  have n1 : ∀ p, p ≠ 1 → u1.1 i p = u.1 i p := fun p hp => by rw [e1]; exact ua_arr _ (fun z => hp z.2)
  have s1 : u1.1 i1 = u.1 i1 := by rw [e1, ua_obj _ hne]
  have o1 : oth u u1 i := by rw [e1]; exact oth_ua _ _ _ _
  obtain ⟨u2, e2⟩ : ∃ x, x = xm_ua u1 i 2 (va_cpy (u1.1 i1 2) (u1.1 i 2) 0 0 6) := ⟨_, rfl⟩
  have v2 : u2.1 i 2 = va_cpy (u1.1 i1 2) (u1.1 i 2) 0 0 6 := by rw [e2]; exact ua_row _ _ _ _
  have n2 : ∀ p, p ≠ 2 → u2.1 i p = u1.1 i p := fun p hp => by rw [e2]; exact ua_arr _ (fun z => hp z.2)
  have s2 : u2.1 i1 = u.1 i1 := by rw [e2, ua_obj _ hne, s1]
  have o2 : oth u u2 i := by rw [e2]; exact oth_tr o1 (oth_ua _ _ _ _)
  obtain ⟨u3, e3⟩ : ∃ x, x = xm_ua u2 i 3 (va_cpy (u2.1 i1 3) (u2.1 i 3) 0 0 6) := ⟨_, rfl⟩
  have v3 : u3.1 i 3 = va_cpy (u2.1 i1 3) (u2.1 i 3) 0 0 6 := by rw [e3]; exact ua_row _ _ _ _
  have n3 : ∀ p, p ≠ 3 → u3.1 i p = u2.1 i p := fun p hp => by rw [e3]; exact ua_arr _ (fun z => hp z.2)
  have s3 : u3.1 i1 = u.1 i1 := by rw [e3, ua_obj _ hne, s2]
  have o3 : oth u u3 i := by rw [e3]; exact oth_tr o2 (oth_ua _ _ _ _)
  obtain ⟨u4, e4⟩ : ∃ x, x = xm_us u3 i 0 3 (u3.1 i1 0 3) := ⟨_, rfl⟩
  have v4 : u4.1 i 0 = upd (u3.1 i 0) 3 (u3.1 i1 0 3) := by rw [e4]; exact us_row _ _ _ _ _
  have n4 : ∀ p, p ≠ 0 → u4.1 i p = u3.1 i p := fun p hp => by rw [e4]; exact us_arr _ (fun z => hp z.2)
  have s4 : u4.1 i1 = u.1 i1 := by rw [e4, us_obj _ hne, s3]
  have o4 : oth u u4 i := by rw [e4]; exact oth_tr o3 (oth_us _ _ _ _ _)
  obtain ⟨u5, e5⟩ : ∃ x, x = xm_us u4 i 0 4 (u4.1 i1 0 4) := ⟨_, rfl⟩
  have v5 : u5.1 i 0 = upd (u4.1 i 0) 4 (u4.1 i1 0 4) := by rw [e5]; exact us_row _ _ _ _ _
  have n5 : ∀ p, p ≠ 0 → u5.1 i p = u4.1 i p := fun p hp => by rw [e5]; exact us_arr _ (fun z => hp z.2)
  have s5 : u5.1 i1 = u.1 i1 := by rw [e5, us_obj _ hne, s4]
  have o5 : oth u u5 i := by rw [e5]; exact oth_tr o4 (oth_us _ _ _ _ _)
  obtain ⟨u6, e6⟩ : ∃ x, x = xm_us u5 i 0 5 (u5.1 i1 0 5) := ⟨_, rfl⟩
  have v6 : u6.1 i 0 = upd (u5.1 i 0) 5 (u5.1 i1 0 5) := by rw [e6]; exact us_row _ _ _ _ _
  have n6 : ∀ p, p ≠ 0 → u6.1 i p = u5.1 i p := fun p hp => by rw [e6]; exact us_arr _ (fun z => hp z.2)
  have s6 : u6.1 i1 = u.1 i1 := by rw [e6, us_obj _ hne, s5]
  have o6 : oth u u6 i := by rw [e6]; exact oth_tr o5 (oth_us _ _ _ _ _)
  obtain ⟨u7, e7⟩ : ∃ x, x = xm_us u6 i 0 6 (u6.1 i1 0 6) := ⟨_, rfl⟩
  have v7 : u7.1 i 0 = upd (u6.1 i 0) 6 (u6.1 i1 0 6) := by rw [e7]; exact us_row _ _ _ _ _
  have n7 : ∀ p, p ≠ 0 → u7.1 i p = u6.1 i p := fun p hp => by rw [e7]; exact us_arr _ (fun z => hp z.2)
  have s7 : u7.1 i1 = u.1 i1 := by rw [e7, us_obj _ hne, s6]
  have o7 : oth u u7 i := by rw [e7]; exact oth_tr o6 (oth_us _ _ _ _ _)
  obtain ⟨u8, e8⟩ : ∃ x, x = xm_us u7 i 0 7 (u7.1 i1 0 7) := ⟨_, rfl⟩
  have v8 : u8.1 i 0 = upd (u7.1 i 0) 7 (u7.1 i1 0 7) := by rw [e8]; exact us_row _ _ _ _ _
  have n8 : ∀ p, p ≠ 0 → u8.1 i p = u7.1 i p := fun p hp => by rw [e8]; exact us_arr _ (fun z => hp z.2)
  have s8 : u8.1 i1 = u.1 i1 := by rw [e8, us_obj _ hne, s7]
  have o8 : oth u u8 i := by rw [e8]; exact oth_tr o7 (oth_us _ _ _ _ _)
  obtain ⟨u9, e9⟩ : ∃ x, x = xm_ua u8 i 9 (va_cpy (u8.1 i1 9) (u8.1 i 9) 0 0 8) := ⟨_, rfl⟩
  have v9 : u9.1 i 9 = va_cpy (u8.1 i1 9) (u8.1 i 9) 0 0 8 := by rw [e9]; exact ua_row _ _ _ _
  have n9 : ∀ p, p ≠ 9 → u9.1 i p = u8.1 i p := fun p hp => by rw [e9]; exact ua_arr _ (fun z => hp z.2)
  have s9 : u9.1 i1 = u.1 i1 := by rw [e9, ua_obj _ hne, s8]
  have o9 : oth u u9 i := by rw [e9]; exact oth_tr o8 (oth_ua _ _ _ _)
  obtain ⟨u10, e10⟩ : ∃ x, x = xm_ua u9 i 10 (va_cpy (u9.1 i1 10) (u9.1 i 10) 0 0 8) := ⟨_, rfl⟩
  have v10 : u10.1 i 10 = va_cpy (u9.1 i1 10) (u9.1 i 10) 0 0 8 := by rw [e10]; exact ua_row _ _ _ _
  have n10 : ∀ p, p ≠ 10 → u10.1 i p = u9.1 i p := fun p hp => by rw [e10]; exact ua_arr _ (fun z => hp z.2)
  have s10 : u10.1 i1 = u.1 i1 := by rw [e10, ua_obj _ hne, s9]
  have o10 : oth u u10 i := by rw [e10]; exact oth_tr o9 (oth_ua _ _ _ _)
  obtain ⟨u11, e11⟩ : ∃ x, x = xm_ua u10 i 11 (va_cpy (u10.1 i1 11) (u10.1 i 11) 0 0 8) := ⟨_, rfl⟩
  have v11 : u11.1 i 11 = va_cpy (u10.1 i1 11) (u10.1 i 11) 0 0 8 := by rw [e11]; exact ua_row _ _ _ _
  have n11 : ∀ p, p ≠ 11 → u11.1 i p = u10.1 i p := fun p hp => by rw [e11]; exact ua_arr _ (fun z => hp z.2)
  have s11 : u11.1 i1 = u.1 i1 := by rw [e11, ua_obj _ hne, s10]
  have o11 : oth u u11 i := by rw [e11]; exact oth_tr o10 (oth_ua _ _ _ _)
  obtain ⟨u12, e12⟩ : ∃ x, x = xm_ua u11 i 12 (va_cpy (u11.1 i1 12) (u11.1 i 12) 0 0 8) := ⟨_, rfl⟩
  have v12 : u12.1 i 12 = va_cpy (u11.1 i1 12) (u11.1 i 12) 0 0 8 := by rw [e12]; exact ua_row _ _ _ _
  have n12 : ∀ p, p ≠ 12 → u12.1 i p = u11.1 i p := fun p hp => by rw [e12]; exact ua_arr _ (fun z => hp z.2)
  have s12 : u12.1 i1 = u.1 i1 := by rw [e12, ua_obj _ hne, s11]
  have o12 : oth u u12 i := by rw [e12]; exact oth_tr o11 (oth_ua _ _ _ _)
  obtain ⟨u13, e13⟩ : ∃ x, x = xm_ua u12 i 13 (va_cpy (u12.1 i1 13) (u12.1 i 13) 0 0 8) := ⟨_, rfl⟩
  have v13 : u13.1 i 13 = va_cpy (u12.1 i1 13) (u12.1 i 13) 0 0 8 := by rw [e13]; exact ua_row _ _ _ _
  have n13 : ∀ p, p ≠ 13 → u13.1 i p = u12.1 i p := fun p hp => by rw [e13]; exact ua_arr _ (fun z => hp z.2)
  have s13 : u13.1 i1 = u.1 i1 := by rw [e13, ua_obj _ hne, s12]
  have o13 : oth u u13 i := by rw [e13]; exact oth_tr o12 (oth_ua _ _ _ _)
  obtain ⟨u14, e14⟩ : ∃ x, x = xm_ua u13 i 14 (va_cpy (u13.1 i1 14) (u13.1 i 14) 0 0 8) := ⟨_, rfl⟩
  have v14 : u14.1 i 14 = va_cpy (u13.1 i1 14) (u13.1 i 14) 0 0 8 := by rw [e14]; exact ua_row _ _ _ _
  have n14 : ∀ p, p ≠ 14 → u14.1 i p = u13.1 i p := fun p hp => by rw [e14]; exact ua_arr _ (fun z => hp z.2)
  have s14 : u14.1 i1 = u.1 i1 := by rw [e14, ua_obj _ hne, s13]
  have o14 : oth u u14 i := by rw [e14]; exact oth_tr o13 (oth_ua _ _ _ _)
  obtain ⟨u15, e15⟩ : ∃ x, x = xm_ua u14 i 15 (va_cpy (u14.1 i1 15) (u14.1 i 15) 0 0 8) := ⟨_, rfl⟩
  have v15 : u15.1 i 15 = va_cpy (u14.1 i1 15) (u14.1 i 15) 0 0 8 := by rw [e15]; exact ua_row _ _ _ _
  have n15 : ∀ p, p ≠ 15 → u15.1 i p = u14.1 i p := fun p hp => by rw [e15]; exact ua_arr _ (fun z => hp z.2)
  have s15 : u15.1 i1 = u.1 i1 := by rw [e15, ua_obj _ hne, s14]
  have o15 : oth u u15 i := by rw [e15]; exact oth_tr o14 (oth_ua _ _ _ _)
  obtain ⟨u16, e16⟩ : ∃ x, x = xm_ua u15 i 16 (va_cpy (u15.1 i1 16) (u15.1 i 16) 0 0 10) := ⟨_, rfl⟩
  have v16 : u16.1 i 16 = va_cpy (u15.1 i1 16) (u15.1 i 16) 0 0 10 := by rw [e16]; exact ua_row _ _ _ _
  have n16 : ∀ p, p ≠ 16 → u16.1 i p = u15.1 i p := fun p hp => by rw [e16]; exact ua_arr _ (fun z => hp z.2)
  have s16 : u16.1 i1 = u.1 i1 := by rw [e16, ua_obj _ hne, s15]
  have o16 : oth u u16 i := by rw [e16]; exact oth_tr o15 (oth_ua _ _ _ _)
  have r1 : ∀ h, h < 6 → u16.1 i 1 h = u.1 i1 1 h := fun h hh => by rw [n16 1 (by decide), n15 1 (by decide), n14 1 (by decide), n13 1 (by decide), n12 1 (by decide), n11 1 (by decide), n10 1 (by decide), n9 1 (by decide), n8 1 (by decide), n7 1 (by decide), n6 1 (by decide), n5 1 (by decide), n4 1 (by decide), n3 1 (by decide), n2 1 (by decide), v1, cpy_at hh]
  have r2 : ∀ h, h < 6 → u16.1 i 2 h = u.1 i1 2 h := fun h hh => by rw [n16 2 (by decide), n15 2 (by decide), n14 2 (by decide), n13 2 (by decide), n12 2 (by decide), n11 2 (by decide), n10 2 (by decide), n9 2 (by decide), n8 2 (by decide), n7 2 (by decide), n6 2 (by decide), n5 2 (by decide), n4 2 (by decide), n3 2 (by decide), v2, cpy_at hh, s1]
  have r3 : ∀ h, h < 6 → u16.1 i 3 h = u.1 i1 3 h := fun h hh => by rw [n16 3 (by decide), n15 3 (by decide), n14 3 (by decide), n13 3 (by decide), n12 3 (by decide), n11 3 (by decide), n10 3 (by decide), n9 3 (by decide), n8 3 (by decide), n7 3 (by decide), n6 3 (by decide), n5 3 (by decide), n4 3 (by decide), v3, cpy_at hh, s2]
  have r9 : ∀ h, h < 8 → u16.1 i 9 h = u.1 i1 9 h := fun h hh => by rw [n16 9 (by decide), n15 9 (by decide), n14 9 (by decide), n13 9 (by decide), n12 9 (by decide), n11 9 (by decide), n10 9 (by decide), v9, cpy_at hh, s8]
  have r10 : ∀ h, h < 8 → u16.1 i 10 h = u.1 i1 10 h := fun h hh => by rw [n16 10 (by decide), n15 10 (by decide), n14 10 (by decide), n13 10 (by decide), n12 10 (by decide), n11 10 (by decide), v10, cpy_at hh, s9]
  have r11 : ∀ h, h < 8 → u16.1 i 11 h = u.1 i1 11 h := fun h hh => by rw [n16 11 (by decide), n15 11 (by decide), n14 11 (by decide), n13 11 (by decide), n12 11 (by decide), v11, cpy_at hh, s10]
  have r12 : ∀ h, h < 8 → u16.1 i 12 h = u.1 i1 12 h := fun h hh => by rw [n16 12 (by decide), n15 12 (by decide), n14 12 (by decide), n13 12 (by decide), v12, cpy_at hh, s11]
  have r13 : ∀ h, h < 8 → u16.1 i 13 h = u.1 i1 13 h := fun h hh => by rw [n16 13 (by decide), n15 13 (by decide), n14 13 (by decide), v13, cpy_at hh, s12]
  have r14 : ∀ h, h < 8 → u16.1 i 14 h = u.1 i1 14 h := fun h hh => by rw [n16 14 (by decide), n15 14 (by decide), v14, cpy_at hh, s13]
  have r15 : ∀ h, h < 8 → u16.1 i 15 h = u.1 i1 15 h := fun h hh => by rw [n16 15 (by decide), v15, cpy_at hh, s14]
  have r16 : ∀ h, h < 10 → u16.1 i 16 h = u.1 i1 16 h := fun h hh => by rw [v16, cpy_at hh, s15]
  have f3 : u16.1 i 0 3 = u.1 i1 0 3 := by
    rw [n16 0 (by decide), n15 0 (by decide), n14 0 (by decide), n13 0 (by decide), n12 0 (by decide), n11 0 (by decide), n10 0 (by decide), n9 0 (by decide), v8, upd_ne (by decide), v7, upd_ne (by decide), v6, upd_ne (by decide), v5, upd_ne (by decide), v4, upd_eq, s3]
  have f4 : u16.1 i 0 4 = u.1 i1 0 4 := by
    rw [n16 0 (by decide), n15 0 (by decide), n14 0 (by decide), n13 0 (by decide), n12 0 (by decide), n11 0 (by decide), n10 0 (by decide), n9 0 (by decide), v8, upd_ne (by decide), v7, upd_ne (by decide), v6, upd_ne (by decide), v5, upd_eq, s4]
  have f5 : u16.1 i 0 5 = u.1 i1 0 5 := by
    rw [n16 0 (by decide), n15 0 (by decide), n14 0 (by decide), n13 0 (by decide), n12 0 (by decide), n11 0 (by decide), n10 0 (by decide), n9 0 (by decide), v8, upd_ne (by decide), v7, upd_ne (by decide), v6, upd_eq, s5]
  have f6 : u16.1 i 0 6 = u.1 i1 0 6 := by
    rw [n16 0 (by decide), n15 0 (by decide), n14 0 (by decide), n13 0 (by decide), n12 0 (by decide), n11 0 (by decide), n10 0 (by decide), n9 0 (by decide), v8, upd_ne (by decide), v7, upd_eq, s6]
  have f7 : u16.1 i 0 7 = u.1 i1 0 7 := by
    rw [n16 0 (by decide), n15 0 (by decide), n14 0 (by decide), n13 0 (by decide), n12 0 (by decide), n11 0 (by decide), n10 0 (by decide), n9 0 (by decide), v8, upd_eq, s7]
  refine ⟨u16, ?_, ⟨fun h hh => (r1 h hh).trans (hv.1 h hh), fun h hh => (r2 h hh).trans (hv.2.1 h hh), fun h hh => (r3 h hh).trans (hv.2.2.1 h hh), ⟨f3.trans hv.2.2.2.1.1, f4.trans hv.2.2.2.1.2.1, f5.trans hv.2.2.2.1.2.2.1, f6.trans hv.2.2.2.1.2.2.2.1, f7.trans hv.2.2.2.1.2.2.2.2⟩, fun k hk => ?_, fun s hs => (r16 s hs).trans (hv.2.2.2.2.2 s hs)⟩, o16⟩
  · rw [xe_X2_become]
    refine xg hc1 (xg hc (xg ⟨v_cp hc1 (n := 6) rfl (m := 6) rfl (Nat.le_refl _) (by decide), v_cp hc (n := 6) rfl (m := 6) rfl (Nat.le_refl _) (by decide)⟩ (xlt ?_)))
    rw [← e1]
    rw [xe_X2_become_8]
    refine xg hc1 (xg hc (xg ⟨v_cp hc1 (n := 6) rfl (m := 6) rfl (Nat.le_refl _) (by decide), v_cp hc (n := 6) rfl (m := 6) rfl (Nat.le_refl _) (by decide)⟩ (xlt ?_)))
    rw [← e2]
    rw [xe_X2_become_16]
    refine xg hc1 (xg hc (xg ⟨v_cp hc1 (n := 6) rfl (m := 6) rfl (Nat.le_refl _) (by decide), v_cp hc (n := 6) rfl (m := 6) rfl (Nat.le_refl _) (by decide)⟩ (xlt ?_)))
    rw [← e3]
    rw [xe_X2_become_24]
    refine xg hc1 (xg hc (xlt ?_))
    rw [← e4]
    rw [xe_X2_become_28]
    refine xg hc1 (xg hc (xlt ?_))
    rw [← e5]
    rw [xe_X2_become_32]
    refine xg hc1 (xg hc (xlt ?_))
    rw [← e6]
    rw [xe_X2_become_36]
    refine xg hc1 (xg hc (xlt ?_))
    rw [← e7]
    rw [xe_X2_become_40]
    refine xg hc1 (xg hc (xlt ?_))
    rw [← e8]
    rw [xe_X2_become_44]
    refine xg hc1 (xg hc (xg ⟨v_cp hc1 (n := 8) rfl (m := 8) rfl (Nat.le_refl _) (by decide), v_cp hc (n := 8) rfl (m := 8) rfl (Nat.le_refl _) (by decide)⟩ (xlt ?_)))
    rw [← e9]
    rw [xe_X2_become_52]
    refine xg hc1 (xg hc (xg ⟨v_cp hc1 (n := 8) rfl (m := 8) rfl (Nat.le_refl _) (by decide), v_cp hc (n := 8) rfl (m := 8) rfl (Nat.le_refl _) (by decide)⟩ (xlt ?_)))
    rw [← e10]
    rw [xe_X2_become_60]
    refine xg hc1 (xg hc (xg ⟨v_cp hc1 (n := 8) rfl (m := 8) rfl (Nat.le_refl _) (by decide), v_cp hc (n := 8) rfl (m := 8) rfl (Nat.le_refl _) (by decide)⟩ (xlt ?_)))
    rw [← e11]
    rw [xe_X2_become_68]
    refine xg hc1 (xg hc (xg ⟨v_cp hc1 (n := 8) rfl (m := 8) rfl (Nat.le_refl _) (by decide), v_cp hc (n := 8) rfl (m := 8) rfl (Nat.le_refl _) (by decide)⟩ (xlt ?_)))
    rw [← e12]
    rw [xe_X2_become_76]
    refine xg hc1 (xg hc (xg ⟨v_cp hc1 (n := 8) rfl (m := 8) rfl (Nat.le_refl _) (by decide), v_cp hc (n := 8) rfl (m := 8) rfl (Nat.le_refl _) (by decide)⟩ (xlt ?_)))
    rw [← e13]
    rw [xe_X2_become_84]
    refine xg hc1 (xg hc (xg ⟨v_cp hc1 (n := 8) rfl (m := 8) rfl (Nat.le_refl _) (by decide), v_cp hc (n := 8) rfl (m := 8) rfl (Nat.le_refl _) (by decide)⟩ (xlt ?_)))
    rw [← e14]
    rw [xe_X2_become_92]
    refine xg hc1 (xg hc (xg ⟨v_cp hc1 (n := 8) rfl (m := 8) rfl (Nat.le_refl _) (by decide), v_cp hc (n := 8) rfl (m := 8) rfl (Nat.le_refl _) (by decide)⟩ (xlt ?_)))
    rw [← e15]
    rw [xe_X2_become_100]
    refine xg hc1 (xg hc (xg ⟨v_cp hc1 (n := 10) rfl (m := 10) rfl (Nat.le_refl _) (by decide), v_cp hc (n := 10) rfl (m := 10) rfl (Nat.le_refl _) (by decide)⟩ (xlt ?_)))
    rw [← e16]
  · obtain ⟨a1, a2, a3, a4, a5, a6, a7⟩ := hv.2.2.2.2.1 k hk
    exact ⟨(r9 k hk).trans a1, (r10 k hk).trans a2, (r11 k hk).trans a3, (r12 k hk).trans a4, (r13 k hk).trans a5, (r14 k hk).trans a6, (r15 k hk).trans a7⟩
