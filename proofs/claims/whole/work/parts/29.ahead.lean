/-! ahead -/
theorem yearB_0 (d : Nat → Int32) : yearB d 0 = d 0 := by
  unfold yearB
  by_cases e : d 1 - d 1 / d 4 * d 4 = 0
  · rw [if_pos e]; exact offerN_low (by decide) (by decide) _
  · rw [if_neg e]
theorem yearG_0 {d : Nat → Int32} (h : inv d) : yearG d 0 = d 0 := by
  unfold yearG
  rw [upd_ne (by decide), yearB_0, growN_low (by decide), event_low h (by decide)]
theorem yearsG_0 {d : Nat → Int32} (h : inv d) : ∀ n, yearsG d n 0 = d 0
  | 0 => rfl
  | n + 1 => (yearG_0 (inv_yearsG h n)).trans (yearsG_0 h n)
theorem m_aheadT {w z : xm_U} {d : Nat → Int32} (h : sv w d z) (hd : inv d) {k b : Nat} (hk : k < 8) (hb : b < 7 ∨ b = 11) {f : Int32 → xm_U → Option xm_R} {r : Option xm_R} (hf : f (tells d k b) z = r) : xm_if (¬ nI b = 11) (xm_if (xm_cls 9 = 4) (xm_bi (xm_C 117 [xv_r 9 0, xv_i (nI k), xv_i (nI b)] z) f) none) (xm_if (xm_cls 9 = 4) (xm_bi (xm_C 127 [xv_r 9 0, xv_i (nI k)] z) f) none) = r := by
  obtain rfl := h.2.1
  rcases hb with hb | rfl
  · refine xg (nI_neq (b := 11) (by omega) (by decide)) (xg rfl (xbi (m_itsN z hk hb) ?_))
    unfold tells at hf
    rw [if_neg (by omega), if_neg (by omega), if_neg (by omega), if_neg (by omega), if_neg (by omega)] at hf
    exact hf
  · exact xn (fun q => q rfl) (xg rfl (xbi (m_fetches z hd hk) hf))
theorem S_ahead (a b c : Int32) : Same 62 146 [xv_i a, xv_i b, xv_i c] := by
  intro u h
  have hv := h.1
  have hd := h.2.1
  by_cases P : bd a (u.1 9 1 0 - 1)
  · by_cases F : (2 ≤ b ∧ b ≤ 6) ∨ b = 11
    · by_cases C : bd c 100
      · obtain ⟨k, hk, rfl⟩ := plank_nI hd P
        obtain ⟨n, hn, rfl⟩ := bd_nI (n := 100) (by decide) C
        obtain ⟨h8, hN⟩ := inv_nN hd
        obtain ⟨w, hw, hwI⟩ : ∃ w, (w < 7 ∨ w = 11) ∧ b = nI w := by
          rcases F with F | F
          · obtain ⟨w, hw, e⟩ := bd_nI (x := b) (n := 6) (by decide) ⟨Int32.le_trans (by decide) F.1, F.2⟩
            exact ⟨w, Or.inl (by omega), e⟩
          · exact ⟨11, Or.inr rfl, F⟩
        subst hwI
        obtain ⟨u1, q1, q2, q3⟩ := v_become (i := 2) (i1 := 1) rfl rfl (by decide) hv
        obtain ⟨u2, p1, p2, p3⟩ := v_passYears (i := 2) rfl q2 hd (n := n) (by omega)
        have hyi := inv_yearsG hd n
        have hyk : k < nN (yearsG (u.1 9 1) n) := by rw [nN_of (yearsG_0 hd n)]; exact hk
        have ht := v_tell (i := 2) rfl p2 hyi hyk (w := w) (by omega)
        have ho := oth_tr q3 p3
        have hR := Rel_t h ho
        have e9 : u2.1 9 1 = u.1 9 1 := by rw [ho.1 9 (by decide)]
        have hs := sv_save u2
        have hy := sv_years hs hR.2.1 (n := n) (by omega)
        have hs2 := sv_dU hs (yearsG (u2.1 9 1) n)
        have hR2 := sv_Rel hR hs2
        refine ⟨xv_i (tells (yearsG (u.1 9 1) n) k w), u2, _, ?_, ?_, hR2⟩
        · rw [xe_X3_ahead]
          refine xbi (x_within _ _ _ _) ?_
          by_cases F1 : 2 ≤ nI w ∧ nI w ≤ 6
          · exact xg (bI_ne F1) (xg rfl (xbi (x_isPlank u _ hv) (xn (bI_ne P) (xn (by decide) (xbi (x_within _ _ _ _) (xg (bI_ne C) (xg rfl (xg rfl (xg rfl (xbv q1 (xg rfl (xg rfl (xbv p1 (xg rfl (xg rfl (xbi ht rfl))))))))))))))))
          · exact xn (bI_nn F1) (xn (fun q => q (F.resolve_left F1)) (xg rfl (xbi (x_isPlank u _ hv) (xn (bI_ne P) (xn (by decide) (xbi (x_within _ _ _ _) (xg (bI_ne C) (xg rfl (xg rfl (xg rfl (xbv q1 (xg rfl (xg rfl (xbv p1 (xg rfl (xg rfl (xbi ht rfl)))))))))))))))))
        · rw [xe_X4_ahead]
          have P2 : bd (nI k) (u2.1 9 1 0 - 1) := by rw [e9]; exact P
          have hyi2 := inv_yearsG hR.2.1 n
          refine xg rfl (xbi (m_isPlank u2 _) (xn (bI_ne P2) (xbi (m_inb _ _ 2 6 rfl rfl) ?_)))
          by_cases F1 : 2 ≤ nI w ∧ nI w ≤ 6
          · refine xg (bI_ne F1) (xbi (m_inb _ _ 0 100 rfl rfl) (xg (bI_ne C) (xg rfl (xg rfl (xbv (m_save _) (xg rfl (xbv hy (m_aheadT hs2 hyi2 (by omega) hw (xg rfl (xg rfl (xbv (m_back _) ?_)))))))))))
            rw [e9]
          · refine xn (bI_nn F1) (xn (fun q => q (F.resolve_left F1)) (xbi (m_inb _ _ 0 100 rfl rfl) (xg (bI_ne C) (xg rfl (xg rfl (xbv (m_save _) (xg rfl (xbv hy (m_aheadT hs2 hyi2 (by omega) hw (xg rfl (xg rfl (xbv (m_back _) ?_))))))))))))
            rw [e9]
      · refine S_fail h 0 (r := xv_i (-1000001)) ?_ ?_
        · rw [xe_X3_ahead]
          refine xbi (x_within _ _ _ _) ?_
          by_cases F1 : 2 ≤ b ∧ b ≤ 6
          · exact xg (bI_ne F1) (xg rfl (xbi (x_isPlank u _ hv) (xn (bI_ne P) (xn (by decide) (xbi (x_within _ _ _ _) (xn (bI_nn C) (xg rfl (xbi (x_f0 _) rfl))))))))
          · exact xn (bI_nn F1) (xn (fun q => q (F.resolve_left F1)) (xg rfl (xbi (x_isPlank u _ hv) (xn (bI_ne P) (xn (by decide) (xbi (x_within _ _ _ _) (xn (bI_nn C) (xg rfl (xbi (x_f0 _) rfl)))))))))
        · rw [xe_X4_ahead]
          refine xg rfl (xbi (m_isPlank _ _) (xn (bI_ne P) (xbi (m_inb _ _ 2 6 rfl rfl) ?_)))
          by_cases F1 : 2 ≤ b ∧ b ≤ 6
          · exact xg (bI_ne F1) (xbi (m_inb _ _ 0 100 rfl rfl) (xn (bI_nn C) (xg rfl (xbi (m_f0 _) rfl))))
          · exact xn (bI_nn F1) (xn (fun q => q (F.resolve_left F1)) (xbi (m_inb _ _ 0 100 rfl rfl) (xn (bI_nn C) (xg rfl (xbi (m_f0 _) rfl)))))
    · refine S_fail h 0 (r := xv_i (-1000001)) ?_ ?_
      · rw [xe_X3_ahead]
        exact xbi (x_within _ _ _ _) (xn (bI_nn fun q => F (Or.inl q)) (xg (fun q => F (Or.inr q)) (xg rfl (xbi (x_isPlank u _ hv) (xn (bI_ne P) (xg rfl (xg rfl (xbi (x_f0 _) rfl))))))))
      · rw [xe_X4_ahead]
        exact xg rfl (xbi (m_isPlank _ _) (xn (bI_ne P) (xbi (m_inb _ _ 2 6 rfl rfl) (xn (bI_nn fun q => F (Or.inl q)) (xg (fun q => F (Or.inr q)) (xg rfl (xbi (m_f0 _) rfl)))))))
  · refine S_fail h 0 (r := xv_i (-1000001)) ?_ ?_
    · rw [xe_X3_ahead]
      refine xbi (x_within _ _ _ _) ?_
      by_cases F1 : 2 ≤ b ∧ b ≤ 6
      · exact xg (bI_ne F1) (xg rfl (xbi (x_isPlank u _ hv) (xg (bI_f P) (xg rfl (xbi (x_f0 _) rfl)))))
      · by_cases F2 : b = 11
        · exact xn (bI_nn F1) (xn (fun q => q F2) (xg rfl (xbi (x_isPlank u _ hv) (xg (bI_f P) (xg rfl (xbi (x_f0 _) rfl))))))
        · exact xn (bI_nn F1) (xg F2 (xg rfl (xbi (x_isPlank u _ hv) (xg (bI_f P) (xg rfl (xbi (x_f0 _) rfl))))))
    · rw [xe_X4_ahead]
      exact xg rfl (xbi (m_isPlank _ _) (xg (bI_f P) (xg rfl (xbi (m_f0 _) rfl))))
