/-! copy -/
def rg (a n : Int32) (sz : Nat) : Prop := ∃ f m, a = nI f ∧ n = nI m ∧ f + m ≤ sz
theorem rg_nI {f m sz : Nat} (hf : f < 2 ^ 31) (hm : m < 2 ^ 31) (hsz : sz ≤ 40) : rg (nI f) (nI m) sz ↔ f + m ≤ sz := by
  constructor
  · rintro ⟨f', m', e1, e2, h⟩
    rw [nI_eq hf (by omega)] at e1
    rw [nI_eq hm (by omega)] at e2
    omega
  · intro h; exact ⟨f, m, rfl, rfl, h⟩
theorem rg_a {a n : Int32} {sz : Nat} (hsz : sz ≤ 40) (h : a < 0) : ¬ rg a n sz := by
  rintro ⟨f, m, e1, e2, q⟩
  rw [e1] at h
  exact nI_pos (by omega) h
theorem rg_n {a n : Int32} {sz : Nat} (hsz : sz ≤ 40) (h : n < 0) : ¬ rg a n sz := by
  rintro ⟨f, m, e1, e2, q⟩
  rw [e2] at h
  exact nI_pos (by omega) h
theorem x_range {u : xm_U} {s sz : Nat} (hs4 : s < 4) (hsz : sz ≤ 40) (h1 : u.1 (5 + s) 0 1 = nI sz) (a n : Int32) : xm_C 3 [xv_r (5 + s) 0, xv_i a, xv_i n] u = some (some (xv_i (bI (rg a n sz))), u) := by
  have hc := cls_s hs4
  rw [xe_X0_hasRange, h1]
  by_cases c1 : a < 0
  · rw [bI_f (rg_a hsz c1)]
    exact xg c1 (xg nb0 (rfl))
  by_cases c2 : n < 0
  · rw [bI_f (rg_n hsz c2)]
    exact xn c1 (xg c2 (xg nb0 (rfl)))
  obtain ⟨f, hf, rfl⟩ := nI_of c1
  obtain ⟨m, hm, rfl⟩ := nI_of c2
  by_cases c3 : sz < m
  · rw [bI_f (fun q => by rw [rg_nI hf hm hsz] at q; omega)]
    exact xn c1 (xn c2 (xg hc (xg (nI_lt c3 hm) (xg nb0 (rfl)))))
  · rw [pk_sub (a := sz) (b := m) (by omega)]
    by_cases c4 : sz - m < f
    · rw [bI_f (fun q => by rw [rg_nI hf hm hsz] at q; omega)]
      exact xn c1 (xn c2 (xg hc (xn (nI_nlt (by omega) (by omega)) (xg hc (xg (nI_lt c4 hf) (xg nb0 (rfl)))))))
    · rw [bI_t ((rg_nI hf hm hsz).mpr (by omega))]
      exact xn c1 (xn c2 (xg hc (xn (nI_nlt (by omega) (by omega)) (xg hc (xn (nI_nlt (by omega) (by omega)) (xg nb1 (rfl)))))))
theorem cmp_N {f m sz : Nat} (hf : f < 2 ^ 31) (hm : m < 2 ^ 31) (hsz : sz ≤ 40) : (0 : Int32) < lg_cmp ((nI f).toInt64 + (nI m).toInt64) ((nI sz).toInt64) ↔ sz < f + m := by
  rw [nI_l hf, nI_l hm, nI_l (n := sz) (by omega), lN_add, cmp_gt, pk_lLT (by omega) (by omega)]
theorem m_cp73 {s t f g N : Nat} (hs4 : s < 4) (hf : f + N ≤ 40) : ∀ (m k : Nat) (z : xm_U), k + m = N → (∀ j, j < k → z.1 9 17 j = z.1 9 16 (40 * s + f + j)) → ∃ z', (∀ r, xm_E 192 (xc_X4_copy.drop 94, [some (xv_r 9 0), some (xv_i (nI s)), some (xv_i (nI f)), some (xv_i (nI t)), some (xv_i (nI g)), some (xv_i (nI N)), some (xv_i (nI 0))], [], z') = some r → xm_E 192 (xc_X4_copy.drop 73, [some (xv_r 9 0), some (xv_i (nI s)), some (xv_i (nI f)), some (xv_i (nI t)), some (xv_i (nI g)), some (xv_i (nI N)), some (xv_i (nI k))], [], z) = some r) ∧ (∀ j, j < N → z'.1 9 17 j = z.1 9 16 (40 * s + f + j)) ∧ (∀ i, i ≠ 9 → z'.1 i = z.1 i) ∧ ∀ p, p ≠ 17 → z'.1 9 p = z.1 9 p := by
  intro m
  induction m with
  | zero =>
    intro k z hk h0
    have : k = N := by omega
    subst this
    refine ⟨z, fun r e => ?_, h0, fun _ _ => rfl, fun _ _ => rfl⟩
    rw [xe_X4_copy_73]
    exact xg (nI_le (Nat.le_refl _) (by omega)) (e)
  | succ m ih =>
    intro k z hk h0
    obtain ⟨z', e, a1, a2, a3⟩ := ih (k + 1) (xm_us z 9 17 k (z.1 9 16 (40 * s + f + k))) (by omega) (fun j hj => by
      rw [us_row, us_arr _ (by decide)]
      unfold upd
      by_cases q : j = k
      · rw [if_pos q, q]
      · rw [if_neg q]; exact h0 j (by omega))
    refine ⟨z', fun r q => ?_, fun j hj => by rw [a1 j hj, us_arr _ (by decide)], fun i hi => (a2 i hi).trans (us_obj _ hi), fun p hp => (a3 p hp).trans (us_arr _ (fun q => hp q.2))⟩
    rw [xe_X4_copy_73, ix40, ad_nI (40 * s + f) k, nI_clamp (n := k) (by omega), nI_clamp (n := 40 * s + f + k) (by omega), nI_1]
    exact xn (nI_ge (by omega) (by omega)) (xg rfl (xg rfl (xg (xin (vp_in_nI (n := 40 * s + f + k) (N := 160) (by omega) (by decide)) rfl) (xg (xin (vp_in_nI (n := k) (N := 40) (by omega) (by decide)) rfl) (xlt (e r q))))))
theorem m_cp94 {s t f g N : Nat} (ht4 : t < 4) (hg : g + N ≤ 40) : ∀ (m k : Nat) (z : xm_U), k + m = N → ∃ z', xm_E 192 (xc_X4_copy.drop 94, [some (xv_r 9 0), some (xv_i (nI s)), some (xv_i (nI f)), some (xv_i (nI t)), some (xv_i (nI g)), some (xv_i (nI N)), some (xv_i (nI k))], [], z) = some (some (xv_i (nI N)), z') ∧ (∀ q, z'.1 9 16 q = if 40 * t + g + k ≤ q ∧ q < 40 * t + g + N then z.1 9 17 (q - (40 * t + g)) else z.1 9 16 q) ∧ (∀ i, i ≠ 9 → z'.1 i = z.1 i) ∧ ∀ p, p ≠ 16 → z'.1 9 p = z.1 9 p := by
  intro m
  induction m with
  | zero =>
    intro k z hk
    have : k = N := by omega
    subst this
    refine ⟨z, ?_, fun q => by rw [if_neg (by omega)], fun _ _ => rfl, fun _ _ => rfl⟩
    rw [xe_X4_copy_94]
    exact xg (nI_le (Nat.le_refl _) (by omega)) (rfl)
  | succ m ih =>
    intro k z hk
    obtain ⟨z', e, a1, a2, a3⟩ := ih (k + 1) (xm_us z 9 16 (40 * t + g + k) (z.1 9 17 k)) (by omega)
    refine ⟨z', ?_, fun q => ?_, fun i hi => (a2 i hi).trans (us_obj _ hi), fun p hp => (a3 p hp).trans (us_arr _ (fun q => hp q.2))⟩
    · rw [xe_X4_copy_94, ix40, ad_nI (40 * t + g) k, nI_clamp (n := k) (by omega), nI_clamp (n := 40 * t + g + k) (by omega), nI_1]
      exact xn (nI_ge (by omega) (by omega)) (xg rfl (xg rfl (xg (xin (vp_in_nI (n := k) (N := 40) (by omega) (by decide)) rfl) (xg (xin (vp_in_nI (n := 40 * t + g + k) (N := 160) (by omega) (by decide)) rfl) (xlt (e))))))
    · rw [a1 q, us_row, us_arr _ (by decide)]
      unfold upd
      by_cases c : q = 40 * t + g + k
      · rw [if_neg (by omega), if_pos c, if_pos (by omega), c, show 40 * t + g + k - (40 * t + g) = k by omega]
      · rw [if_neg c]
        by_cases c2 : 40 * t + g + (k + 1) ≤ q ∧ q < 40 * t + g + N
        · rw [if_pos c2, if_pos (by omega)]
        · rw [if_neg c2, if_neg (by omega)]
theorem S_copy (a b c d n : Int32) : Same 84 192 [xv_i a, xv_i b, xv_i c, xv_i d, xv_i n] := by
  intro u h
  by_cases H : bd a 3
  · by_cases K : bd c 3
    · obtain ⟨s, hs, rfl⟩ := bd_nI (n := 3) (by decide) H
      obtain ⟨t, ht, rfl⟩ := bd_nI (n := 3) (by decide) K
      have hs4 : s < 4 := by omega
      have ht4 : t < 4 := by omega
      have hcs := cls_s hs4
      have hct := cls_s ht4
      have vs : vp_in (nI s) 4 := vp_in_nI hs4 (by decide)
      have vt : vp_in (nI t) 4 := vp_in_nI ht4 (by decide)
      have i14s : xm_in 9 14 (nI s) := xin vs rfl
      have i15s : xm_in 9 15 (nI s) := xin vs rfl
      have i14t : xm_in 9 14 (nI t) := xin vt rfl
      have i15t : xm_in 9 15 (nI t) := xin vt rfl
      obtain ⟨g0, g1, g2, ⟨ss, hss, g3⟩, g4⟩ := h.2.2.2.2.2 s hs4
      obtain ⟨k0, k1, k2, ⟨st, hst, k3⟩, k4⟩ := h.2.2.2.2.2 t ht4
      have rs := fun x y => x_range (u := u) hs4 hss (g1.trans g3) x y
      have rt := fun x y => x_range (u := u) ht4 hst (k1.trans k3) x y
      have e9 : ∀ f : Nat, (xm_us u 0 7 f (u.1 0 7 f + 1)).1 9 = u.1 9 := fun f => us_obj (i := 0) (i' := 9) _ (by decide)
      by_cases Ms : u.1 9 14 s = 0
      · refine S_fail h 5 (r := xv_i (-1000006)) ?_ ?_
        · rw [xe_X3_copy, nI_clamp (n := s) (by omega), nI_clamp (n := t) (by omega)]
          exact xbi (x_isSheet _ _) (xn (bI_ne H) (xbi (x_isSheet _ _) (xg (bI_ne K) (xg rfl (xg vs (xg rfl (xg vt (xg hcs (xbi (x_miss _ hs4) (xg (bI_ne (g0.trans Ms)) (xg rfl (xbi (x_f5 _) (rfl)))))))))))))
        · rw [xe_X4_copy, nI_clamp (n := s) (by omega), nI_clamp (n := t) (by omega)]
          exact xbi (m_isSheet _ _) (xn (bI_ne H) (xbi (m_isSheet _ _) (xg (bI_ne K) (xg rfl (xg i14s (xg ((by rw [e9]; exact Ms)) (xg rfl (xbi (m_f5 _) (rfl)))))))))
      have Ms1 : ¬ u.1 (5 + s) 0 0 = 0 := fun q => Ms (g0.symm.trans q)
      by_cases Mt : u.1 9 14 t = 0
      · refine S_fail h 5 (r := xv_i (-1000006)) ?_ ?_
        · rw [xe_X3_copy, nI_clamp (n := s) (by omega), nI_clamp (n := t) (by omega)]
          exact xbi (x_isSheet _ _) (xn (bI_ne H) (xbi (x_isSheet _ _) (xg (bI_ne K) (xg rfl (xg vs (xg rfl (xg vt (xg hcs (xbi (x_miss _ hs4) (xn ((fun q => q (bI_f Ms1))) (xg hct (xbi (x_miss _ ht4) (xn (bI_ne (k0.trans Mt)) (xg rfl (xbi (x_f5 _) (rfl))))))))))))))))
        · rw [xe_X4_copy, nI_clamp (n := s) (by omega), nI_clamp (n := t) (by omega)]
          exact xbi (m_isSheet _ _) (xn (bI_ne H) (xbi (m_isSheet _ _) (xg (bI_ne K) (xg rfl (xg i14s (xn ((by rw [e9]; exact Ms)) (xg rfl (xg i14t (xn ((fun q => q (by rw [e9]; exact Mt))) (xg rfl (xbi (m_f5 _) (rfl))))))))))))
      have Mt1 : ¬ u.1 (5 + t) 0 0 = 0 := fun q => Mt (k0.symm.trans q)
      by_cases E : u.1 9 14 s = u.1 9 14 t
      · have E1 : u.1 (5 + s) 0 0 = u.1 (5 + t) 0 0 := by rw [g0, k0, E]
        by_cases R : rg b n ss ∧ rg d n st
        · obtain ⟨⟨f, m, rfl, rfl, hf⟩, ⟨g, m', rfl, em, hg⟩⟩ := R
          have : m = m' := (nI_eq (by omega) (by omega)).mp em
          subst this
          have Rs : rg (nI f) (nI m) ss := ⟨f, m, rfl, rfl, hf⟩
          have Rt : rg (nI g) (nI m) st := ⟨g, m, rfl, rfl, hg⟩
          have cp : ∀ {i x : Nat}, i < 4 → x + m ≤ 40 → xm_cp (5 + i) 3 (nI x) (nI m) := fun {i x} hi hx => ⟨40, by rw [cls_s hi]; rfl, nI_pos (by omega), nI_pos (by omega), by rw [nI_clamp (by omega), nI_clamp (by omega)]; exact hx⟩
          generalize hw : xm_ua u (5 + t) 3 (va_cpy (u.1 (5 + s) 3) (u.1 (5 + t) 3) f g m) = w
          have w9 : w.1 9 = u.1 9 := by rw [← hw, ua_obj _ (by omega)]
          obtain ⟨z1, e1, a1, a2, a3⟩ := m_cp73 (s := s) (t := t) (f := f) (g := g) (N := m) hs4 (by omega) m 0 w (by omega) (fun j hj => absurd hj (Nat.not_lt_zero j))
          obtain ⟨z, e2, b1, b2, b3⟩ := m_cp94 (s := s) (t := t) (f := f) (g := g) (N := m) ht4 (by omega) m 0 z1 (by omega)
          refine ⟨xv_i (nI m), w, z, ?_, ?_, ?_⟩
          · rw [xe_X3_copy, nI_clamp (n := s) (by omega), nI_clamp (n := t) (by omega), nI_clamp (n := f) (by omega), nI_clamp (n := g) (by omega), nI_clamp (n := m) (by omega)]
            refine xbi (x_isSheet _ _) (xn (bI_ne H) (xbi (x_isSheet _ _) (xg (bI_ne K) (xg rfl (xg vs (xg rfl (xg vt (xg hcs (xbi (x_miss _ hs4) (xn ((fun q => q (bI_f Ms1))) (xg hct (xbi (x_miss _ ht4) (xg (bI_f Mt1) (xg hcs (xg hct (xg E1 (xg hcs (xbi (rs _ _) (xn (bI_ne Rs) (xg hct (xbi (rt _ _) (xg (bI_ne Rt) (xg hcs (xg hct (xg (⟨cp hs4 (by omega), cp ht4 (by omega)⟩) (xlt (?_)))))))))))))))))))))))))))
            rw [hw]
          · rw [xe_X4_copy, nI_clamp (n := s) (by omega), nI_clamp (n := t) (by omega)]
            refine xbi (m_isSheet _ _) (xn (bI_ne H) (xbi (m_isSheet _ _) (xg (bI_ne K) (xg rfl (xg i14s (xn ((by rw [w9]; exact Ms)) (xg rfl (xg i14t (xg ((by rw [w9]; exact Mt)) (xg rfl (xg i14s (xg rfl (xg i14t (xg ((by rw [w9]; exact E)) (xn (nI_pos (by omega)) (xn (nI_pos (by omega)) (xn (nI_pos (by omega)) (xg rfl (xg i15s (xn ?_ (xg rfl (xg i15t (xg ?_ (e1 _ e2))))))))))))))))))))))))
            · rw [w9, g3, cmp_N (by omega) (by omega) hss]; omega
            · rw [w9, k3]; exact il_nlt (by rw [cmp_N (by omega) (by omega) hst]; omega)
          · refine Rel_sh h (fun i h5 _ => ?_) (fun p hp => ?_) (fun s' hs' => ?_)
            · rw [b2 i (by omega), a2 i (by omega), ← hw, ua_obj _ (by omega)]
            · rw [b3 p (by omega), a3 p (by omega), w9]
            · obtain ⟨l0, l1, l2, l3, l4⟩ := h.2.2.2.2.2 s' hs'
              rw [b3 14 (by decide), a3 14 (by decide), b3 15 (by decide), a3 15 (by decide), w9, b2 (5 + s') (by omega), a2 (5 + s') (by omega)]
              have w0 : w.1 (5 + s') 0 = u.1 (5 + s') 0 := by rw [← hw, ua_arr _ (by omega)]
              rw [w0]
              refine ⟨l0, l1, l2, l3, fun k hk => ?_⟩
              rw [b1, a3 16 (by decide), w9]
              by_cases q : s' = t
              · subst q
                rw [show w.1 (5 + s') 3 = va_cpy (u.1 (5 + s) 3) (u.1 (5 + s') 3) f g m by rw [← hw, ua_row]]
                by_cases c : g ≤ k ∧ k < g + m
                · rw [pk_cpy_in c.1 c.2, if_pos (by omega), a1 _ (by omega), w9, g4 _ (by omega), show 40 * s' + k - (40 * s' + g) = k - g by omega, show 40 * s + f + (k - g) = 40 * s + (f + (k - g)) by omega]
                · rw [pk_cpy_out (by omega), if_neg (by omega)]
                  exact l4 k hk
              · rw [show w.1 (5 + s') = u.1 (5 + s') by rw [← hw, ua_obj _ (by omega)], if_neg (by omega)]
                exact l4 k hk
        · refine S_fail h 0 (r := xv_i (-1000001)) ?_ ?_
          · rw [xe_X3_copy, nI_clamp (n := s) (by omega), nI_clamp (n := t) (by omega)]
            by_cases Rs : rg b n ss
            · have Rt : ¬ rg d n st := fun q => R ⟨Rs, q⟩
              exact xbi (x_isSheet _ _) (xn (bI_ne H) (xbi (x_isSheet _ _) (xg (bI_ne K) (xg rfl (xg vs (xg rfl (xg vt (xg hcs (xbi (x_miss _ hs4) (xn ((fun q => q (bI_f Ms1))) (xg hct (xbi (x_miss _ ht4) (xg (bI_f Mt1) (xg hcs (xg hct (xg E1 (xg hcs (xbi (rs _ _) (xn (bI_ne Rs) (xg hct (xbi (rt _ _) (xn ((fun q => q (bI_f Rt))) (xg rfl (xbi (x_f0 _) (rfl)))))))))))))))))))))))))
            · exact xbi (x_isSheet _ _) (xn (bI_ne H) (xbi (x_isSheet _ _) (xg (bI_ne K) (xg rfl (xg vs (xg rfl (xg vt (xg hcs (xbi (x_miss _ hs4) (xn ((fun q => q (bI_f Ms1))) (xg hct (xbi (x_miss _ ht4) (xg (bI_f Mt1) (xg hcs (xg hct (xg E1 (xg hcs (xbi (rs _ _) (xg (bI_f Rs) (xg rfl (xbi (x_f0 _) (rfl))))))))))))))))))))))
          · rw [xe_X4_copy, nI_clamp (n := s) (by omega), nI_clamp (n := t) (by omega)]
            by_cases c1 : b < 0
            · exact xbi (m_isSheet _ _) (xn (bI_ne H) (xbi (m_isSheet _ _) (xg (bI_ne K) (xg rfl (xg i14s (xn ((by rw [e9]; exact Ms)) (xg rfl (xg i14t (xg ((by rw [e9]; exact Mt)) (xg rfl (xg i14s (xg rfl (xg i14t (xg ((by rw [e9]; exact E)) (xg c1 (xg rfl (xbi (m_f0 _) (rfl))))))))))))))))))
            by_cases c2 : d < 0
            · exact xbi (m_isSheet _ _) (xn (bI_ne H) (xbi (m_isSheet _ _) (xg (bI_ne K) (xg rfl (xg i14s (xn ((by rw [e9]; exact Ms)) (xg rfl (xg i14t (xg ((by rw [e9]; exact Mt)) (xg rfl (xg i14s (xg rfl (xg i14t (xg ((by rw [e9]; exact E)) (xn c1 (xg c2 (xg rfl (xbi (m_f0 _) (rfl)))))))))))))))))))
            by_cases c3 : n < 0
            · exact xbi (m_isSheet _ _) (xn (bI_ne H) (xbi (m_isSheet _ _) (xg (bI_ne K) (xg rfl (xg i14s (xn ((by rw [e9]; exact Ms)) (xg rfl (xg i14t (xg ((by rw [e9]; exact Mt)) (xg rfl (xg i14s (xg rfl (xg i14t (xg ((by rw [e9]; exact E)) (xn c1 (xn c2 (xg c3 (xg rfl (xbi (m_f0 _) (rfl))))))))))))))))))))
            obtain ⟨f, hf, rfl⟩ := nI_of c1
            obtain ⟨g, hg, rfl⟩ := nI_of c2
            obtain ⟨m, hm, rfl⟩ := nI_of c3
            rw [rg_nI hf hm hss, rg_nI hg hm hst] at R
            by_cases c4 : ss < f + m
            · exact xbi (m_isSheet _ _) (xn (bI_ne H) (xbi (m_isSheet _ _) (xg (bI_ne K) (xg rfl (xg i14s (xn ((by rw [e9]; exact Ms)) (xg rfl (xg i14t (xg ((by rw [e9]; exact Mt)) (xg rfl (xg i14s (xg rfl (xg i14t (xg ((by rw [e9]; exact E)) (xn c1 (xn c2 (xn c3 (xg rfl (xg i15s (xg ((by rw [e9, g3, cmp_N hf hm hss]; exact c4)) (xg rfl (xbi (m_f0 _) (rfl)))))))))))))))))))))))
            · exact xbi (m_isSheet _ _) (xn (bI_ne H) (xbi (m_isSheet _ _) (xg (bI_ne K) (xg rfl (xg i14s (xn ((by rw [e9]; exact Ms)) (xg rfl (xg i14t (xg ((by rw [e9]; exact Mt)) (xg rfl (xg i14s (xg rfl (xg i14t (xg ((by rw [e9]; exact E)) (xn c1 (xn c2 (xn c3 (xg rfl (xg i15s (xn ((by rw [e9, g3, cmp_N hf hm hss]; exact c4)) (xg rfl (xg i15t (xn ((by rw [e9, k3]; exact fun q => il_len q ((cmp_N hg hm hst).mpr (by omega)))) (xg rfl (xbi (m_f0 _) (rfl))))))))))))))))))))))))))
      · have E1 : ¬ u.1 (5 + s) 0 0 = u.1 (5 + t) 0 0 := by rw [g0, k0]; exact E
        refine S_fail h 2 (r := xv_i (-1000003)) ?_ ?_
        · rw [xe_X3_copy, nI_clamp (n := s) (by omega), nI_clamp (n := t) (by omega)]
          exact xbi (x_isSheet _ _) (xn (bI_ne H) (xbi (x_isSheet _ _) (xg (bI_ne K) (xg rfl (xg vs (xg rfl (xg vt (xg hcs (xbi (x_miss _ hs4) (xn ((fun q => q (bI_f Ms1))) (xg hct (xbi (x_miss _ ht4) (xg (bI_f Mt1) (xg hcs (xg hct (xn E1 (xg rfl (xbi (x_f2 _) (rfl)))))))))))))))))))
        · rw [xe_X4_copy, nI_clamp (n := s) (by omega), nI_clamp (n := t) (by omega)]
          exact xbi (m_isSheet _ _) (xn (bI_ne H) (xbi (m_isSheet _ _) (xg (bI_ne K) (xg rfl (xg i14s (xn ((by rw [e9]; exact Ms)) (xg rfl (xg i14t (xg ((by rw [e9]; exact Mt)) (xg rfl (xg i14s (xg rfl (xg i14t (xn ((by rw [e9]; exact E)) (xg rfl (xbi (m_f2 _) (rfl)))))))))))))))))
    · refine S_fail h 0 (r := xv_i (-1000001)) ?_ ?_
      · rw [xe_X3_copy]
        exact xbi (x_isSheet _ _) (xn (bI_ne H) (xbi (x_isSheet _ _) (xn (bI_nn K) (xg rfl (xbi (x_f0 _) (rfl))))))
      · rw [xe_X4_copy]
        exact xbi (m_isSheet _ _) (xn (bI_ne H) (xbi (m_isSheet _ _) (xn (bI_nn K) (xg rfl (xbi (m_f0 _) (rfl))))))
  · refine S_fail h 0 (r := xv_i (-1000001)) ?_ ?_
    · rw [xe_X3_copy]
      exact xbi (x_isSheet _ _) (xg (bI_f H) (xg rfl (xbi (x_f0 _) (rfl))))
    · rw [xe_X4_copy]
      exact xbi (m_isSheet _ _) (xg (bI_f H) (xg rfl (xbi (m_f0 _) (rfl))))
