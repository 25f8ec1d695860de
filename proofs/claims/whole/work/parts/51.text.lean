/-! text -/
def outT (u' z' : xm_U) (A K : Int32) : Prop := (∃ j d', 1 ≤ j ∧ j ≤ 120 ∧ A = nI j ∧ K = nI j ∧ z'.1 9 0 12 = -1 ∧ vd u' 2 d' ∧ z'.1 9 1 = d' ∧ inv d') ∨ (∃ s', s' ≤ 120 ∧ A = -1 - nI s' ∧ z'.1 9 0 12 = nI s')
theorem tx_loop {n : Nat} {b : Nat → Nat} : ∀ (m k : Nat) (u z : xm_U) (d : Nat → Int32) (t s e : Nat), n < s + m → 1 ≤ k → 2 * (k - 1) ≤ s → byt n b u z → tok n b (u.1 4 0) (z.1 9 0) z.2.1 t s e → z.1 9 0 12 = -1 → vd u 2 d → z.1 9 1 = d → inv d → ∃ u' z1 z' A K, xm_E 5 (xc_X1_readText.drop 7, [some (xv_r 4 0), some (xv_r 2 0), some (xv_i (nI k))], [], u) = some (some (xv_i A), u') ∧ xm_C 182 [xv_r 9 0] z = some (none, z1) ∧ xm_E 183 (xc_X4_items.drop 12, [some (xv_r 9 0), some (xv_i (nI k))], [], z1) = some (some (xv_i K), z') ∧ gC u u' ∧ gR z z' ∧ outT u' z' A K := by
  intro m
  induction m with
  | zero =>
    intro k u z d t s e hm _ _ _ tk _ _ _ _
    have h1 := tk.1
    have h2 := tk.2.1
    omega
  | succ m ih =>
    intro k u z d t s e hm hk1 hk hb tk hf hv hz hd
    have n120 := hb.1
    have h1 := tk.1
    have h2 := tk.2.1
    have m1 : ¬ (0 : Int32) ≤ -1 := by decide
    have k120 : ¬ (120 : Int32) < nI k := nI_nlt (a := 120) (by omega) (by decide)
    have hst : st n b u z u z d t s e := ⟨hb, tk, hf, rfl, hz, gC_rf _, gR_rf _⟩
    rcases it_item hst hv hd with ⟨u1, z1, p1, p2, d1, t1, s1, e1, b1, tk1, f1, v1, r1, i1, c1, g1, hs1⟩ | ⟨u1, z1, p1, p2, ⟨sx, hsx, ux, fx⟩, c1, g1⟩
    · have q1 := tk1.1
      have q2 := tk1.2.1
      have q0 := tk1.2.2.1
      obtain ⟨w2, y2⟩ := tk1.2.2.2.2.1
      obtain ⟨w3, y3⟩ := tk1.2.2.2.2.2.1
      by_cases t0 : t1 = 0
      · refine ⟨u1, z1, z1, nI k, nI k, ?_, p2, ?_, c1, g1, Or.inl ⟨k, d1, hk1, by omega, rfl, rfl, f1, v1, r1, i1⟩⟩
        · rw [xe_X1_readText_7]
          exact xn k120 (xg rfl (xbi p1 (xg ((by decide)) (xg rfl (xn ((fun q => q (by rw [w2, t0]; rfl))) (rfl))))))
        · rw [xe_X4_items_12, f1, y2]
          exact xg rfl (xn m1 (xg rfl (xg ((by rw [t0]; decide)) (xg rfl (xn m1 (xg rfl (xg ((by rw [t0]; rfl)) (rfl))))))))
      have n0 : ¬ nI t1 = 0 := nI_ne0 (by omega) (by omega)
      by_cases t3 : t1 = 3
      · obtain ⟨u2, z2, t2, s2, e2, a1, a2, st2, hs2, -⟩ := st_nx (n := n) (b := b) (u0 := u1) (z0 := z1) (u := u1) (z := z1) (d := d1) ⟨b1, tk1, f1, rfl, r1, gC_rf _, gR_rf _⟩ (by omega)
        have kl := tk1.2.2.2.2.2.2.2.2.1 t0
        obtain ⟨b2, tk2, f2, v2, r2, c2, g2⟩ := st2
        obtain ⟨u', z3, z', A, K, e3, e4, e5, c3, g3, o3⟩ := ih (k + 1) u2 z2 d1 t2 s2 e2 (by omega) (by omega) (by omega) b2 tk2 f2 (vd_of v2 v1) r2 i1
        refine ⟨u', z1, z', A, K, ?_, p2, ?_, gC_tr c1 (gC_tr c2 c3), gR_tr g1 (gR_tr g2 g3), o3⟩
        · rw [xe_X1_readText_7]
          refine xn k120 (xg rfl (xbi p1 (xg ((by decide)) (xg rfl (xg ((by rw [w2]; exact n0)) (xg rfl (xg ((by rw [w2, t3]; rfl)) (xg rfl (xbv a1 (?_))))))))))
          rw [nI_1]
          exact e3
        · rw [xe_X4_items_12, f1, y2]
          refine xg rfl (xn m1 (xg rfl (xn ((fun q => q (by rw [t3]; rfl))) (xg rfl (xbv a2 (xg rfl (xbv e4 (?_))))))))
          rw [nI_1]
          exact e5
      · have n3 : ¬ nI t1 = 3 := fun q => t3 ((nI_eq (b := 3) (by omega) (by decide)).mp q)
        obtain ⟨z', ew, ⟨⟨sy, hsy, uy, fy⟩, -, gw⟩, -⟩ := st_wrong (n := n) (b := b) (u0 := u1) (z0 := z1) (u := u1) (z := z1) (d := d1) ⟨b1, tk1, f1, rfl, r1, gC_rf _, gR_rf _⟩
        refine ⟨u1, z1, z', -1 - nI sy, nI k, ?_, p2, ?_, c1, gR_tr g1 gw, Or.inr ⟨sy, hsy, rfl, fy⟩⟩
        · rw [xe_X1_readText_7]
          refine xn k120 (xg rfl (xbi p1 (xg ((by decide)) (xg rfl (xg ((by rw [w2]; exact n0)) (xg rfl (xn ((by rw [w2]; exact n3)) (xg rfl (?_)))))))))
          rw [uy]
        · rw [xe_X4_items_12, f1, y2]
          exact xg rfl (xn m1 (xg rfl (xg n3 (xg rfl (xn m1 (xg rfl (xn n0 (xg rfl (xbv ew (rfl))))))))))
    · have f0 : 0 ≤ z1.1 9 0 12 := by rw [fx]; exact nI_pos' (by omega)
      refine ⟨u1, z1, z1, -1 - nI sx, nI k, ?_, p2, ?_, c1, g1, Or.inr ⟨sx, hsx, rfl, fx⟩⟩
      · rw [xe_X1_readText_7]
        refine xn k120 (xg rfl (xbi p1 (xn ((fun q => q rfl)) (xg rfl (?_)))))
        rw [ux]
      · rw [xe_X4_items_12]
        exact xg rfl (xg f0 (xg rfl (xg f0 (rfl))))
theorem tx_all {n : Nat} {b : Nat → Nat} {u z : xm_U} {d : Nat → Int32} (hb : byt n b u z) (h1 : u.1 4 0 1 = nI n) (h7 : z.1 9 0 7 = nI n) (hv : vd u 2 d) (hz : z.1 9 1 = d) (hd : inv d) : ∃ u' z' A K, xm_C 5 [xv_r 4 0, xv_r 2 0] u = some (some (xv_i A), u') ∧ xm_C 183 [xv_r 9 0] z = some (some (xv_i K), z') ∧ gC u u' ∧ gR z z' ∧ outT u' z' A K := by
  have n120 := hb.1
  have byz : byt n b (wf u (upd (u.1 4 0) 4 0)) (zf z (upd (upd (z.1 9 0) 8 0) 12 (-1)) z.2.1) := ⟨hb.1, fun k hk => by
    obtain ⟨a1, a2, a3⟩ := hb.2 k hk
    exact ⟨a1, by rw [wf_b]; exact a2, by rw [zf_o _ _ _ (by decide)]; exact a3⟩⟩
  obtain ⟨f', g', v', e1, e2, ⟨k1, k2, k3⟩, t, s, e, tk, hs⟩ := tk_nx hb (e := 0) (f := upd (u.1 4 0) 4 0) (g := upd (upd (z.1 9 0) 8 0) 12 (-1)) z.2.1 (Nat.zero_le _) ((upd_ne (by decide)).trans h1) upd_eq ((upd_ne (by decide)).trans ((upd_ne (by decide)).trans h7)) ((upd_ne (by decide)).trans upd_eq)
  have w0 : (wf u f').1 4 0 = f' := by funext k; exact wf_rd _ _ _
  have z0' : (zf z g' v').1 9 0 = g' := by funext k; exact zf_rd _ _ _ _
  have hb2 : byt n b (wf u f') (zf z g' v') := ⟨hb.1, fun k hk => by
    obtain ⟨a1, a2, a3⟩ := hb.2 k hk
    exact ⟨a1, by rw [wf_b]; exact a2, by rw [zf_o _ _ _ (by decide)]; exact a3⟩⟩
  obtain ⟨u', z1, z', A, K, p1, p2, p3, p4, p5, p6⟩ := tx_loop (n + 1) 1 (wf u f') (zf z g' v') d t s e (by omega) (by decide) (by omega) hb2 (by rw [w0, z0', zf_v]; exact tk) (by rw [zf_rd, k3, upd_eq]) (vd_of (wf_o _ _ (by decide)) hv) (by rw [zf_o _ _ _ (by decide)]; exact hz) hd
  refine ⟨u', z', A, K, ?_, ?_, gC_tr ⟨fun i a _ => wf_o _ _ a, fun p hp => ua_arr _ (fun q => hp q.2)⟩ p4, gR_tr ⟨fun i a => zf_i _ _ _ a, fun p a _ => zf_o _ _ _ a, ?_⟩ p5, p6⟩
  · rw [xe_X1_readText]
    refine ?_
    refine xg rfl (xlt (xg rfl ?_))
    rw [show xm_us u 4 0 4 0 = wf u (upd (u.1 4 0) 4 0) from rfl]
    exact xbv e1 p1
  · rw [xe_X4_items]
    refine ?_
    refine xg rfl (xlt (xg rfl (xlt (xg rfl ?_))))
    rw [show xm_us (xm_us z 9 0 8 0) 9 0 12 (-1) = zf z (upd (upd (z.1 9 0) 8 0) 12 (-1)) z.2.1 by rw [show xm_us z 9 0 8 0 = zf z (upd (z.1 9 0) 8 0) z.2.1 from rfl, zf_us]]
    exact xbv e2 (xg rfl (xbv p2 p3))
  · rw [zf_rd, k2, upd_ne (by decide), upd_ne (by decide)]
theorem Rel_all {u z : xm_U} {d' : Nat → Int32} (h : Rel u) (h0 : ∀ i, i ≠ 1 → i ≠ 2 → i ≠ 4 → i ≠ 9 → z.1 i = u.1 i) (hp : ∀ p, p = 4 ∨ p = 6 ∨ p = 14 ∨ p = 15 ∨ p = 16 → z.1 9 p = u.1 9 p) (h4 : z.1 9 0 4 = u.1 9 0 4) (hv : vd z 1 d') (hr : ∀ k, k < 89 → z.1 9 1 k = d' k) (hd : inv d') (ht : tp z) : Rel z := by
  obtain ⟨r1, r2, r3, r4, r5, r6⟩ := h
  refine ⟨vd_d hv hr, inv_d hd hr, ?_, ?_, ht, ?_⟩
  · unfold kp at r3 ⊢
    rw [h0 0 (by decide) (by decide) (by decide) (by decide), h4, hp 4 (by decide)]
    exact ⟨r3.1, r3.2.1, fun q => ⟨vd_of (h0 3 (by decide) (by decide) (by decide) (by decide)) (r3.2.2 q).1, (r3.2.2 q).2⟩⟩
  · intro k hk
    rw [h0 0 (by decide) (by decide) (by decide) (by decide), hp 6 (by decide)]
    exact r4 k hk
  · intro s hs
    have := r6 s hs
    rw [h0 (5 + s) (by omega) (by omega) (by omega) (by omega), hp 14 (by decide), hp 15 (by decide), hp 16 (by decide)]
    exact this
theorem neg_le : ∀ s, s < 121 → (-1 : Int32) - nI s ≤ 0 := by decide +kernel
theorem S_text : Same 79 184 [] := by
  intro u h
  have hv := h.1
  have hd := h.2.1
  obtain ⟨n, hn, t1, t2, t3⟩ := h.2.2.2.2.1
  have hb : ∃ b : Nat → Nat, ∀ k, k < n → b k < 256 ∧ u.1 4 1 k = nI (b k) ∧ u.1 9 7 k = sb (b k) := by
    refine ⟨fun k => @dite _ (k < n) (Classical.propDecidable _) (fun q => Classical.choose (t3 k q)) (fun _ => 0), fun k hk => ?_⟩
    simp only [dif_pos hk]
    exact Classical.choose_spec (t3 k hk)
  obtain ⟨b, hb⟩ := hb
  obtain ⟨u1, q1, q2, q3⟩ := v_become (i := 2) (i1 := 1) rfl rfl (by decide) hv
  have o4 : u1.1 4 = u.1 4 := q3.1 4 (by decide)
  have o9 : u1.1 9 = u.1 9 := q3.1 9 (by decide)
  obtain ⟨u2, -, A, -, e1, -, c1, -, -⟩ := tx_all (z := u1) ⟨hn, fun k hk => by rw [o4, o9]; exact hb k hk⟩ (by rw [o4]; exact t1) (by rw [o9]; exact t2) q2 (by rw [o9]) hd
  -- the reference begins where the class ends
  have key : ∀ w : xm_U, w.1 9 = u.1 9 → ∃ z' K, xm_C 183 [xv_r 9 0] (xm_ua w 9 2 (cop (w.1 9 1) (w.1 9 2) 89)) = some (some (xv_i K), z') ∧ gR w (xm_ua z' 9 2 (w.1 9 2)) ∧ (∀ k, k < 89 → z'.1 9 2 k = u.1 9 1 k) ∧ outT u2 z' A K := by
    intro w hw
    have hy : byt n b u1 (xm_ua w 9 2 (cop (w.1 9 1) (w.1 9 2) 89)) := ⟨hn, fun k hk => by
      obtain ⟨a1, a2, a3⟩ := hb k hk
      exact ⟨a1, by rw [o4]; exact a2, by rw [ua_arr _ (by decide), hw]; exact a3⟩⟩
    obtain ⟨u2', z', A', K, f1, f2, -, g2, o2⟩ := tx_all hy (by rw [o4]; exact t1) (by rw [ua_arr _ (by decide), hw]; exact t2) q2 (by rw [ua_arr _ (by decide), hw]) hd
    have q := e1.symm.trans f1
    have qu : u2 = u2' := by injection q with q; exact (Prod.mk.inj q).2
    have qa : A = A' := by injection q with q; have := (Prod.mk.inj q).1; injection this with this; injection this
    subst qu
    subst qa
    refine ⟨z', K, f2, ⟨fun i a => ?_, fun p a c => ?_, ?_⟩, fun k hk => ?_, o2⟩
    · rw [ua_obj _ a, g2.1 i a, ua_obj _ a]
    · by_cases p2 : p = 2
      · subst p2; rw [ua_row]
      · rw [ua_arr _ (fun q => p2 q.2), g2.2.1 p a c, ua_arr _ (fun q => p2 q.2)]
    · rw [ua_arr _ (by decide), g2.2.2, ua_arr _ (by decide)]
    · rw [g2.2.1 2 (by decide) (by decide), ua_row, cop_lt hk, hw]
  have u4' : ∀ i, i ≠ 4 → (xm_us u2 4 0 1 0).1 i = u2.1 i := fun i hi => us_obj _ hi
  obtain ⟨z00, K00, f00, g00, k00, o0⟩ := key u rfl
  rcases o0 with ⟨j, d0, j1, j2, eA, -, -, hv2, -, -⟩ | ⟨sx, hsx, eA, -⟩
  · -- a text
    have hv3 : vd (xm_us u2 4 0 1 0) 2 d0 := vd_of (us_obj _ (by decide)) hv2
    obtain ⟨u5, r1, r2, r3⟩ := v_become (i := 1) (i1 := 2) rfl rfl (by decide) hv3
    have w9 : u5.1 9 = u.1 9 := by rw [r3.1 9 (by decide), us_obj _ (by decide), c1.1 9 (by decide) (by decide), o9]
    obtain ⟨z', K, f1, g1, g2, o2⟩ := key u5 w9
    rcases o2 with ⟨j', d', -, -, eA', eK, f12, vd', row', inv'⟩ | ⟨sy, hsy, eA', -⟩
    · have np : ¬ A ≤ 0 := by rw [eA]; exact nI_nle (by omega) (by omega)
      have b1 := m_copies (i0 := 9) (p0 := 1) (i1 := 9) (p1 := 2) rfl rfl (by decide) u5
      refine ⟨xv_i A, u5, xm_us z' 9 0 7 0, ?_, ?_, ?_⟩
      · rw [xe_X3_text]
        exact xg rfl (xg rfl (xg rfl (xbv q1 (xg rfl (xg rfl (xg rfl (xbi e1 (xg rfl (xg rfl (xlt (xn np (xg rfl (xg rfl (xg rfl (xbv r1 (rfl))))))))))))))))
      · rw [xe_X4_text]
        refine xg rfl (xg rfl (xbv b1 (xg rfl (xbi f1 (?_)))))
        refine xg rfl (xlt (xg rfl (xg ?_ ?_)))
        · rw [us_row, upd_ne (by decide), f12]; decide
        · rw [eK, ← eA']
      · have v5 : vd u5 1 d' := by
          obtain ⟨u6, s1, s2, s3⟩ := v_become (i := 1) (i1 := 2) rfl rfl (by decide) (vd_of (us_obj (u := u2) (i := 4) (p := 0) (k := 1) (x := 0) (i' := 2) (by decide)) vd')
          have := r1.symm.trans s1
          have e : u5 = u6 := by injection this with this; exact (Prod.mk.inj this).2
          rw [e]; exact s2
        have zi : ∀ i, i ≠ 9 → z'.1 i = u5.1 i := fun i hi => by have := g1.1 i hi; rwa [ua_obj _ hi] at this
        have zp : ∀ p, p ≠ 0 → p ≠ 1 → p ≠ 2 → z'.1 9 p = u5.1 9 p := fun p a c e => by have := g1.2.1 p a c; rwa [ua_arr _ (fun q => e q.2)] at this
        have z4 : z'.1 9 0 4 = u5.1 9 0 4 := by have := g1.2.2; rwa [ua_arr _ (by decide)] at this
        refine Rel_all h (d' := d') (fun i a1 a2 a4 a9 => ?_) (fun p hp => ?_) ?_ ?_ (fun k hk => ?_) inv' ⟨0, by decide, ?_, ?_, fun k hk => absurd hk (Nat.not_lt_zero k)⟩
        · rw [us_obj _ a9, zi i a9, r3.1 i a1, us_obj _ a4, c1.1 i a4 a2, q3.1 i a2]
        · rw [us_arr _ (by omega), zp p (by omega) (by omega) (by omega), w9]
        · rw [us_row, upd_ne (by decide), z4, w9]
        · exact vd_of (by rw [us_obj _ (by decide), zi 1 (by decide)]) v5
        · rw [us_arr _ (by decide), row']
        · rw [us_obj _ (by decide), zi 4 (by decide), r3.1 4 (by decide), us_same]; rfl
        · rw [us_same]; rfl
    · exfalso
      rw [eA] at eA'
      have := neg_le sy (by omega)
      rw [← eA'] at this
      exact nI_nle (by omega) (by omega) this
  · -- a fault
    have nA : A ≤ 0 := by rw [eA]; exact neg_le sx (by omega)
    have w9 : (xm_us u2 4 0 1 0).1 9 = u.1 9 := by rw [us_obj _ (by decide), c1.1 9 (by decide) (by decide), o9]
    obtain ⟨z', K, f1, g1, g2, o2⟩ := key (xm_us u2 4 0 1 0) w9
    rcases o2 with ⟨j', d', j1, j2, eA', -⟩ | ⟨sy, hsy, eA', fy⟩
    · exfalso
      rw [eA'] at nA
      exact nI_nle (by omega) (by omega) nA
    · have b1 := m_copies (i0 := 9) (p0 := 1) (i1 := 9) (p1 := 2) rfl rfl (by decide) (xm_us u2 4 0 1 0)
      have b2 := m_copies (i0 := 9) (p0 := 2) (i1 := 9) (p1 := 1) rfl rfl (by decide) (xm_us z' 9 0 7 0)
      refine ⟨xv_i A, xm_us u2 4 0 1 0, dU (xm_us z' 9 0 7 0) (cop ((xm_us z' 9 0 7 0).1 9 2) ((xm_us z' 9 0 7 0).1 9 1) 89), ?_, ?_, ?_⟩
      · rw [xe_X3_text]
        exact xg rfl (xg rfl (xg rfl (xbv q1 (xg rfl (xg rfl (xg rfl (xbi e1 (xg rfl (xg rfl (xlt (xg nA (rfl))))))))))))
      · rw [xe_X4_text]
        refine xg rfl (xg rfl (xbv b1 (xg rfl (xbi f1 (?_)))))
        refine xg rfl (xlt (xg rfl (xn ?_ ?_)))
        · rw [us_row, upd_ne (by decide), fy]; exact nI_pos (by omega)
        · refine xg rfl (xg rfl (xbv b2 (xg rfl ?_)))
          show some (some (xv_i ((-1) - (dU (xm_us z' 9 0 7 0) (cop ((xm_us z' 9 0 7 0).1 9 2) ((xm_us z' 9 0 7 0).1 9 1) 89)).1 9 0 12)), dU (xm_us z' 9 0 7 0) (cop ((xm_us z' 9 0 7 0).1 9 2) ((xm_us z' 9 0 7 0).1 9 1) 89)) = _
          rw [dU_o _ _ (by decide), us_row (k := 7), upd_ne (show (12 : Nat) ≠ 7 by decide), fy, ← eA']
      · generalize hy : cop ((xm_us z' 9 0 7 0).1 9 2) ((xm_us z' 9 0 7 0).1 9 1) 89 = y
        have hyk : ∀ k, k < 89 → y k = u.1 9 1 k := fun k hk => by rw [← hy, cop_lt hk, us_arr _ (by decide)]; exact g2 k hk
        have zi : ∀ i, i ≠ 9 → z'.1 i = (xm_us u2 4 0 1 0).1 i := fun i hi => by have := g1.1 i hi; rwa [ua_obj _ hi] at this
        have zp : ∀ p, p ≠ 0 → p ≠ 1 → p ≠ 2 → z'.1 9 p = u.1 9 p := fun p a c e => by have := g1.2.1 p a c; rw [ua_arr _ (fun q => e q.2)] at this; rw [this, w9]
        have z4 : z'.1 9 0 4 = u.1 9 0 4 := by have := g1.2.2; rw [ua_arr _ (by decide)] at this; rw [this, w9]
        refine Rel_all h (d' := u.1 9 1) (fun i a1 a2 a4 a9 => ?_) (fun p hp => ?_) ?_ ?_ (fun k hk => ?_) hd ⟨0, by decide, ?_, ?_, fun k hk => absurd hk (Nat.not_lt_zero k)⟩
        · rw [show (dU (xm_us z' 9 0 7 0) y).1 i = (xm_us z' 9 0 7 0).1 i from ua_obj _ a9, us_obj _ a9, zi i a9, us_obj _ a4, c1.1 i a4 a2, q3.1 i a2]
        · rw [dU_o _ _ (by omega), us_arr _ (by omega), zp p (by omega) (by omega) (by omega)]
        · rw [dU_o _ _ (by decide), us_row, upd_ne (by decide), z4]
        · refine vd_of ?_ hv
          rw [show (dU (xm_us z' 9 0 7 0) y).1 1 = (xm_us z' 9 0 7 0).1 1 from ua_obj _ (by decide), us_obj _ (by decide), zi 1 (by decide), us_obj _ (by decide), c1.1 1 (by decide) (by decide), q3.1 1 (by decide)]
        · rw [dU_d]; exact hyk k hk
        · rw [show (dU (xm_us z' 9 0 7 0) y).1 4 = (xm_us z' 9 0 7 0).1 4 from ua_obj _ (by decide), us_obj _ (by decide), zi 4 (by decide), us_same]; rfl
        · rw [dU_o _ _ (by decide), us_same]; rfl
