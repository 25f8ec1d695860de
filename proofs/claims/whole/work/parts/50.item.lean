/-! ITEMS, both sides in step: the class's trial holds the reference's row -/
/-- an item has been read: the next token is there -/
def okI (n : Nat) (b : Nat → Nat) (u0 z0 u z : xm_U) (s0 : Nat) : Prop := ∃ d t s e, byt n b u z ∧ tok n b (u.1 4 0) (z.1 9 0) z.2.1 t s e ∧ z.1 9 0 12 = -1 ∧ vd u 2 d ∧ z.1 9 1 = d ∧ inv d ∧ gC u0 u ∧ gR z0 z ∧ s0 < s
section II
variable {n : Nat} {b : Nat → Nat} {u0 z0 u z : xm_U} {d : Nat → Int32} {t s e : Nat}
theorem st_trial {d' : Nat → Int32} {u' : xm_U} {s0 : Nat} (h : st n b u0 z0 u z d t s e) (ho : oth u u' 2) (hv : vd u' 2 d') (hz : d = d') (hi : inv d') (hs : s0 < s) : okI n b u0 z0 u' z s0 := by
  obtain ⟨hb, tk, hf, h2, hd, hC, hR⟩ := h
  have e4 : u'.1 4 = u.1 4 := ho.1 4 (by decide)
  refine ⟨d', t, s, e, ⟨hb.1, fun k hk => ?_⟩, by rw [e4]; exact tk, hf, hv, hd.trans hz, hi, gC_tr hC ⟨fun i _ a => ho.1 i a, fun p _ => by rw [e4]⟩, hR, hs⟩
  obtain ⟨a1, a2, a3⟩ := hb.2 k hk
  exact ⟨a1, by rw [e4]; exact a2, a3⟩
theorem st_vd (h : st n b u0 z0 u z d t s e) {d0 : Nat → Int32} (hv : vd u0 2 d0) : vd u 2 d0 := vd_of h.2.2.2.1 hv
theorem bd_00 {c : Int32} {n : Nat} (hn : n < 2 ^ 31) {x : Int32} (h : x = 0 ∨ bd x (nI n)) : bd x (nI n) := by
  rcases h with rfl | h
  · exact bd_of (k := 0) (by omega) hn
  · exact h
theorem add_row (d : Nat → Int32) (N : Nat) (h8 : N < 8) (a x1 x2 x3 : Int32) : upd (upd (upd (comeN d N a 0) (31 + N) x1) (39 + N) x2) (47 + N) x3 = addN d N a x1 x2 x3 := by
  rw [come_add d N h8]
  funext j
  show upd (upd (upd (upd (upd (upd (upd (upd (upd (upd (upd d (23 + N) a) (31 + N) 0) (39 + N) 0) (47 + N) 0) (55 + N) 0) (63 + N) 0) (71 + N) 0) 0 (nI (N + 1))) (31 + N) x1) (39 + N) x2) (47 + N) x3 j = upd (upd (upd (upd (upd (upd (upd (upd d (23 + N) a) (31 + N) x1) (39 + N) x2) (47 + N) x3) (55 + N) 0) (63 + N) 0) (71 + N) 0) 0 (nI (N + 1)) j
  by_cases h0 : j = 0
  · subst h0
    rw [upd_ne (show 0 ≠ 47 + N by omega), upd_ne (show 0 ≠ 39 + N by omega), upd_ne (show 0 ≠ 31 + N by omega), upd_eq, upd_eq]
  by_cases h1 : j = 23 + N
  · subst h1; simp [upd]
  by_cases h2 : j = 31 + N
  · subst h2; simp [upd]
  by_cases h3 : j = 71 + N
  · subst h3; simp [upd]
  by_cases h4 : j = 63 + N
  · subst h4; simp [upd]
  by_cases h5 : j = 55 + N
  · subst h5; simp [upd]
  by_cases h6 : j = 47 + N
  · subst h6; simp [upd]
  by_cases h7 : j = 39 + N
  · subst h7; simp [upd]
  simp [upd, h0, h1, h2, h3, h4, h5, h6, h7]
theorem it_plank (h : st n b u0 z0 u z d t s e) (hv : vd u 2 d) (hd : inv d) (ht : t = 1) {k : Nat} (hk : k < 7) : (∃ u' z', xm_C 8 [xv_r 4 0, xv_r 2 0, xv_i (nI k)] u = some (some (xv_i 1), u') ∧ xm_C 179 [xv_r 9 0, xv_i (nI k)] z = some (none, z') ∧ okI n b u0 z0 u' z' s) ∨ (∃ u' z', xm_C 8 [xv_r 4 0, xv_r 2 0, xv_i (nI k)] u = some (some (xv_i 0), u') ∧ xm_C 179 [xv_r 9 0, xv_i (nI k)] z = some (none, z') ∧ bd2 u0 z0 u' z') := by
  have hc : xm_cls 2 = 2 := rfl
  obtain ⟨h8, hN⟩ := inv_nN hd
  have e9 : z.1 9 1 = d := h.2.2.2.2.1
  have kl := h.2.1.2.2.2.2.2.2.2.2.1 (by omega)
  by_cases F : nN d < 8
  · obtain ⟨u1, z1, t1, s1, e1, a1, a2, h1, hs1, -⟩ := st_nx h (by omega)
    have e91 : z1.1 9 1 = d := h1.2.2.2.2.1
    have hv1 : vd u1 2 d := vd_of (h1.2.2.2.1.trans h.2.2.2.1.symm) hv
    have cm := m_comes z1 (N := nN d) (by rw [e91]; exact hN) F (nI k) 0
    rw [e91] at cm
    have h2 := st_row h1 (comeN d (nN d) (nI k) 0)
    have ca := come_add d (nN d) F (nI k) 0
    have w1 : comeN d (nN d) (nI k) 0 (31 + nN d) = 0 := by rw [ca]; simp [addN, upd]
    have w2 : ∀ x, upd (comeN d (nN d) (nI k) 0) (31 + nN d) x (39 + nN d) = 0 := fun x => by rw [upd_ne (by omega), ca]; simp [addN, upd]
    have w3 : ∀ x y, upd (upd (comeN d (nN d) (nI k) 0) (31 + nN d) x) (39 + nN d) y (47 + nN d) = 0 := fun x y => by rw [upd_ne (by omega), upd_ne (by omega), ca]; simp [addN, upd]
    have m0 : ¬ (0 : Int32) = -1 := by decide
    have i31 : (31 : Int32) + nI (nN d) = nI (31 + nN d) := nI_add 31 _
    have i39 : (39 : Int32) + nI (nN d) = nI (39 + nN d) := nI_add 39 _
    have i47 : (47 : Int32) + nI (nN d) = nI (47 + nN d) := nI_add 47 _
    have l8 : u.1 2 0 7 < 8 := by rw [hv.2.2.2.1.2.2.2.2, hN]; exact nI_lt (b := 8) F (by decide)
    have n8 : ¬ z.1 9 1 0 = 8 := by rw [e9, hN]; exact nI_neq (b := 8) F (by decide)
    rcases st_per h2 (q := 7) (hi := 5) (j := 31 + nN d) (by decide) (by decide) (by omega) (by rw [w1]; exact m0) with ⟨x1, u2, z2, t2, s2, e2, r1, y1, b1, b2, h3, hs2⟩ | ⟨u2, z2, b1, b2, b3⟩
    · rw [w1] at r1 b1
      rw [wq_7] at b2
      rcases st_per h3 (q := 8) (hi := 999) (j := 39 + nN d) (by decide) (by decide) (by omega) (by rw [w2]; exact m0) with ⟨x2, u3, z3, t3, s3, e3, r2, y2, c1, c2, h4, hs3⟩ | ⟨u3, z3, c1, c2, c3⟩
      · rw [w2] at r2 c1
        rw [wq_8] at c2
        rcases st_per h4 (q := 9) (hi := 99) (j := 47 + nN d) (by decide) (by decide) (by omega) (by rw [w3]; exact m0) with ⟨x3, u4, z4, t4, s4, e4, r3, y3, d1, d2, h5, hs4⟩ | ⟨u4, z4, d1, d2, d3⟩
        · rw [w3] at r3 d1
          rw [wq_9] at d2
          have hv4 : vd u4 2 d := vd_of (h5.2.2.2.1.trans h1.2.2.2.1.symm) hv1
          obtain ⟨u5, q1, q2, q3⟩ := v_addPlank (i := 2) rfl hv4 hN F (nI k) x1 x2 x3
          refine Or.inl ⟨u5, z4, ?_, ?_, st_trial h5 q3 q2 (add_row d (nN d) F (nI k) x1 x2 x3) (inv_addN hd hN F (bd_of (n := 6) (by omega) (by decide)) (bd_00 (c := 0) (n := 5) (by decide) r1) (bd_00 (c := 0) (n := 999) (by decide) r2) (bd_00 (c := 0) (n := 99) (by decide) r3)) (by omega)⟩
          · rw [xe_X1_readPlank]
            exact xg hc (xg l8 (xg rfl (xbv a1 (xg rfl (xbi b1 (xg y1 (xg rfl (xbi c1 (xg y2 (xg rfl (xbi d1 (xg y3 (xg hc (xbi q1 (xg nb1 (rfl))))))))))))))))
          · rw [xe_X4_plankHere]
            refine xg rfl (xg (in9n (k := 0) (by decide)) (xg n8 (xg rfl (xbv a2 (xg rfl (xbi cm (?_)))))))
            rw [i31, i39, i47]
            exact xg rfl (xbv b2 (xg rfl (xbv c2 (xg rfl (xbv d2 rfl)))))
        · rw [w3] at d1
          rw [wq_9] at d2
          refine Or.inr ⟨u4, z4, ?_, ?_, d3⟩
          · rw [xe_X1_readPlank]
            exact xg hc (xg l8 (xg rfl (xbv a1 (xg rfl (xbi b1 (xg y1 (xg rfl (xbi c1 (xg y2 (xg rfl (xbi d1 (xn ((fun q => q rfl)) (xg nb0 (rfl))))))))))))))
          · rw [xe_X4_plankHere]
            refine xg rfl (xg (in9n (k := 0) (by decide)) (xg n8 (xg rfl (xbv a2 (xg rfl (xbi cm (?_)))))))
            rw [i31, i39, i47]
            exact xg rfl (xbv b2 (xg rfl (xbv c2 (xg rfl (xbv d2 rfl)))))
      · rw [w2] at c1
        rw [wq_8] at c2
        obtain ⟨⟨sx, hsx, -, fx⟩, -⟩ := id c3
        refine Or.inr ⟨u3, z3, ?_, ?_, c3⟩
        · rw [xe_X1_readPlank]
          exact xg hc (xg l8 (xg rfl (xbv a1 (xg rfl (xbi b1 (xg y1 (xg rfl (xbi c1 (xn ((fun q => q rfl)) (xg nb0 (rfl)))))))))))
        · rw [xe_X4_plankHere]
          refine xg rfl (xg (in9n (k := 0) (by decide)) (xg n8 (xg rfl (xbv a2 (xg rfl (xbi cm (?_)))))))
          rw [i31, i39, i47]
          exact xg rfl (xbv b2 (xg rfl (xbv c2 (xg rfl (xbv (m_per_bad hsx fx _ _ _) rfl)))))
    · rw [w1] at b1
      rw [wq_7] at b2
      obtain ⟨⟨sx, hsx, -, fx⟩, -⟩ := id b3
      refine Or.inr ⟨u2, z2, ?_, ?_, b3⟩
      · rw [xe_X1_readPlank]
        exact xg hc (xg l8 (xg rfl (xbv a1 (xg rfl (xbi b1 (xn ((fun q => q rfl)) (xg nb0 (rfl))))))))
      · rw [xe_X4_plankHere]
        refine xg rfl (xg (in9n (k := 0) (by decide)) (xg n8 (xg rfl (xbv a2 (xg rfl (xbi cm (?_)))))))
        rw [i31, i39, i47]
        exact xg rfl (xbv b2 (xg rfl (xbv (m_per_bad hsx fx _ _ _) (xg rfl (xbv (m_per_bad hsx fx _ _ _) rfl)))))
  · have e8 : nN d = 8 := by omega
    rw [e8] at hN
    obtain ⟨z', q1, q2, -⟩ := st_wrong h
    refine Or.inr ⟨u, z', ?_, ?_, q2⟩
    · rw [xe_X1_readPlank]
      exact xg hc (xn ((by rw [hv.2.2.2.1.2.2.2.2, hN]; decide)) (xg nb0 (rfl)))
    · rw [xe_X4_plankHere]
      exact xg rfl (xg (in9n (k := 0) (by decide)) (xn ((fun q => q (by rw [e9, hN]; rfl))) (xg rfl (xbv q1 (rfl)))))
theorem inv_neg {d : Nat → Int32} (hd : inv d) {j : Nat} (h : 5 ≤ j) (h2 : j < 17) : ¬ d j = -1 := by
  intro q
  by_cases c : j < 11
  · have := (okb_5 (h := j - 5) (by omega) (d j)).mp (by have := hd.2.1 j (by omega) (by omega); rwa [show 5 + (j - 5) = j by omega])
    rw [q] at this
    exact absurd this.1 (by decide)
  · have := (okb_11 (h := j - 11) (by omega) (d j)).mp (by have := hd.2.1 j (by omega) (by omega); rwa [show 11 + (j - 11) = j by omega])
    rw [q] at this
    exact absurd this.1 (by decide)
theorem it_house (h : st n b u0 z0 u z d t s e) (hv : vd u 2 d) (hd : inv d) (ht : t = 1) : (∃ u' z', xm_C 9 [xv_r 4 0, xv_r 2 0] u = some (some (xv_i 1), u') ∧ xm_C 180 [xv_r 9 0] z = some (none, z') ∧ okI n b u0 z0 u' z' s) ∨ (∃ u' z', xm_C 9 [xv_r 4 0, xv_r 2 0] u = some (some (xv_i 0), u') ∧ xm_C 180 [xv_r 9 0] z = some (none, z') ∧ bd2 u0 z0 u' z') := by
  have kl := h.2.1.2.2.2.2.2.2.2.2.1 (by omega)
  obtain ⟨u1, z1, t1, s1, e1, a1, a2, h1, hs1, -⟩ := st_nx h (by omega)
  rcases st_num h1 (lo := 0) (hi := 5) (by decide) (by decide) with ⟨x, u2, z2, t2, s2, e2, -, r2, b1, b2, b3, h2, hs2⟩ | ⟨z2, b1, b2, b3, -⟩
  · have hv2 : vd u2 2 d := vd_of (h2.2.2.2.1.trans h.2.2.2.1.symm) hv
    have i5 : (5 : Int32) + nI x = nI (5 + x) := nI_add 5 _
    have i11 : (11 : Int32) + nI x = nI (11 + x) := nI_add 11 _
    have g1 : xm_in 2 1 (nI x) := v_in rfl (n := 6) rfl (by omega) (by decide)
    have g2 : xm_in 2 2 (nI x) := v_in rfl (n := 6) rfl (by omega) (by decide)
    have l1 : u2.1 2 1 x = d (5 + x) := hv2.1 x (by omega)
    rcases st_per h2 (q := 11) (hi := 9) (j := 5 + x) (by decide) (by decide) (by omega) (inv_neg hd (by omega) (by omega)) with ⟨x1, u3, z3, t3, s3, e3, r3, y1, c1, c2, h3, hs3⟩ | ⟨u3, z3, c1, c2, c3⟩
    · rw [wq_11] at c2
      have hv3 : vd u3 2 d := vd_of (h3.2.2.2.1.trans h.2.2.2.1.symm) hv
      have l2 : u3.1 2 2 x = upd d (5 + x) x1 (11 + x) := by rw [upd_ne (by omega)]; exact hv3.2.1 x (by omega)
      have x1b : bd x1 9 := r3.elim (fun q => by rw [q]; exact (okb_5 (by omega) _).mp (hd.2.1 (5 + x) (by omega) (by omega))) (fun q => q)
      have hi3 : inv (upd d (5 + x) x1) := inv_upd hd (by omega) (by omega) ((okb_5 (by omega) _).mpr x1b)
      rcases st_per h3 (q := 12) (hi := 99) (j := 11 + x) (by decide) (by decide) (by omega) (inv_neg hi3 (by omega) (by omega)) with ⟨x2, u4, z4, t4, s4, e4, r4, y2, d1, d2, h4, hs4⟩ | ⟨u4, z4, d1, d2, d3⟩
      · rw [wq_12] at d2
        have x2b : bd x2 99 := r4.elim (fun q => by rw [q]; exact (okb_11 (by omega) _).mp (hi3.2.1 (11 + x) (by omega) (by omega))) (fun q => q)
        have hv4 : vd u4 2 d := vd_of (h4.2.2.2.1.trans h.2.2.2.1.symm) hv
        have w4 := vw_2 (vw_1 hv4 (k := x) (by omega) x1) (k := x) (by omega) x2
        refine Or.inl ⟨_, z4, ?_, ?_, st_trial h4 (oth_tr (oth_us u4 2 1 x x1) (oth_us _ 2 2 x x2)) w4 rfl (inv_upd hi3 (by omega) (by omega) ((okb_11 (by omega) _).mpr x2b)) (by omega)⟩
        · rw [xe_X1_readHouse]
          refine xg rfl (xbv a1 (xg rfl (xbi b1 (xg ((by decide)) (?_)))))
          refine xg rfl (xlt ?_)
          rw [b3, nI_clamp (n := x) (by omega), l1]
          refine xg rfl (xg g1 (xg rfl (xbi c1 (xg y1 ?_))))
          rw [l2]
          exact xg rfl (xg g2 (xg rfl (xbi d1 (xg y2 (xg rfl (xg g1 (xlt (xg rfl (xg g2 (xlt (xg nb1 rfl)))))))))))
        · rw [xe_X4_houseHere]
          refine xg rfl (xbv a2 (xg rfl (xbi b2 (?_))))
          rw [i5, i11]
          exact xg rfl (xbv c2 (xg rfl (xbv d2 rfl)))
      · rw [wq_12] at d2
        refine Or.inr ⟨u4, z4, ?_, ?_, d3⟩
        · rw [xe_X1_readHouse]
          refine xg rfl (xbv a1 (xg rfl (xbi b1 (xg ((by decide)) (?_)))))
          refine xg rfl (xlt ?_)
          rw [b3, nI_clamp (n := x) (by omega), l1]
          refine xg rfl (xg g1 (xg rfl (xbi c1 (xg y1 ?_))))
          rw [l2]
          exact xg rfl (xg g2 (xg rfl (xbi d1 (xn (fun q => q rfl) (xg nb0 rfl)))))
        · rw [xe_X4_houseHere]
          refine xg rfl (xbv a2 (xg rfl (xbi b2 (?_))))
          rw [i5, i11]
          exact xg rfl (xbv c2 (xg rfl (xbv d2 rfl)))
    · rw [wq_11] at c2
      obtain ⟨⟨sx, hsx, -, fx⟩, -⟩ := id c3
      refine Or.inr ⟨u3, z3, ?_, ?_, c3⟩
      · rw [xe_X1_readHouse]
        refine xg rfl (xbv a1 (xg rfl (xbi b1 (xg ((by decide)) (?_)))))
        refine xg rfl (xlt ?_)
        rw [b3, nI_clamp (n := x) (by omega), l1]
        exact xg rfl (xg g1 (xg rfl (xbi c1 (xn (fun q => q rfl) (xg nb0 rfl)))))
      · rw [xe_X4_houseHere]
        refine xg rfl (xbv a2 (xg rfl (xbi b2 (?_))))
        rw [i5, i11]
        exact xg rfl (xbv c2 (xg rfl (xbv (m_per_bad hsx fx _ _ _) rfl)))
  · obtain ⟨⟨sx, hsx, -, fx⟩, -⟩ := id b3
    refine Or.inr ⟨u1, z2, ?_, ?_, b3⟩
    · rw [xe_X1_readHouse]
      exact xg rfl (xbv a1 (xg rfl (xbi b1 (xn ((fun q => q rfl)) (xg nb0 (rfl))))))
    · rw [xe_X4_houseHere]
      exact xg rfl (xbv a2 (xg rfl (xbi b2 (xg rfl (xbv (m_per_bad hsx fx _ _ _) (xg rfl (xbv (m_per_bad hsx fx _ _ _) (rfl))))))))
theorem it_event (h : st n b u0 z0 u z d t s e) (hv : vd u 2 d) (hd : inv d) (ht : t = 1) : (∃ u' z', xm_C 10 [xv_r 4 0, xv_r 2 0] u = some (some (xv_i 1), u') ∧ xm_C 181 [xv_r 9 0] z = some (none, z') ∧ okI n b u0 z0 u' z' s) ∨ (∃ u' z', xm_C 10 [xv_r 4 0, xv_r 2 0] u = some (some (xv_i 0), u') ∧ xm_C 181 [xv_r 9 0] z = some (none, z') ∧ bd2 u0 z0 u' z') := by
  have kl := h.2.1.2.2.2.2.2.2.2.2.1 (by omega)
  have m1 : ¬ (0 : Int32) ≤ -1 := by decide
  obtain ⟨u1, z1, t1, s1, e1, a1, a2, h1, hs1, -⟩ := st_nx h (by omega)
  rcases st_num h1 (lo := 0) (hi := 5) (by decide) (by decide) with ⟨x, u2, z2, t2, s2, e2, -, r2, b1, b2, b3, h2, hs2⟩ | ⟨z2, b1, b2, b3, -⟩
  · have f2 : ¬ 0 ≤ z2.1 9 0 12 := by rw [h2.2.2.1]; exact m1
    rcases st_num h2 (lo := 0) (hi := 5) (by decide) (by decide) with ⟨y, u3, z3, t3, s3, e3, -, r3, c1, c2, c3, h3, hs3⟩ | ⟨z3, c1, c2, c3, -⟩
    · have f3 : ¬ 0 ≤ z3.1 9 0 12 := by rw [h3.2.2.1]; exact m1
      rcases st_num h3 (lo := 0) (hi := 99) (by decide) (by decide) with ⟨m, u4, z4, t4, s4, e4, -, r4, d1, d2, d3, h4, hs4⟩ | ⟨z4, d1, d2, d3, -⟩
      · have f4 : ¬ 0 ≤ z4.1 9 0 12 := by rw [h4.2.2.1]; exact m1
        have hv4 : vd u4 2 d := vd_of (h4.2.2.2.1.trans h.2.2.2.1.symm) hv
        have sm : ((100 : Int32) * nI y) + nI m = nI (100 * y + m) := by rw [show (100 : Int32) = nI 100 from rfl, pk_mul, nI_add]
        have w4 := vw_3 hv4 (k := x) (by omega) (nI (100 * y + m))
        have h5 := st_row h4 (upd d (17 + x) (nI (100 * y + m)))
        have e94 : z4.1 9 1 = d := h4.2.2.2.2.1
        refine Or.inl ⟨_, _, ?_, ?_, st_trial h5 (oth_us u4 2 3 x _) w4 rfl (inv_upd hd (by omega) (by omega) ((okb_17 (by omega) _).mpr (bd_of (n := 599) (by omega) (by decide)))) (by omega)⟩
        · rw [xe_X1_readEvent]
          refine xg rfl (xbv a1 (xg rfl (xbi b1 (xg ((by decide)) (?_)))))
          refine xg rfl (xlt ?_)
          rw [b3, nI_clamp (n := x) (by omega)]
          refine xg rfl (xbi c1 (xg (by decide) (xg rfl (xlt ?_))))
          rw [c3]
          refine xg rfl (xbi d1 (xg (by decide) ?_))
          rw [d3, sm]
          exact xg rfl (xg rfl (xg (v_in rfl (n := 6) rfl (by omega) (by decide)) (xlt (xg nb1 rfl))))
        · rw [xe_X4_eventHere]
          refine xg rfl (xbv a2 (xg rfl (xbi b2 (xg rfl (xn f2 (xg rfl (xbi c2 (xg rfl (xn f3 (xg rfl (xbi d2 (xg rfl (xn f4 (?_))))))))))))))
          rw [show (17 : Int32) = nI 17 from rfl, nI_add, nI_clamp (by omega), sm]
          refine xg rfl (xg (in9n (by omega)) (xlt ?_))
          rw [us_dU, e94]
      · obtain ⟨⟨sx, hsx, -, fx⟩, -⟩ := id d3
        refine Or.inr ⟨u3, z4, ?_, ?_, d3⟩
        · rw [xe_X1_readEvent]
          exact xg rfl (xbv a1 (xg rfl (xbi b1 (xg ((by decide)) (xg rfl (xlt (xg rfl (xbi c1 (xg ((by decide)) (xg rfl (xlt (xg rfl (xbi d1 (xn ((fun q => q rfl)) (xg nb0 (rfl))))))))))))))))
        · rw [xe_X4_eventHere]
          exact xg rfl (xbv a2 (xg rfl (xbi b2 (xg rfl (xn f2 (xg rfl (xbi c2 (xg rfl (xn f3 (xg rfl (xbi d2 (xg rfl (xg ((by rw [fx]; exact nI_pos' (by omega))) (rfl))))))))))))))
    · obtain ⟨⟨sx, hsx, -, fx⟩, -⟩ := id c3
      have f3 : 0 ≤ z3.1 9 0 12 := by rw [fx]; exact nI_pos' (by omega)
      refine Or.inr ⟨u2, z3, ?_, ?_, c3⟩
      · rw [xe_X1_readEvent]
        exact xg rfl (xbv a1 (xg rfl (xbi b1 (xg ((by decide)) (xg rfl (xlt (xg rfl (xbi c1 (xn ((fun q => q rfl)) (xg nb0 (rfl)))))))))))
      · rw [xe_X4_eventHere]
        exact xg rfl (xbv a2 (xg rfl (xbi b2 (xg rfl (xn f2 (xg rfl (xbi c2 (xg rfl (xg f3 (xg rfl (xg f3 (rfl))))))))))))
  · obtain ⟨⟨sx, hsx, -, fx⟩, -⟩ := id b3
    have f2 : 0 ≤ z2.1 9 0 12 := by rw [fx]; exact nI_pos' (by omega)
    refine Or.inr ⟨u1, z2, ?_, ?_, b3⟩
    · rw [xe_X1_readEvent]
      exact xg rfl (xbv a1 (xg rfl (xbi b1 (xn ((fun q => q rfl)) (xg nb0 (rfl))))))
    · rw [xe_X4_eventHere]
      exact xg rfl (xbv a2 (xg rfl (xbi b2 (xg rfl (xg f2 (xg rfl (xg f2 (xg rfl (xg f2 (rfl))))))))))
theorem it_each (h : st n b u0 z0 u z d t s e) (hv : vd u 2 d) (hd : inv d) (ht : t = 1) : ∃ z1, xm_C 173 [xv_r 9 0] z = some (none, z1) ∧ ((∃ u' z' x, xm_C 11 [xv_r 4 0, xv_r 2 0] u = some (some (xv_i 1), u') ∧ xm_C 177 [xv_r 9 0, xv_i 2, xv_i 60] z1 = some (some (xv_i x), z') ∧ okI n b u0 z0 u' (xm_us z' 9 1 4 x) s) ∨ (∃ u' z' x, xm_C 11 [xv_r 4 0, xv_r 2 0] u = some (some (xv_i 0), u') ∧ xm_C 177 [xv_r 9 0, xv_i 2, xv_i 60] z1 = some (some (xv_i x), z') ∧ bd2 u0 z0 u' (xm_us z' 9 1 4 x))) := by
  have kl := h.2.1.2.2.2.2.2.2.2.2.1 (by omega)
  obtain ⟨u1, z1, t1, s1, e1, a1, a2, h1, hs1, -⟩ := st_nx h (by omega)
  refine ⟨z1, a2, ?_⟩
  rcases st_num h1 (lo := 2) (hi := 60) (by decide) (by decide) with ⟨x, u2, z2, t2, s2, e2, r1, r2, b1, b2, b3, h2, hs2⟩ | ⟨z2, b1, b2, b3, -⟩
  · have hv2 : vd u2 2 d := vd_of (h2.2.2.2.1.trans h.2.2.2.1.symm) hv
    have w2 := vw_f3 hv2 (nI x)
    have h3 := st_row h2 (upd d 4 (nI x))
    have e92 : z2.1 9 1 = d := h2.2.2.2.2.1
    refine Or.inl ⟨xm_us u2 2 0 3 (nI x), z2, nI x, ?_, b2, ?_⟩
    rotate_left
    · rw [us_dU, e92]
      exact st_trial h3 (oth_us u2 2 0 3 _) w2 rfl (inv_upd hd (by decide) (by decide) ((okb_4 _).mpr ⟨nI_le (a := 2) r1 (by omega), nI_le (b := 60) r2 (by decide)⟩)) (by omega)
    · rw [xe_X1_readEach]
      refine xg rfl (xbv a1 (xg rfl (xbi b1 (xg ((by decide)) (?_)))))
      rw [b3]
      exact xg rfl (xg rfl (xlt (xg nb1 rfl)))
  · obtain ⟨⟨sx, hsx, ux, fx⟩, c1, c2⟩ := id b3
    refine Or.inr ⟨u1, z2, 0, ?_, b2, ⟨sx, hsx, ux, ?_⟩, c1, gR_tr c2 ⟨fun i a => us_obj _ a, fun p _ a => us_arr _ (fun q => a q.2), ?_⟩⟩
    · rw [xe_X1_readEach]
      exact xg rfl (xbv a1 (xg rfl (xbi b1 (xn ((fun q => q rfl)) (xg nb0 (rfl))))))
    · rw [us_arr _ (by decide)]; exact fx
    · rw [us_arr _ (by decide)]
/-! an item -/
def wkN (k : Nat) : Nat := ([6, 0, 1, 2, 3, 4, 5] : List Nat).getD k 0
theorem wk_lt : ∀ k, k < 7 → wkN k < 15 := by decide
theorem x_wordOf (u : xm_U) {k : Nat} (hk : k < 7) : xm_C 7 [xv_i (nI k)] u = some (some (xv_o 1 (wkN k)), u) := by
  rw [xe_X1_wordOfKind]
  match k, hk with
  | 0, _ => exact xn ((by decide)) (xn ((by decide)) (xn ((by decide)) (xn ((by decide)) (xn ((by decide)) (xn ((by decide)) (rfl))))))
  | 1, _ => exact xg rfl (rfl)
  | 2, _ => exact xn ((by decide)) (xg rfl (rfl))
  | 3, _ => exact xn ((by decide)) (xn ((by decide)) (xg rfl (rfl)))
  | 4, _ => exact xn ((by decide)) (xn ((by decide)) (xn ((by decide)) (xg rfl (rfl))))
  | 5, _ => exact xn ((by decide)) (xn ((by decide)) (xn ((by decide)) (xn ((by decide)) (xg rfl (rfl)))))
  | 6, _ => exact xn ((by decide)) (xn ((by decide)) (xn ((by decide)) (xn ((by decide)) (xn ((by decide)) (xg rfl (rfl))))))
theorem st_xw (h : st n b u0 z0 u z d t s e) {q : Nat} (hq : q < 15) : xm_C 14 [xv_r 4 0, xv_o 1 q] u = some (some (xv_i (bI (t = 1 ∧ wEq b s e q))), u) := by
  have x1 := x_isWord (w := u) (z := z) h.1 h.2.1 hq
  rwa [wf_self] at x1
theorem st_mw (h : st n b u0 z0 u z d t s e) {q : Nat} (hq : q < 15) : xm_C 175 [xv_r 9 0, xv_l (lN (wqN q))] z = some (some (xv_i (bI (t = 1 ∧ wEq b s e q))), z) := by
  have m1 := m_isWord (z := z) h.2.1 hq
  rwa [zf_self] at m1
theorem x_item_lp (h : st n b u0 z0 u z d t s e) : ∀ m, m ≤ 7 → (∀ k, k < m → ¬ (t = 1 ∧ wEq b s e (wkN k))) → ∀ r, xm_E 6 (xc_X1_readItem.drop 2, [some (xv_r 4 0), some (xv_r 2 0), some (xv_i (nI m))], [], u) = some r → xm_E 6 (xc_X1_readItem.drop 2, [some (xv_r 4 0), some (xv_r 2 0), some (xv_i (nI 0))], [], u) = some r := by
  intro m
  induction m with
  | zero => intro _ _ r q; exact q
  | succ m ih =>
    intro hm hk r q
    refine ih (by omega) (fun k hk' => hk k (by omega)) r ?_
    rw [xe_X1_readItem_2]
    refine xn (nI_ge (b := 7) (by omega) (by decide)) (xbo (x_wordOf _ (by omega)) (xg rfl (xbi (st_xw h (wk_lt m (by omega))) (xg (bI_f (hk m (by omega))) (?_)))))
    rw [nI_1]
    exact q
theorem m_kind (h : st n b u0 z0 u z d t s e) : (∃ k, k < 7 ∧ (t = 1 ∧ wEq b s e (wkN k)) ∧ (∀ j, j < k → ¬ (t = 1 ∧ wEq b s e (wkN j))) ∧ xm_C 176 [xv_r 9 0] z = some (some (xv_i (nI k)), z)) ∨ ((∀ j, j < 7 → ¬ (t = 1 ∧ wEq b s e (wkN j))) ∧ xm_C 176 [xv_r 9 0] z = some (some (xv_i (-1)), z)) := by
  have m6 := st_mw h (q := 6) (by decide)
  have m0 := st_mw h (q := 0) (by decide)
  have m1 := st_mw h (q := 1) (by decide)
  have m2 := st_mw h (q := 2) (by decide)
  have m3 := st_mw h (q := 3) (by decide)
  have m4 := st_mw h (q := 4) (by decide)
  have m5 := st_mw h (q := 5) (by decide)
  rw [wq_6] at m6
  rw [wq_0] at m0
  rw [wq_1] at m1
  rw [wq_2] at m2
  rw [wq_3] at m3
  rw [wq_4] at m4
  rw [wq_5] at m5
  rw [xe_X4_kindHere]
  by_cases c0 : t = 1 ∧ wEq b s e 6
  · exact Or.inl ⟨0, by decide, c0, fun j hj => absurd hj (Nat.not_lt_zero j), xg rfl (xbi m6 (xn (bI_ne c0) (rfl)))⟩
  by_cases c1 : t = 1 ∧ wEq b s e 0
  · refine Or.inl ⟨1, by decide, c1, fun j hj => ?_, xg rfl (xbi m6 (xg (bI_f c0) (xg rfl (xbi m0 (xn (bI_ne c1) (rfl))))))⟩
    match j, hj with
    | 0, _ => exact c0
  by_cases c2 : t = 1 ∧ wEq b s e 1
  · refine Or.inl ⟨2, by decide, c2, fun j hj => ?_, xg rfl (xbi m6 (xg (bI_f c0) (xg rfl (xbi m0 (xg (bI_f c1) (xg rfl (xbi m1 (xn (bI_ne c2) (rfl)))))))))⟩
    match j, hj with
    | 0, _ => exact c0
    | 1, _ => exact c1
  by_cases c3 : t = 1 ∧ wEq b s e 2
  · refine Or.inl ⟨3, by decide, c3, fun j hj => ?_, xg rfl (xbi m6 (xg (bI_f c0) (xg rfl (xbi m0 (xg (bI_f c1) (xg rfl (xbi m1 (xg (bI_f c2) (xg rfl (xbi m2 (xn (bI_ne c3) (rfl))))))))))))⟩
    match j, hj with
    | 0, _ => exact c0
    | 1, _ => exact c1
    | 2, _ => exact c2
  by_cases c4 : t = 1 ∧ wEq b s e 3
  · refine Or.inl ⟨4, by decide, c4, fun j hj => ?_, xg rfl (xbi m6 (xg (bI_f c0) (xg rfl (xbi m0 (xg (bI_f c1) (xg rfl (xbi m1 (xg (bI_f c2) (xg rfl (xbi m2 (xg (bI_f c3) (xg rfl (xbi m3 (xn (bI_ne c4) (rfl)))))))))))))))⟩
    match j, hj with
    | 0, _ => exact c0
    | 1, _ => exact c1
    | 2, _ => exact c2
    | 3, _ => exact c3
  by_cases c5 : t = 1 ∧ wEq b s e 4
  · refine Or.inl ⟨5, by decide, c5, fun j hj => ?_, xg rfl (xbi m6 (xg (bI_f c0) (xg rfl (xbi m0 (xg (bI_f c1) (xg rfl (xbi m1 (xg (bI_f c2) (xg rfl (xbi m2 (xg (bI_f c3) (xg rfl (xbi m3 (xg (bI_f c4) (xg rfl (xbi m4 (xn (bI_ne c5) (rfl))))))))))))))))))⟩
    match j, hj with
    | 0, _ => exact c0
    | 1, _ => exact c1
    | 2, _ => exact c2
    | 3, _ => exact c3
    | 4, _ => exact c4
  by_cases c6 : t = 1 ∧ wEq b s e 5
  · refine Or.inl ⟨6, by decide, c6, fun j hj => ?_, xg rfl (xbi m6 (xg (bI_f c0) (xg rfl (xbi m0 (xg (bI_f c1) (xg rfl (xbi m1 (xg (bI_f c2) (xg rfl (xbi m2 (xg (bI_f c3) (xg rfl (xbi m3 (xg (bI_f c4) (xg rfl (xbi m4 (xg (bI_f c5) (xg rfl (xbi m5 (xn (bI_ne c6) (rfl)))))))))))))))))))))⟩
    match j, hj with
    | 0, _ => exact c0
    | 1, _ => exact c1
    | 2, _ => exact c2
    | 3, _ => exact c3
    | 4, _ => exact c4
    | 5, _ => exact c5
  · refine Or.inr ⟨fun j hj => ?_, xg rfl (xbi m6 (xg (bI_f c0) (xg rfl (xbi m0 (xg (bI_f c1) (xg rfl (xbi m1 (xg (bI_f c2) (xg rfl (xbi m2 (xg (bI_f c3) (xg rfl (xbi m3 (xg (bI_f c4) (xg rfl (xbi m4 (xg (bI_f c5) (xg rfl (xbi m5 (xg (bI_f c6) (rfl)))))))))))))))))))))⟩
    match j, hj with
    | 0, _ => exact c0
    | 1, _ => exact c1
    | 2, _ => exact c2
    | 3, _ => exact c3
    | 4, _ => exact c4
    | 5, _ => exact c5
    | 6, _ => exact c6
theorem it_item (h : st n b u0 z0 u z d t s e) (hv : vd u 2 d) (hd : inv d) : (∃ u' z', xm_C 6 [xv_r 4 0, xv_r 2 0] u = some (some (xv_i 1), u') ∧ xm_C 182 [xv_r 9 0] z = some (none, z') ∧ okI n b u0 z0 u' z' s) ∨ (∃ u' z', xm_C 6 [xv_r 4 0, xv_r 2 0] u = some (some (xv_i 0), u') ∧ xm_C 182 [xv_r 9 0] z = some (none, z') ∧ bd2 u0 z0 u' z') := by
  rw [xe_X1_readItem, xe_X4_item]
  rcases m_kind h with ⟨k, hk, c, hl, mk⟩ | ⟨hl, mk⟩
  · have xw := st_xw h (wk_lt k hk)
    rcases it_plank h hv hd c.1 hk with ⟨u', z', p1, p2, p3⟩ | ⟨u', z', p1, p2, p3⟩
    · refine Or.inl ⟨u', z', x_item_lp h k (by omega) hl _ ?_, ?_, p3⟩
      · rw [xe_X1_readItem_2]
        exact xn (nI_ge (b := 7) (by omega) (by decide)) (xbo (x_wordOf _ hk) (xg rfl (xbi xw (xn (bI_ne c) (xg rfl (xbi p1 (xg nb1 (rfl))))))))
      · exact xg rfl (xbi mk (xn (nI_pos (by omega)) (xg rfl (xbv p2 (rfl)))))
    · refine Or.inr ⟨u', z', x_item_lp h k (by omega) hl _ ?_, ?_, p3⟩
      · rw [xe_X1_readItem_2]
        exact xn (nI_ge (b := 7) (by omega) (by decide)) (xbo (x_wordOf _ hk) (xg rfl (xbi xw (xn (bI_ne c) (xg rfl (xbi p1 (xg nb0 (rfl))))))))
      · exact xg rfl (xbi mk (xn (nI_pos (by omega)) (xg rfl (xbv p2 (rfl)))))
  · have x10 := st_xw h (q := 10) (by decide)
    have x13 := st_xw h (q := 13) (by decide)
    have x14 := st_xw h (q := 14) (by decide)
    have m10 := st_mw h (q := 10) (by decide)
    have m13 := st_mw h (q := 13) (by decide)
    have m14 := st_mw h (q := 14) (by decide)
    rw [wq_10] at m10
    rw [wq_13] at m13
    rw [wq_14] at m14
    have g7 : (7 : Int32) ≤ nI 7 := by decide
    by_cases cH : t = 1 ∧ wEq b s e 10
    · rcases it_house h hv hd cH.1 with ⟨u', z', p1, p2, p3⟩ | ⟨u', z', p1, p2, p3⟩
      · refine Or.inl ⟨u', z', x_item_lp h 7 (by omega) hl _ ?_, xg rfl (xbi mk (xg ((by decide)) (xg rfl (xbi m10 (xn (bI_ne cH) (xg rfl (xbv p2 (rfl)))))))), p3⟩
        rw [xe_X1_readItem_2]
        exact xg g7 (xg rfl (xbi x10 (xn (bI_ne cH) (xg rfl (xbi p1 (xg nb1 (rfl)))))))
      · refine Or.inr ⟨u', z', x_item_lp h 7 (by omega) hl _ ?_, xg rfl (xbi mk (xg ((by decide)) (xg rfl (xbi m10 (xn (bI_ne cH) (xg rfl (xbv p2 (rfl)))))))), p3⟩
        rw [xe_X1_readItem_2]
        exact xg g7 (xg rfl (xbi x10 (xn (bI_ne cH) (xg rfl (xbi p1 (xg nb0 (rfl)))))))
    by_cases cE : t = 1 ∧ wEq b s e 13
    · rcases it_event h hv hd cE.1 with ⟨u', z', p1, p2, p3⟩ | ⟨u', z', p1, p2, p3⟩
      · refine Or.inl ⟨u', z', x_item_lp h 7 (by omega) hl _ ?_, xg rfl (xbi mk (xg ((by decide)) (xg rfl (xbi m10 (xg (bI_f cH) (xg rfl (xbi m13 (xn (bI_ne cE) (xg rfl (xbv p2 (rfl))))))))))), p3⟩
        rw [xe_X1_readItem_2]
        exact xg g7 (xg rfl (xbi x10 (xg (bI_f cH) (xg rfl (xbi x13 (xn (bI_ne cE) (xg rfl (xbi p1 (xg nb1 (rfl))))))))))
      · refine Or.inr ⟨u', z', x_item_lp h 7 (by omega) hl _ ?_, xg rfl (xbi mk (xg ((by decide)) (xg rfl (xbi m10 (xg (bI_f cH) (xg rfl (xbi m13 (xn (bI_ne cE) (xg rfl (xbv p2 (rfl))))))))))), p3⟩
        rw [xe_X1_readItem_2]
        exact xg g7 (xg rfl (xbi x10 (xg (bI_f cH) (xg rfl (xbi x13 (xn (bI_ne cE) (xg rfl (xbi p1 (xg nb0 (rfl))))))))))
    by_cases cA : t = 1 ∧ wEq b s e 14
    · obtain ⟨z1, q1, hh⟩ := it_each h hv hd cA.1
      rcases hh with ⟨u', z', x, p1, p2, p3⟩ | ⟨u', z', x, p1, p2, p3⟩
      · refine Or.inl ⟨u', _, x_item_lp h 7 (by omega) hl _ ?_, xg rfl (xbi mk (xg ((by decide)) (xg rfl (xbi m10 (xg (bI_f cH) (xg rfl (xbi m13 (xg (bI_f cE) (xg rfl (xbi m14 (xn (bI_ne cA) (xg rfl (xbv q1 (xg rfl (xg rfl (xbi p2 (xg (in9n (k := 4) (by decide)) (xlt (rfl))))))))))))))))))), p3⟩
        rw [xe_X1_readItem_2]
        exact xg g7 (xg rfl (xbi x10 (xg (bI_f cH) (xg rfl (xbi x13 (xg (bI_f cE) (xg rfl (xbi x14 (xn (bI_ne cA) (xg rfl (xbi p1 (xn ((by decide)) (xg nb1 (rfl))))))))))))))
      · refine Or.inr ⟨u', _, x_item_lp h 7 (by omega) hl _ ?_, xg rfl (xbi mk (xg ((by decide)) (xg rfl (xbi m10 (xg (bI_f cH) (xg rfl (xbi m13 (xg (bI_f cE) (xg rfl (xbi m14 (xn (bI_ne cA) (xg rfl (xbv q1 (xg rfl (xg rfl (xbi p2 (xg (in9n (k := 4) (by decide)) (xlt (rfl))))))))))))))))))), p3⟩
        rw [xe_X1_readItem_2]
        exact xg g7 (xg rfl (xbi x10 (xg (bI_f cH) (xg rfl (xbi x13 (xg (bI_f cE) (xg rfl (xbi x14 (xn (bI_ne cA) (xg rfl (xbi p1 (xg rfl (xg nb0 (rfl))))))))))))))
    · obtain ⟨z', q1, q2, -⟩ := st_wrong h
      refine Or.inr ⟨u, z', x_item_lp h 7 (by omega) hl _ ?_, xg rfl (xbi mk (xg ((by decide)) (xg rfl (xbi m10 (xg (bI_f cH) (xg rfl (xbi m13 (xg (bI_f cE) (xg rfl (xbi m14 (xg (bI_f cA) (xg rfl (xbv q1 (rfl)))))))))))))), q2⟩
      rw [xe_X1_readItem_2]
      exact xg g7 (xg rfl (xbi x10 (xg (bI_f cH) (xg rfl (xbi x13 (xg (bI_f cE) (xg rfl (xbi x14 (xg (bI_f cA) (xg nb0 (rfl)))))))))))
end II
