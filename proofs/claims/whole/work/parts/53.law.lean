/-! THE LAW'S LOOP -/
theorem lw6 {L k : Nat} (hL : L ≤ 3072) (hk : k ≤ 4000) : (Int32.ofNat L - 6 < nI k) ↔ L < k + 6 := by
  have e := pk_sub_toInt (a := L) (b := 6) (by omega) (by omega)
  rw [il_lt, show Int32.ofNat L - 6 = nI L - nI 6 from rfl, e, nI_toInt (by omega)]
  omega
theorem la1 (k : Nat) : nI k + 1 = nI (k + 1) := nI_add k 1
theorem la2 (k : Nat) : nI k + 2 = nI (k + 2) := nI_add k 2
theorem la3 (k : Nat) : nI k + 3 = nI (k + 3) := nI_add k 3
theorem la4 (k : Nat) : nI k + 4 = nI (k + 4) := nI_add k 4
theorem la5 (k : Nat) : nI k + 5 = nI (k + 5) := nI_add k 5
theorem la6 (k : Nat) : nI k + 6 = nI (k + 6) := nI_add k 6
theorem lg_eq (a : Int64) : lg_cmp a a = 0 := by
  apply Int32.toInt_inj.mp
  have n1 : ¬ lg_cmp a a < 0 := fun q => by have := (cmp_lt a a).mp q; rw [il_lt64] at this; omega
  have n2 : ¬ 0 < lg_cmp a a := fun q => by have := (cmp_gt a a).mp q; rw [il_lt64] at this; omega
  rw [il_lt] at n1 n2
  rw [show (0 : Int32).toInt = 0 from rfl] at *
  omega
noncomputable def lwE (k : Nat) (u : xm_U) : Option xm_R := xm_E 201 (xc_L_law.drop 10, [some (xv_o 0 0), some (xv_r 0 0), some (xv_r 9 0), some (xv_i (nI k))], [], u)
section LL
variable {k : Nat} {u : xm_U}

theorem lw_c0 (hL : u.2.2.1 ≤ 3072) (hk : k + 6 ≤ u.2.2.1) (hR : Rel u) (hc : (u.2.2.2 ((nI k).toNatClampNeg) &&& 63) = 0) : ∃ u2, Rel u2 ∧ u2.2.2 = u.2.2 ∧ ∀ r, lwE (k + 6) u2 = some r → lwE k u = some r := by
  obtain ⟨r, u1, u2, e1, e2, hR2, h1, h2⟩ := same_i (S_house (u.2.2.2 (nI (k + 1)).toNatClampNeg) (u.2.2.2 (nI (k + 2)).toNatClampNeg) (u.2.2.2 (nI (k + 3)).toNatClampNeg)) rc_52 hR
  refine ⟨u2, hR2, h2, fun r' e => ?_⟩
  have g1 : vp_in (nI (k + 1)) u.2.2.1 := vp_in_nI (by omega) (by omega)
  have g2 : vp_in (nI (k + 2)) u.2.2.1 := vp_in_nI (by omega) (by omega)
  have g3 : vp_in (nI (k + 3)) u.2.2.1 := vp_in_nI (by omega) (by omega)
  have g4 : vp_in (nI (k + 4)) u.2.2.1 := vp_in_nI (by omega) (by omega)
  have g5 : vp_in (nI (k + 5)) u.2.2.1 := vp_in_nI (by omega) (by omega)
  have n : ∀ {j : Int32}, ¬ 0 = j → ¬ (u.2.2.2 ((nI k).toNatClampNeg) &&& 63) = j := fun h q => h (hc.symm.trans q)
  unfold lwE
  rw [xe_L_law_10, la1 k, la2 k, la3 k, la4 k, la5 k, la6 k]
  refine xn (fun q => by rw [lw6 hL (by omega)] at q; omega) (xg (vp_in_nI (by omega) (by omega)) (xg hc (xg g1 (xg g2 (xg g3 (xg rfl (xbi e1 ?_)))))))
  rw [h1]
  exact xg g1 (xg g2 (xg g3 (xg rfl (xbi e2 (xg rfl e)))))
theorem lw_c1 (hL : u.2.2.1 ≤ 3072) (hk : k + 6 ≤ u.2.2.1) (hR : Rel u) (hc : (u.2.2.2 ((nI k).toNatClampNeg) &&& 63) = 1) : ∃ u2, Rel u2 ∧ u2.2.2 = u.2.2 ∧ ∀ r, lwE (k + 6) u2 = some r → lwE k u = some r := by
  obtain ⟨r, u1, u2, e1, e2, hR2, h1, h2⟩ := same_i (S_houseOf (u.2.2.2 (nI (k + 1)).toNatClampNeg) (u.2.2.2 (nI (k + 2)).toNatClampNeg)) rc_53 hR
  refine ⟨u2, hR2, h2, fun r' e => ?_⟩
  have g1 : vp_in (nI (k + 1)) u.2.2.1 := vp_in_nI (by omega) (by omega)
  have g2 : vp_in (nI (k + 2)) u.2.2.1 := vp_in_nI (by omega) (by omega)
  have g3 : vp_in (nI (k + 3)) u.2.2.1 := vp_in_nI (by omega) (by omega)
  have g4 : vp_in (nI (k + 4)) u.2.2.1 := vp_in_nI (by omega) (by omega)
  have g5 : vp_in (nI (k + 5)) u.2.2.1 := vp_in_nI (by omega) (by omega)
  have n : ∀ {j : Int32}, ¬ 1 = j → ¬ (u.2.2.2 ((nI k).toNatClampNeg) &&& 63) = j := fun h q => h (hc.symm.trans q)
  unfold lwE
  rw [xe_L_law_10, la1 k, la2 k, la3 k, la4 k, la5 k, la6 k]
  refine xn (fun q => by rw [lw6 hL (by omega)] at q; omega) (xg (vp_in_nI (by omega) (by omega)) (xn (n (by decide)) (xg hc (xg g1 (xg g2 (xg rfl (xbi e1 ?_)))))))
  rw [h1]
  exact xg g1 (xg g2 (xg rfl (xbi e2 (xg rfl e))))
theorem lw_c2 (hL : u.2.2.1 ≤ 3072) (hk : k + 6 ≤ u.2.2.1) (hR : Rel u) (hc : (u.2.2.2 ((nI k).toNatClampNeg) &&& 63) = 2) : ∃ u2, Rel u2 ∧ u2.2.2 = u.2.2 ∧ ∀ r, lwE (k + 6) u2 = some r → lwE k u = some r := by
  obtain ⟨r, u1, u2, e1, e2, hR2, h1, h2⟩ := same_i (S_event (u.2.2.2 (nI (k + 1)).toNatClampNeg) (u.2.2.2 (nI (k + 2)).toNatClampNeg)) rc_54 hR
  refine ⟨u2, hR2, h2, fun r' e => ?_⟩
  have g1 : vp_in (nI (k + 1)) u.2.2.1 := vp_in_nI (by omega) (by omega)
  have g2 : vp_in (nI (k + 2)) u.2.2.1 := vp_in_nI (by omega) (by omega)
  have g3 : vp_in (nI (k + 3)) u.2.2.1 := vp_in_nI (by omega) (by omega)
  have g4 : vp_in (nI (k + 4)) u.2.2.1 := vp_in_nI (by omega) (by omega)
  have g5 : vp_in (nI (k + 5)) u.2.2.1 := vp_in_nI (by omega) (by omega)
  have n : ∀ {j : Int32}, ¬ 2 = j → ¬ (u.2.2.2 ((nI k).toNatClampNeg) &&& 63) = j := fun h q => h (hc.symm.trans q)
  unfold lwE
  rw [xe_L_law_10, la1 k, la2 k, la3 k, la4 k, la5 k, la6 k]
  refine xn (fun q => by rw [lw6 hL (by omega)] at q; omega) (xg (vp_in_nI (by omega) (by omega)) (xn (n (by decide)) (xn (n (by decide)) (xg hc (xg g1 (xg g2 (xg rfl (xbi e1 ?_))))))))
  rw [h1]
  exact xg g1 (xg g2 (xg rfl (xbi e2 (xg rfl e))))
theorem lw_c3 (hL : u.2.2.1 ≤ 3072) (hk : k + 6 ≤ u.2.2.1) (hR : Rel u) (hc : (u.2.2.2 ((nI k).toNatClampNeg) &&& 63) = 3) : ∃ u2, Rel u2 ∧ u2.2.2 = u.2.2 ∧ ∀ r, lwE (k + 6) u2 = some r → lwE k u = some r := by
  obtain ⟨r, u1, u2, e1, e2, hR2, h1, h2⟩ := same_i (S_listed (u.2.2.2 (nI (k + 1)).toNatClampNeg)) rc_55 hR
  refine ⟨u2, hR2, h2, fun r' e => ?_⟩
  have g1 : vp_in (nI (k + 1)) u.2.2.1 := vp_in_nI (by omega) (by omega)
  have g2 : vp_in (nI (k + 2)) u.2.2.1 := vp_in_nI (by omega) (by omega)
  have g3 : vp_in (nI (k + 3)) u.2.2.1 := vp_in_nI (by omega) (by omega)
  have g4 : vp_in (nI (k + 4)) u.2.2.1 := vp_in_nI (by omega) (by omega)
  have g5 : vp_in (nI (k + 5)) u.2.2.1 := vp_in_nI (by omega) (by omega)
  have n : ∀ {j : Int32}, ¬ 3 = j → ¬ (u.2.2.2 ((nI k).toNatClampNeg) &&& 63) = j := fun h q => h (hc.symm.trans q)
  unfold lwE
  rw [xe_L_law_10, la1 k, la2 k, la3 k, la4 k, la5 k, la6 k]
  refine xn (fun q => by rw [lw6 hL (by omega)] at q; omega) (xg (vp_in_nI (by omega) (by omega)) (xn (n (by decide)) (xn (n (by decide)) (xn (n (by decide)) (xg hc (xg g1 (xg rfl (xbi e1 ?_))))))))
  rw [h1]
  exact xg g1 (xg rfl (xbi e2 (xg rfl e)))
theorem lw_c4 (hL : u.2.2.1 ≤ 3072) (hk : k + 6 ≤ u.2.2.1) (hR : Rel u) (hc : (u.2.2.2 ((nI k).toNatClampNeg) &&& 63) = 4) : ∃ u2, Rel u2 ∧ u2.2.2 = u.2.2 ∧ ∀ r, lwE (k + 6) u2 = some r → lwE k u = some r := by
  obtain ⟨r, u1, u2, e1, e2, hR2, h1, h2⟩ := same_i (S_each (u.2.2.2 (nI (k + 1)).toNatClampNeg)) rc_56 hR
  refine ⟨u2, hR2, h2, fun r' e => ?_⟩
  have g1 : vp_in (nI (k + 1)) u.2.2.1 := vp_in_nI (by omega) (by omega)
  have g2 : vp_in (nI (k + 2)) u.2.2.1 := vp_in_nI (by omega) (by omega)
  have g3 : vp_in (nI (k + 3)) u.2.2.1 := vp_in_nI (by omega) (by omega)
  have g4 : vp_in (nI (k + 4)) u.2.2.1 := vp_in_nI (by omega) (by omega)
  have g5 : vp_in (nI (k + 5)) u.2.2.1 := vp_in_nI (by omega) (by omega)
  have n : ∀ {j : Int32}, ¬ 4 = j → ¬ (u.2.2.2 ((nI k).toNatClampNeg) &&& 63) = j := fun h q => h (hc.symm.trans q)
  unfold lwE
  rw [xe_L_law_10, la1 k, la2 k, la3 k, la4 k, la5 k, la6 k]
  refine xn (fun q => by rw [lw6 hL (by omega)] at q; omega) (xg (vp_in_nI (by omega) (by omega)) (xn (n (by decide)) (xn (n (by decide)) (xn (n (by decide)) (xn (n (by decide)) (xg hc (xg g1 (xg rfl (xbi e1 ?_)))))))))
  rw [h1]
  exact xg g1 (xg rfl (xbi e2 (xg rfl e)))
theorem lw_c5 (hL : u.2.2.1 ≤ 3072) (hk : k + 6 ≤ u.2.2.1) (hR : Rel u) (hc : (u.2.2.2 ((nI k).toNatClampNeg) &&& 63) = 5) : ∃ u2, Rel u2 ∧ u2.2.2 = u.2.2 ∧ ∀ r, lwE (k + 6) u2 = some r → lwE k u = some r := by
  obtain ⟨r, u1, u2, e1, e2, hR2, h1, h2⟩ := same_i (S_plank (u.2.2.2 (nI (k + 1)).toNatClampNeg) (u.2.2.2 (nI (k + 2)).toNatClampNeg)) rc_57 hR
  refine ⟨u2, hR2, h2, fun r' e => ?_⟩
  have g1 : vp_in (nI (k + 1)) u.2.2.1 := vp_in_nI (by omega) (by omega)
  have g2 : vp_in (nI (k + 2)) u.2.2.1 := vp_in_nI (by omega) (by omega)
  have g3 : vp_in (nI (k + 3)) u.2.2.1 := vp_in_nI (by omega) (by omega)
  have g4 : vp_in (nI (k + 4)) u.2.2.1 := vp_in_nI (by omega) (by omega)
  have g5 : vp_in (nI (k + 5)) u.2.2.1 := vp_in_nI (by omega) (by omega)
  have n : ∀ {j : Int32}, ¬ 5 = j → ¬ (u.2.2.2 ((nI k).toNatClampNeg) &&& 63) = j := fun h q => h (hc.symm.trans q)
  unfold lwE
  rw [xe_L_law_10, la1 k, la2 k, la3 k, la4 k, la5 k, la6 k]
  refine xn (fun q => by rw [lw6 hL (by omega)] at q; omega) (xg (vp_in_nI (by omega) (by omega)) (xn (n (by decide)) (xn (n (by decide)) (xn (n (by decide)) (xn (n (by decide)) (xn (n (by decide)) (xg hc (xg g1 (xg g2 (xg rfl (xbi e1 ?_)))))))))))
  rw [h1]
  exact xg g1 (xg g2 (xg rfl (xbi e2 (xg rfl e))))
theorem lw_c6 (hL : u.2.2.1 ≤ 3072) (hk : k + 6 ≤ u.2.2.1) (hR : Rel u) (hc : (u.2.2.2 ((nI k).toNatClampNeg) &&& 63) = 6) : ∃ u2, Rel u2 ∧ u2.2.2 = u.2.2 ∧ ∀ r, lwE (k + 6) u2 = some r → lwE k u = some r := by
  obtain ⟨r, u1, u2, e1, e2, hR2, h1, h2⟩ := same_i (S_of (u.2.2.2 (nI (k + 1)).toNatClampNeg) (u.2.2.2 (nI (k + 2)).toNatClampNeg)) rc_58 hR
  refine ⟨u2, hR2, h2, fun r' e => ?_⟩
  have g1 : vp_in (nI (k + 1)) u.2.2.1 := vp_in_nI (by omega) (by omega)
  have g2 : vp_in (nI (k + 2)) u.2.2.1 := vp_in_nI (by omega) (by omega)
  have g3 : vp_in (nI (k + 3)) u.2.2.1 := vp_in_nI (by omega) (by omega)
  have g4 : vp_in (nI (k + 4)) u.2.2.1 := vp_in_nI (by omega) (by omega)
  have g5 : vp_in (nI (k + 5)) u.2.2.1 := vp_in_nI (by omega) (by omega)
  have n : ∀ {j : Int32}, ¬ 6 = j → ¬ (u.2.2.2 ((nI k).toNatClampNeg) &&& 63) = j := fun h q => h (hc.symm.trans q)
  unfold lwE
  rw [xe_L_law_10, la1 k, la2 k, la3 k, la4 k, la5 k, la6 k]
  refine xn (fun q => by rw [lw6 hL (by omega)] at q; omega) (xg (vp_in_nI (by omega) (by omega)) (xn (n (by decide)) (xn (n (by decide)) (xn (n (by decide)) (xn (n (by decide)) (xn (n (by decide)) (xn (n (by decide)) (xg hc (xg g1 (xg g2 (xg rfl (xbi e1 ?_))))))))))))
  rw [h1]
  exact xg g1 (xg g2 (xg rfl (xbi e2 (xg rfl e))))
theorem lw_c7 (hL : u.2.2.1 ≤ 3072) (hk : k + 6 ≤ u.2.2.1) (hR : Rel u) (hc : (u.2.2.2 ((nI k).toNatClampNeg) &&& 63) = 7) : ∃ u2, Rel u2 ∧ u2.2.2 = u.2.2 ∧ ∀ r, lwE (k + 6) u2 = some r → lwE k u = some r := by
  obtain ⟨r, u1, u2, e1, e2, hR2, h1, h2⟩ := same_i (S_change (u.2.2.2 (nI (k + 1)).toNatClampNeg) (u.2.2.2 (nI (k + 2)).toNatClampNeg) (u.2.2.2 (nI (k + 3)).toNatClampNeg)) rc_59 hR
  refine ⟨u2, hR2, h2, fun r' e => ?_⟩
  have g1 : vp_in (nI (k + 1)) u.2.2.1 := vp_in_nI (by omega) (by omega)
  have g2 : vp_in (nI (k + 2)) u.2.2.1 := vp_in_nI (by omega) (by omega)
  have g3 : vp_in (nI (k + 3)) u.2.2.1 := vp_in_nI (by omega) (by omega)
  have g4 : vp_in (nI (k + 4)) u.2.2.1 := vp_in_nI (by omega) (by omega)
  have g5 : vp_in (nI (k + 5)) u.2.2.1 := vp_in_nI (by omega) (by omega)
  have n : ∀ {j : Int32}, ¬ 7 = j → ¬ (u.2.2.2 ((nI k).toNatClampNeg) &&& 63) = j := fun h q => h (hc.symm.trans q)
  unfold lwE
  rw [xe_L_law_10, la1 k, la2 k, la3 k, la4 k, la5 k, la6 k]
  refine xn (fun q => by rw [lw6 hL (by omega)] at q; omega) (xg (vp_in_nI (by omega) (by omega)) (xn (n (by decide)) (xn (n (by decide)) (xn (n (by decide)) (xn (n (by decide)) (xn (n (by decide)) (xn (n (by decide)) (xn (n (by decide)) (xg hc (xg g1 (xg g2 (xg g3 (xg rfl (xbi e1 ?_))))))))))))))
  rw [h1]
  exact xg g1 (xg g2 (xg g3 (xg rfl (xbi e2 (xg rfl e)))))
theorem lw_c8 (hL : u.2.2.1 ≤ 3072) (hk : k + 6 ≤ u.2.2.1) (hR : Rel u) (hc : (u.2.2.2 ((nI k).toNatClampNeg) &&& 63) = 8) : ∃ u2, Rel u2 ∧ u2.2.2 = u.2.2 ∧ ∀ r, lwE (k + 6) u2 = some r → lwE k u = some r := by
  obtain ⟨r, u1, u2, e1, e2, hR2, h1, h2⟩ := same_i (S_go (u.2.2.2 (nI (k + 1)).toNatClampNeg)) rc_60 hR
  refine ⟨u2, hR2, h2, fun r' e => ?_⟩
  have g1 : vp_in (nI (k + 1)) u.2.2.1 := vp_in_nI (by omega) (by omega)
  have g2 : vp_in (nI (k + 2)) u.2.2.1 := vp_in_nI (by omega) (by omega)
  have g3 : vp_in (nI (k + 3)) u.2.2.1 := vp_in_nI (by omega) (by omega)
  have g4 : vp_in (nI (k + 4)) u.2.2.1 := vp_in_nI (by omega) (by omega)
  have g5 : vp_in (nI (k + 5)) u.2.2.1 := vp_in_nI (by omega) (by omega)
  have n : ∀ {j : Int32}, ¬ 8 = j → ¬ (u.2.2.2 ((nI k).toNatClampNeg) &&& 63) = j := fun h q => h (hc.symm.trans q)
  unfold lwE
  rw [xe_L_law_10, la1 k, la2 k, la3 k, la4 k, la5 k, la6 k]
  refine xn (fun q => by rw [lw6 hL (by omega)] at q; omega) (xg (vp_in_nI (by omega) (by omega)) (xn (n (by decide)) (xn (n (by decide)) (xn (n (by decide)) (xn (n (by decide)) (xn (n (by decide)) (xn (n (by decide)) (xn (n (by decide)) (xn (n (by decide)) (xg hc (xg g1 (xg rfl (xbi e1 ?_)))))))))))))
  rw [h1]
  exact xg g1 (xg rfl (xbi e2 (xg rfl e)))
theorem lw_c9 (hL : u.2.2.1 ≤ 3072) (hk : k + 6 ≤ u.2.2.1) (hR : Rel u) (hc : (u.2.2.2 ((nI k).toNatClampNeg) &&& 63) = 9) : ∃ u2, Rel u2 ∧ u2.2.2 = u.2.2 ∧ ∀ r, lwE (k + 6) u2 = some r → lwE k u = some r := by
  obtain ⟨r, u1, u2, e1, e2, hR2, h1, h2⟩ := same_i (S_now (u.2.2.2 (nI (k + 1)).toNatClampNeg)) rc_61 hR
  refine ⟨u2, hR2, h2, fun r' e => ?_⟩
  have g1 : vp_in (nI (k + 1)) u.2.2.1 := vp_in_nI (by omega) (by omega)
  have g2 : vp_in (nI (k + 2)) u.2.2.1 := vp_in_nI (by omega) (by omega)
  have g3 : vp_in (nI (k + 3)) u.2.2.1 := vp_in_nI (by omega) (by omega)
  have g4 : vp_in (nI (k + 4)) u.2.2.1 := vp_in_nI (by omega) (by omega)
  have g5 : vp_in (nI (k + 5)) u.2.2.1 := vp_in_nI (by omega) (by omega)
  have n : ∀ {j : Int32}, ¬ 9 = j → ¬ (u.2.2.2 ((nI k).toNatClampNeg) &&& 63) = j := fun h q => h (hc.symm.trans q)
  unfold lwE
  rw [xe_L_law_10, la1 k, la2 k, la3 k, la4 k, la5 k, la6 k]
  refine xn (fun q => by rw [lw6 hL (by omega)] at q; omega) (xg (vp_in_nI (by omega) (by omega)) (xn (n (by decide)) (xn (n (by decide)) (xn (n (by decide)) (xn (n (by decide)) (xn (n (by decide)) (xn (n (by decide)) (xn (n (by decide)) (xn (n (by decide)) (xn (n (by decide)) (xg hc (xg g1 (xg rfl (xbi e1 ?_))))))))))))))
  rw [h1]
  exact xg g1 (xg rfl (xbi e2 (xg rfl e)))
theorem lw_c10 (hL : u.2.2.1 ≤ 3072) (hk : k + 6 ≤ u.2.2.1) (hR : Rel u) (hc : (u.2.2.2 ((nI k).toNatClampNeg) &&& 63) = 10) : ∃ u2, Rel u2 ∧ u2.2.2 = u.2.2 ∧ ∀ r, lwE (k + 6) u2 = some r → lwE k u = some r := by
  obtain ⟨r, u1, u2, e1, e2, hR2, h1, h2⟩ := same_i (S_ahead (u.2.2.2 (nI (k + 1)).toNatClampNeg) (u.2.2.2 (nI (k + 2)).toNatClampNeg) (u.2.2.2 (nI (k + 3)).toNatClampNeg)) rc_62 hR
  refine ⟨u2, hR2, h2, fun r' e => ?_⟩
  have g1 : vp_in (nI (k + 1)) u.2.2.1 := vp_in_nI (by omega) (by omega)
  have g2 : vp_in (nI (k + 2)) u.2.2.1 := vp_in_nI (by omega) (by omega)
  have g3 : vp_in (nI (k + 3)) u.2.2.1 := vp_in_nI (by omega) (by omega)
  have g4 : vp_in (nI (k + 4)) u.2.2.1 := vp_in_nI (by omega) (by omega)
  have g5 : vp_in (nI (k + 5)) u.2.2.1 := vp_in_nI (by omega) (by omega)
  have n : ∀ {j : Int32}, ¬ 10 = j → ¬ (u.2.2.2 ((nI k).toNatClampNeg) &&& 63) = j := fun h q => h (hc.symm.trans q)
  unfold lwE
  rw [xe_L_law_10, la1 k, la2 k, la3 k, la4 k, la5 k, la6 k]
  refine xn (fun q => by rw [lw6 hL (by omega)] at q; omega) (xg (vp_in_nI (by omega) (by omega)) (xn (n (by decide)) (xn (n (by decide)) (xn (n (by decide)) (xn (n (by decide)) (xn (n (by decide)) (xn (n (by decide)) (xn (n (by decide)) (xn (n (by decide)) (xn (n (by decide)) (xn (n (by decide)) (xg hc (xg g1 (xg g2 (xg g3 (xg rfl (xbi e1 ?_)))))))))))))))))
  rw [h1]
  exact xg g1 (xg g2 (xg g3 (xg rfl (xbi e2 (xg rfl e)))))
theorem lw_c11 (hL : u.2.2.1 ≤ 3072) (hk : k + 6 ≤ u.2.2.1) (hR : Rel u) (hc : (u.2.2.2 ((nI k).toNatClampNeg) &&& 63) = 11) : ∃ u2, Rel u2 ∧ u2.2.2 = u.2.2 ∧ ∀ r, lwE (k + 6) u2 = some r → lwE k u = some r := by
  obtain ⟨r, u1, u2, e1, e2, hR2, h1, h2⟩ := same_i (S_gold (u.2.2.2 (nI (k + 1)).toNatClampNeg)) rc_63 hR
  refine ⟨u2, hR2, h2, fun r' e => ?_⟩
  have g1 : vp_in (nI (k + 1)) u.2.2.1 := vp_in_nI (by omega) (by omega)
  have g2 : vp_in (nI (k + 2)) u.2.2.1 := vp_in_nI (by omega) (by omega)
  have g3 : vp_in (nI (k + 3)) u.2.2.1 := vp_in_nI (by omega) (by omega)
  have g4 : vp_in (nI (k + 4)) u.2.2.1 := vp_in_nI (by omega) (by omega)
  have g5 : vp_in (nI (k + 5)) u.2.2.1 := vp_in_nI (by omega) (by omega)
  have n : ∀ {j : Int32}, ¬ 11 = j → ¬ (u.2.2.2 ((nI k).toNatClampNeg) &&& 63) = j := fun h q => h (hc.symm.trans q)
  unfold lwE
  rw [xe_L_law_10, la1 k, la2 k, la3 k, la4 k, la5 k, la6 k]
  refine xn (fun q => by rw [lw6 hL (by omega)] at q; omega) (xg (vp_in_nI (by omega) (by omega)) (xn (n (by decide)) (xn (n (by decide)) (xn (n (by decide)) (xn (n (by decide)) (xn (n (by decide)) (xn (n (by decide)) (xn (n (by decide)) (xn (n (by decide)) (xn (n (by decide)) (xn (n (by decide)) (xn (n (by decide)) (xg hc (xg g1 (xg rfl (xbi e1 ?_))))))))))))))))
  rw [h1]
  exact xg g1 (xg rfl (xbi e2 (xg rfl e)))
theorem lw_c12 (hL : u.2.2.1 ≤ 3072) (hk : k + 6 ≤ u.2.2.1) (hR : Rel u) (hc : (u.2.2.2 ((nI k).toNatClampNeg) &&& 63) = 12) : ∃ u2, Rel u2 ∧ u2.2.2 = u.2.2 ∧ ∀ r, lwE (k + 6) u2 = some r → lwE k u = some r := by
  obtain ⟨r, u1, u2, e1, e2, hR2, h1, h2⟩ := same_i (S_rings (u.2.2.2 (nI (k + 1)).toNatClampNeg)) rc_64 hR
  refine ⟨u2, hR2, h2, fun r' e => ?_⟩
  have g1 : vp_in (nI (k + 1)) u.2.2.1 := vp_in_nI (by omega) (by omega)
  have g2 : vp_in (nI (k + 2)) u.2.2.1 := vp_in_nI (by omega) (by omega)
  have g3 : vp_in (nI (k + 3)) u.2.2.1 := vp_in_nI (by omega) (by omega)
  have g4 : vp_in (nI (k + 4)) u.2.2.1 := vp_in_nI (by omega) (by omega)
  have g5 : vp_in (nI (k + 5)) u.2.2.1 := vp_in_nI (by omega) (by omega)
  have n : ∀ {j : Int32}, ¬ 12 = j → ¬ (u.2.2.2 ((nI k).toNatClampNeg) &&& 63) = j := fun h q => h (hc.symm.trans q)
  unfold lwE
  rw [xe_L_law_10, la1 k, la2 k, la3 k, la4 k, la5 k, la6 k]
  refine xn (fun q => by rw [lw6 hL (by omega)] at q; omega) (xg (vp_in_nI (by omega) (by omega)) (xn (n (by decide)) (xn (n (by decide)) (xn (n (by decide)) (xn (n (by decide)) (xn (n (by decide)) (xn (n (by decide)) (xn (n (by decide)) (xn (n (by decide)) (xn (n (by decide)) (xn (n (by decide)) (xn (n (by decide)) (xn (n (by decide)) (xg hc (xg g1 (xg rfl (xbi e1 ?_)))))))))))))))))
  rw [h1]
  exact xg g1 (xg rfl (xbi e2 (xg rfl e)))
theorem lw_c13 (hL : u.2.2.1 ≤ 3072) (hk : k + 6 ≤ u.2.2.1) (hR : Rel u) (hc : (u.2.2.2 ((nI k).toNatClampNeg) &&& 63) = 13) : ∃ u2, Rel u2 ∧ u2.2.2 = u.2.2 ∧ ∀ r, lwE (k + 6) u2 = some r → lwE k u = some r := by
  obtain ⟨r, u1, u2, e1, e2, hR2, h1, h2⟩ := same_i (S_taken (u.2.2.2 (nI (k + 1)).toNatClampNeg) (u.2.2.2 (nI (k + 2)).toNatClampNeg)) rc_65 hR
  refine ⟨u2, hR2, h2, fun r' e => ?_⟩
  have g1 : vp_in (nI (k + 1)) u.2.2.1 := vp_in_nI (by omega) (by omega)
  have g2 : vp_in (nI (k + 2)) u.2.2.1 := vp_in_nI (by omega) (by omega)
  have g3 : vp_in (nI (k + 3)) u.2.2.1 := vp_in_nI (by omega) (by omega)
  have g4 : vp_in (nI (k + 4)) u.2.2.1 := vp_in_nI (by omega) (by omega)
  have g5 : vp_in (nI (k + 5)) u.2.2.1 := vp_in_nI (by omega) (by omega)
  have n : ∀ {j : Int32}, ¬ 13 = j → ¬ (u.2.2.2 ((nI k).toNatClampNeg) &&& 63) = j := fun h q => h (hc.symm.trans q)
  unfold lwE
  rw [xe_L_law_10, la1 k, la2 k, la3 k, la4 k, la5 k, la6 k]
  refine xn (fun q => by rw [lw6 hL (by omega)] at q; omega) (xg (vp_in_nI (by omega) (by omega)) (xn (n (by decide)) (xn (n (by decide)) (xn (n (by decide)) (xn (n (by decide)) (xn (n (by decide)) (xn (n (by decide)) (xn (n (by decide)) (xn (n (by decide)) (xn (n (by decide)) (xn (n (by decide)) (xn (n (by decide)) (xn (n (by decide)) (xn (n (by decide)) (xg hc (xg g1 (xg g2 (xg rfl (xbi e1 ?_)))))))))))))))))))
  rw [h1]
  exact xg g1 (xg g2 (xg rfl (xbi e2 (xg rfl e))))
theorem lw_c14 (hL : u.2.2.1 ≤ 3072) (hk : k + 6 ≤ u.2.2.1) (hR : Rel u) (hc : (u.2.2.2 ((nI k).toNatClampNeg) &&& 63) = 14) : ∃ u2, Rel u2 ∧ u2.2.2 = u.2.2 ∧ ∀ r, lwE (k + 6) u2 = some r → lwE k u = some r := by
  obtain ⟨r, u1, u2, e1, e2, hR2, h1, h2⟩ := same_i (S_tuned (u.2.2.2 (nI (k + 1)).toNatClampNeg) (u.2.2.2 (nI (k + 2)).toNatClampNeg)) rc_66 hR
  refine ⟨u2, hR2, h2, fun r' e => ?_⟩
  have g1 : vp_in (nI (k + 1)) u.2.2.1 := vp_in_nI (by omega) (by omega)
  have g2 : vp_in (nI (k + 2)) u.2.2.1 := vp_in_nI (by omega) (by omega)
  have g3 : vp_in (nI (k + 3)) u.2.2.1 := vp_in_nI (by omega) (by omega)
  have g4 : vp_in (nI (k + 4)) u.2.2.1 := vp_in_nI (by omega) (by omega)
  have g5 : vp_in (nI (k + 5)) u.2.2.1 := vp_in_nI (by omega) (by omega)
  have n : ∀ {j : Int32}, ¬ 14 = j → ¬ (u.2.2.2 ((nI k).toNatClampNeg) &&& 63) = j := fun h q => h (hc.symm.trans q)
  unfold lwE
  rw [xe_L_law_10, la1 k, la2 k, la3 k, la4 k, la5 k, la6 k]
  refine xn (fun q => by rw [lw6 hL (by omega)] at q; omega) (xg (vp_in_nI (by omega) (by omega)) (xn (n (by decide)) (xn (n (by decide)) (xn (n (by decide)) (xn (n (by decide)) (xn (n (by decide)) (xn (n (by decide)) (xn (n (by decide)) (xn (n (by decide)) (xn (n (by decide)) (xn (n (by decide)) (xn (n (by decide)) (xn (n (by decide)) (xn (n (by decide)) (xn (n (by decide)) (xg hc (xg g1 (xg g2 (xg rfl (xbi e1 ?_))))))))))))))))))))
  rw [h1]
  exact xg g1 (xg g2 (xg rfl (xbi e2 (xg rfl e))))
theorem lw_c15 (hL : u.2.2.1 ≤ 3072) (hk : k + 6 ≤ u.2.2.1) (hR : Rel u) (hc : (u.2.2.2 ((nI k).toNatClampNeg) &&& 63) = 15) : ∃ u2, Rel u2 ∧ u2.2.2 = u.2.2 ∧ ∀ r, lwE (k + 6) u2 = some r → lwE k u = some r := by
  obtain ⟨r, u1, u2, e1, e2, hR2, h1, h2⟩ := same_i (S_billet (u.2.2.2 (nI (k + 1)).toNatClampNeg) (u.2.2.2 (nI (k + 2)).toNatClampNeg)) rc_67 hR
  refine ⟨u2, hR2, h2, fun r' e => ?_⟩
  have g1 : vp_in (nI (k + 1)) u.2.2.1 := vp_in_nI (by omega) (by omega)
  have g2 : vp_in (nI (k + 2)) u.2.2.1 := vp_in_nI (by omega) (by omega)
  have g3 : vp_in (nI (k + 3)) u.2.2.1 := vp_in_nI (by omega) (by omega)
  have g4 : vp_in (nI (k + 4)) u.2.2.1 := vp_in_nI (by omega) (by omega)
  have g5 : vp_in (nI (k + 5)) u.2.2.1 := vp_in_nI (by omega) (by omega)
  have n : ∀ {j : Int32}, ¬ 15 = j → ¬ (u.2.2.2 ((nI k).toNatClampNeg) &&& 63) = j := fun h q => h (hc.symm.trans q)
  unfold lwE
  rw [xe_L_law_10, la1 k, la2 k, la3 k, la4 k, la5 k, la6 k]
  refine xn (fun q => by rw [lw6 hL (by omega)] at q; omega) (xg (vp_in_nI (by omega) (by omega)) (xn (n (by decide)) (xn (n (by decide)) (xn (n (by decide)) (xn (n (by decide)) (xn (n (by decide)) (xn (n (by decide)) (xn (n (by decide)) (xn (n (by decide)) (xn (n (by decide)) (xn (n (by decide)) (xn (n (by decide)) (xn (n (by decide)) (xn (n (by decide)) (xn (n (by decide)) (xn (n (by decide)) (xg hc (xg g1 (xg g2 (xg rfl (xbi e1 ?_)))))))))))))))))))))
  rw [h1]
  exact xg g1 (xg g2 (xg rfl (xbi e2 (xg rfl e))))
theorem lw_c16 (hL : u.2.2.1 ≤ 3072) (hk : k + 6 ≤ u.2.2.1) (hR : Rel u) (hc : (u.2.2.2 ((nI k).toNatClampNeg) &&& 63) = 16) : ∃ u2, Rel u2 ∧ u2.2.2 = u.2.2 ∧ ∀ r, lwE (k + 6) u2 = some r → lwE k u = some r := by
  obtain ⟨r, u1, u2, e1, e2, hR2, h1, h2⟩ := same_i (S_kindFor (u.2.2.2 (nI (k + 1)).toNatClampNeg) (u.2.2.2 (nI (k + 2)).toNatClampNeg)) rc_68 hR
  refine ⟨u2, hR2, h2, fun r' e => ?_⟩
  have g1 : vp_in (nI (k + 1)) u.2.2.1 := vp_in_nI (by omega) (by omega)
  have g2 : vp_in (nI (k + 2)) u.2.2.1 := vp_in_nI (by omega) (by omega)
  have g3 : vp_in (nI (k + 3)) u.2.2.1 := vp_in_nI (by omega) (by omega)
  have g4 : vp_in (nI (k + 4)) u.2.2.1 := vp_in_nI (by omega) (by omega)
  have g5 : vp_in (nI (k + 5)) u.2.2.1 := vp_in_nI (by omega) (by omega)
  have n : ∀ {j : Int32}, ¬ 16 = j → ¬ (u.2.2.2 ((nI k).toNatClampNeg) &&& 63) = j := fun h q => h (hc.symm.trans q)
  unfold lwE
  rw [xe_L_law_10, la1 k, la2 k, la3 k, la4 k, la5 k, la6 k]
  refine xn (fun q => by rw [lw6 hL (by omega)] at q; omega) (xg (vp_in_nI (by omega) (by omega)) (xn (n (by decide)) (xn (n (by decide)) (xn (n (by decide)) (xn (n (by decide)) (xn (n (by decide)) (xn (n (by decide)) (xn (n (by decide)) (xn (n (by decide)) (xn (n (by decide)) (xn (n (by decide)) (xn (n (by decide)) (xn (n (by decide)) (xn (n (by decide)) (xn (n (by decide)) (xn (n (by decide)) (xn (n (by decide)) (xg hc (xg g1 (xg g2 (xg rfl (xbi e1 ?_))))))))))))))))))))))
  rw [h1]
  exact xg g1 (xg g2 (xg rfl (xbi e2 (xg rfl e))))
theorem lw_c17 (hL : u.2.2.1 ≤ 3072) (hk : k + 6 ≤ u.2.2.1) (hR : Rel u) (hc : (u.2.2.2 ((nI k).toNatClampNeg) &&& 63) = 17) : ∃ u2, Rel u2 ∧ u2.2.2 = u.2.2 ∧ ∀ r, lwE (k + 6) u2 = some r → lwE k u = some r := by
  obtain ⟨r, u1, u2, e1, e2, hR2, h1, h2⟩ := same_i (S_loudFor (u.2.2.2 (nI (k + 1)).toNatClampNeg) (u.2.2.2 (nI (k + 2)).toNatClampNeg) (u.2.2.2 (nI (k + 3)).toNatClampNeg)) rc_69 hR
  refine ⟨u2, hR2, h2, fun r' e => ?_⟩
  have g1 : vp_in (nI (k + 1)) u.2.2.1 := vp_in_nI (by omega) (by omega)
  have g2 : vp_in (nI (k + 2)) u.2.2.1 := vp_in_nI (by omega) (by omega)
  have g3 : vp_in (nI (k + 3)) u.2.2.1 := vp_in_nI (by omega) (by omega)
  have g4 : vp_in (nI (k + 4)) u.2.2.1 := vp_in_nI (by omega) (by omega)
  have g5 : vp_in (nI (k + 5)) u.2.2.1 := vp_in_nI (by omega) (by omega)
  have n : ∀ {j : Int32}, ¬ 17 = j → ¬ (u.2.2.2 ((nI k).toNatClampNeg) &&& 63) = j := fun h q => h (hc.symm.trans q)
  unfold lwE
  rw [xe_L_law_10, la1 k, la2 k, la3 k, la4 k, la5 k, la6 k]
  refine xn (fun q => by rw [lw6 hL (by omega)] at q; omega) (xg (vp_in_nI (by omega) (by omega)) (xn (n (by decide)) (xn (n (by decide)) (xn (n (by decide)) (xn (n (by decide)) (xn (n (by decide)) (xn (n (by decide)) (xn (n (by decide)) (xn (n (by decide)) (xn (n (by decide)) (xn (n (by decide)) (xn (n (by decide)) (xn (n (by decide)) (xn (n (by decide)) (xn (n (by decide)) (xn (n (by decide)) (xn (n (by decide)) (xn (n (by decide)) (xg hc (xg g1 (xg g2 (xg g3 (xg rfl (xbi e1 ?_))))))))))))))))))))))))
  rw [h1]
  exact xg g1 (xg g2 (xg g3 (xg rfl (xbi e2 (xg rfl e)))))
theorem lw_c18 (hL : u.2.2.1 ≤ 3072) (hk : k + 6 ≤ u.2.2.1) (hR : Rel u) (hc : (u.2.2.2 ((nI k).toNatClampNeg) &&& 63) = 18) : ∃ u2, Rel u2 ∧ u2.2.2 = u.2.2 ∧ ∀ r, lwE (k + 6) u2 = some r → lwE k u = some r := by
  obtain ⟨r, u1, u2, e1, e2, hR2, h1, h2⟩ := same_i (S_eachFor (u.2.2.2 (nI (k + 1)).toNatClampNeg)) rc_70 hR
  refine ⟨u2, hR2, h2, fun r' e => ?_⟩
  have g1 : vp_in (nI (k + 1)) u.2.2.1 := vp_in_nI (by omega) (by omega)
  have g2 : vp_in (nI (k + 2)) u.2.2.1 := vp_in_nI (by omega) (by omega)
  have g3 : vp_in (nI (k + 3)) u.2.2.1 := vp_in_nI (by omega) (by omega)
  have g4 : vp_in (nI (k + 4)) u.2.2.1 := vp_in_nI (by omega) (by omega)
  have g5 : vp_in (nI (k + 5)) u.2.2.1 := vp_in_nI (by omega) (by omega)
  have n : ∀ {j : Int32}, ¬ 18 = j → ¬ (u.2.2.2 ((nI k).toNatClampNeg) &&& 63) = j := fun h q => h (hc.symm.trans q)
  unfold lwE
  rw [xe_L_law_10, la1 k, la2 k, la3 k, la4 k, la5 k, la6 k]
  refine xn (fun q => by rw [lw6 hL (by omega)] at q; omega) (xg (vp_in_nI (by omega) (by omega)) (xn (n (by decide)) (xn (n (by decide)) (xn (n (by decide)) (xn (n (by decide)) (xn (n (by decide)) (xn (n (by decide)) (xn (n (by decide)) (xn (n (by decide)) (xn (n (by decide)) (xn (n (by decide)) (xn (n (by decide)) (xn (n (by decide)) (xn (n (by decide)) (xn (n (by decide)) (xn (n (by decide)) (xn (n (by decide)) (xn (n (by decide)) (xn (n (by decide)) (xg hc (xg g1 (xg rfl (xbi e1 ?_)))))))))))))))))))))))
  rw [h1]
  exact xg g1 (xg rfl (xbi e2 (xg rfl e)))
theorem lw_c19 (hL : u.2.2.1 ≤ 3072) (hk : k + 6 ≤ u.2.2.1) (hR : Rel u) (hc : (u.2.2.2 ((nI k).toNatClampNeg) &&& 63) = 19) : ∃ u2, Rel u2 ∧ u2.2.2 = u.2.2 ∧ ∀ r, lwE (k + 6) u2 = some r → lwE k u = some r := by
  obtain ⟨r, u1, u2, e1, e2, hR2, h1, h2⟩ := same_i (S_moveAll (u.2.2.2 (nI (k + 1)).toNatClampNeg) (u.2.2.2 (nI (k + 2)).toNatClampNeg)) rc_71 hR
  refine ⟨u2, hR2, h2, fun r' e => ?_⟩
  have g1 : vp_in (nI (k + 1)) u.2.2.1 := vp_in_nI (by omega) (by omega)
  have g2 : vp_in (nI (k + 2)) u.2.2.1 := vp_in_nI (by omega) (by omega)
  have g3 : vp_in (nI (k + 3)) u.2.2.1 := vp_in_nI (by omega) (by omega)
  have g4 : vp_in (nI (k + 4)) u.2.2.1 := vp_in_nI (by omega) (by omega)
  have g5 : vp_in (nI (k + 5)) u.2.2.1 := vp_in_nI (by omega) (by omega)
  have n : ∀ {j : Int32}, ¬ 19 = j → ¬ (u.2.2.2 ((nI k).toNatClampNeg) &&& 63) = j := fun h q => h (hc.symm.trans q)
  unfold lwE
  rw [xe_L_law_10, la1 k, la2 k, la3 k, la4 k, la5 k, la6 k]
  refine xn (fun q => by rw [lw6 hL (by omega)] at q; omega) (xg (vp_in_nI (by omega) (by omega)) (xn (n (by decide)) (xn (n (by decide)) (xn (n (by decide)) (xn (n (by decide)) (xn (n (by decide)) (xn (n (by decide)) (xn (n (by decide)) (xn (n (by decide)) (xn (n (by decide)) (xn (n (by decide)) (xn (n (by decide)) (xn (n (by decide)) (xn (n (by decide)) (xn (n (by decide)) (xn (n (by decide)) (xn (n (by decide)) (xn (n (by decide)) (xn (n (by decide)) (xn (n (by decide)) (xg hc (xg g1 (xg g2 (xg rfl (xbi e1 ?_)))))))))))))))))))))))))
  rw [h1]
  exact xg g1 (xg g2 (xg rfl (xbi e2 (xg rfl e))))
theorem lw_c20 (hL : u.2.2.1 ≤ 3072) (hk : k + 6 ≤ u.2.2.1) (hR : Rel u) (hc : (u.2.2.2 ((nI k).toNatClampNeg) &&& 63) = 20) : ∃ u2, Rel u2 ∧ u2.2.2 = u.2.2 ∧ ∀ r, lwE (k + 6) u2 = some r → lwE k u = some r := by
  obtain ⟨r, u1, u2, e1, e2, hR2, h1, h2⟩ := same_i (S_fits (u.2.2.2 (nI (k + 1)).toNatClampNeg) (u.2.2.2 (nI (k + 2)).toNatClampNeg)) rc_72 hR
  refine ⟨u2, hR2, h2, fun r' e => ?_⟩
  have g1 : vp_in (nI (k + 1)) u.2.2.1 := vp_in_nI (by omega) (by omega)
  have g2 : vp_in (nI (k + 2)) u.2.2.1 := vp_in_nI (by omega) (by omega)
  have g3 : vp_in (nI (k + 3)) u.2.2.1 := vp_in_nI (by omega) (by omega)
  have g4 : vp_in (nI (k + 4)) u.2.2.1 := vp_in_nI (by omega) (by omega)
  have g5 : vp_in (nI (k + 5)) u.2.2.1 := vp_in_nI (by omega) (by omega)
  have n : ∀ {j : Int32}, ¬ 20 = j → ¬ (u.2.2.2 ((nI k).toNatClampNeg) &&& 63) = j := fun h q => h (hc.symm.trans q)
  unfold lwE
  rw [xe_L_law_10, la1 k, la2 k, la3 k, la4 k, la5 k, la6 k]
  refine xn (fun q => by rw [lw6 hL (by omega)] at q; omega) (xg (vp_in_nI (by omega) (by omega)) (xn (n (by decide)) (xn (n (by decide)) (xn (n (by decide)) (xn (n (by decide)) (xn (n (by decide)) (xn (n (by decide)) (xn (n (by decide)) (xn (n (by decide)) (xn (n (by decide)) (xn (n (by decide)) (xn (n (by decide)) (xn (n (by decide)) (xn (n (by decide)) (xn (n (by decide)) (xn (n (by decide)) (xn (n (by decide)) (xn (n (by decide)) (xn (n (by decide)) (xn (n (by decide)) (xn (n (by decide)) (xg hc (xg g1 (xg g2 (xg rfl (xbi e1 ?_))))))))))))))))))))))))))
  rw [h1]
  exact xg g1 (xg g2 (xg rfl (xbi e2 (xg rfl e))))
theorem lw_c21 (hL : u.2.2.1 ≤ 3072) (hk : k + 6 ≤ u.2.2.1) (hR : Rel u) (hc : (u.2.2.2 ((nI k).toNatClampNeg) &&& 63) = 21) : ∃ u2, Rel u2 ∧ u2.2.2 = u.2.2 ∧ ∀ r, lwE (k + 6) u2 = some r → lwE k u = some r := by
  obtain ⟨r, u1, u2, e1, e2, hR2, h1, h2⟩ := same_i (S_kinds (u.2.2.2 (nI (k + 1)).toNatClampNeg) (u.2.2.2 (nI (k + 2)).toNatClampNeg)) rc_73 hR
  refine ⟨u2, hR2, h2, fun r' e => ?_⟩
  have g1 : vp_in (nI (k + 1)) u.2.2.1 := vp_in_nI (by omega) (by omega)
  have g2 : vp_in (nI (k + 2)) u.2.2.1 := vp_in_nI (by omega) (by omega)
  have g3 : vp_in (nI (k + 3)) u.2.2.1 := vp_in_nI (by omega) (by omega)
  have g4 : vp_in (nI (k + 4)) u.2.2.1 := vp_in_nI (by omega) (by omega)
  have g5 : vp_in (nI (k + 5)) u.2.2.1 := vp_in_nI (by omega) (by omega)
  have n : ∀ {j : Int32}, ¬ 21 = j → ¬ (u.2.2.2 ((nI k).toNatClampNeg) &&& 63) = j := fun h q => h (hc.symm.trans q)
  unfold lwE
  rw [xe_L_law_10, la1 k, la2 k, la3 k, la4 k, la5 k, la6 k]
  refine xn (fun q => by rw [lw6 hL (by omega)] at q; omega) (xg (vp_in_nI (by omega) (by omega)) (xn (n (by decide)) (xn (n (by decide)) (xn (n (by decide)) (xn (n (by decide)) (xn (n (by decide)) (xn (n (by decide)) (xn (n (by decide)) (xn (n (by decide)) (xn (n (by decide)) (xn (n (by decide)) (xn (n (by decide)) (xn (n (by decide)) (xn (n (by decide)) (xn (n (by decide)) (xn (n (by decide)) (xn (n (by decide)) (xn (n (by decide)) (xn (n (by decide)) (xn (n (by decide)) (xn (n (by decide)) (xn (n (by decide)) (xg hc (xg g1 (xg g2 (xg rfl (xbi e1 ?_)))))))))))))))))))))))))))
  rw [h1]
  exact xg g1 (xg g2 (xg rfl (xbi e2 (xg rfl e))))
theorem lw_c22 (hL : u.2.2.1 ≤ 3072) (hk : k + 6 ≤ u.2.2.1) (hR : Rel u) (hc : (u.2.2.2 ((nI k).toNatClampNeg) &&& 63) = 22) : ∃ u2, Rel u2 ∧ u2.2.2 = u.2.2 ∧ ∀ r, lwE (k + 6) u2 = some r → lwE k u = some r := by
  obtain ⟨r, u1, u2, e1, e2, hR2, h1, h2⟩ := same_i (S_feuds (u.2.2.2 (nI (k + 1)).toNatClampNeg)) rc_74 hR
  refine ⟨u2, hR2, h2, fun r' e => ?_⟩
  have g1 : vp_in (nI (k + 1)) u.2.2.1 := vp_in_nI (by omega) (by omega)
  have g2 : vp_in (nI (k + 2)) u.2.2.1 := vp_in_nI (by omega) (by omega)
  have g3 : vp_in (nI (k + 3)) u.2.2.1 := vp_in_nI (by omega) (by omega)
  have g4 : vp_in (nI (k + 4)) u.2.2.1 := vp_in_nI (by omega) (by omega)
  have g5 : vp_in (nI (k + 5)) u.2.2.1 := vp_in_nI (by omega) (by omega)
  have n : ∀ {j : Int32}, ¬ 22 = j → ¬ (u.2.2.2 ((nI k).toNatClampNeg) &&& 63) = j := fun h q => h (hc.symm.trans q)
  unfold lwE
  rw [xe_L_law_10, la1 k, la2 k, la3 k, la4 k, la5 k, la6 k]
  refine xn (fun q => by rw [lw6 hL (by omega)] at q; omega) (xg (vp_in_nI (by omega) (by omega)) (xn (n (by decide)) (xn (n (by decide)) (xn (n (by decide)) (xn (n (by decide)) (xn (n (by decide)) (xn (n (by decide)) (xn (n (by decide)) (xn (n (by decide)) (xn (n (by decide)) (xn (n (by decide)) (xn (n (by decide)) (xn (n (by decide)) (xn (n (by decide)) (xn (n (by decide)) (xn (n (by decide)) (xn (n (by decide)) (xn (n (by decide)) (xn (n (by decide)) (xn (n (by decide)) (xn (n (by decide)) (xn (n (by decide)) (xn (n (by decide)) (xg hc (xg g1 (xg rfl (xbi e1 ?_)))))))))))))))))))))))))))
  rw [h1]
  exact xg g1 (xg rfl (xbi e2 (xg rfl e)))
theorem lw_c23 (hL : u.2.2.1 ≤ 3072) (hk : k + 6 ≤ u.2.2.1) (hR : Rel u) (hc : (u.2.2.2 ((nI k).toNatClampNeg) &&& 63) = 23) : ∃ u2, Rel u2 ∧ u2.2.2 = u.2.2 ∧ ∀ r, lwE (k + 6) u2 = some r → lwE k u = some r := by
  obtain ⟨r, u1, u2, e1, e2, hR2, h1, h2⟩ := same_l (S_odds (u.2.2.2 (nI (k + 1)).toNatClampNeg) (u.2.2.2 (nI (k + 2)).toNatClampNeg) (u.2.2.2 (nI (k + 3)).toNatClampNeg) (u.2.2.2 (nI (k + 4)).toNatClampNeg)) rc_75 hR
  refine ⟨u2, hR2, h2, fun r' e => ?_⟩
  have g1 : vp_in (nI (k + 1)) u.2.2.1 := vp_in_nI (by omega) (by omega)
  have g2 : vp_in (nI (k + 2)) u.2.2.1 := vp_in_nI (by omega) (by omega)
  have g3 : vp_in (nI (k + 3)) u.2.2.1 := vp_in_nI (by omega) (by omega)
  have g4 : vp_in (nI (k + 4)) u.2.2.1 := vp_in_nI (by omega) (by omega)
  have g5 : vp_in (nI (k + 5)) u.2.2.1 := vp_in_nI (by omega) (by omega)
  have n : ∀ {j : Int32}, ¬ 23 = j → ¬ (u.2.2.2 ((nI k).toNatClampNeg) &&& 63) = j := fun h q => h (hc.symm.trans q)
  unfold lwE
  rw [xe_L_law_10, la1 k, la2 k, la3 k, la4 k, la5 k, la6 k]
  refine xn (fun q => by rw [lw6 hL (by omega)] at q; omega) (xg (vp_in_nI (by omega) (by omega)) (xn (n (by decide)) (xn (n (by decide)) (xn (n (by decide)) (xn (n (by decide)) (xn (n (by decide)) (xn (n (by decide)) (xn (n (by decide)) (xn (n (by decide)) (xn (n (by decide)) (xn (n (by decide)) (xn (n (by decide)) (xn (n (by decide)) (xn (n (by decide)) (xn (n (by decide)) (xn (n (by decide)) (xn (n (by decide)) (xn (n (by decide)) (xn (n (by decide)) (xn (n (by decide)) (xn (n (by decide)) (xn (n (by decide)) (xn (n (by decide)) (xn (n (by decide)) (xg hc (xg g1 (xg g2 (xg g3 (xg g4 (xg rfl (xbl e1 ?_)))))))))))))))))))))))))))))))
  rw [h1]
  exact xg g1 (xg g2 (xg g3 (xg g4 (xg rfl (xbl e2 (xg (lg_eq _) e))))))
theorem lw_c24 (hL : u.2.2.1 ≤ 3072) (hk : k + 6 ≤ u.2.2.1) (hR : Rel u) (hc : (u.2.2.2 ((nI k).toNatClampNeg) &&& 63) = 24) : ∃ u2, Rel u2 ∧ u2.2.2 = u.2.2 ∧ ∀ r, lwE (k + 6) u2 = some r → lwE k u = some r := by
  obtain ⟨r, u1, u2, e1, e2, hR2, h1, h2⟩ := same_i (S_seed (u.2.2.2 (nI (k + 1)).toNatClampNeg)) rc_76 hR
  refine ⟨u2, hR2, h2, fun r' e => ?_⟩
  have g1 : vp_in (nI (k + 1)) u.2.2.1 := vp_in_nI (by omega) (by omega)
  have g2 : vp_in (nI (k + 2)) u.2.2.1 := vp_in_nI (by omega) (by omega)
  have g3 : vp_in (nI (k + 3)) u.2.2.1 := vp_in_nI (by omega) (by omega)
  have g4 : vp_in (nI (k + 4)) u.2.2.1 := vp_in_nI (by omega) (by omega)
  have g5 : vp_in (nI (k + 5)) u.2.2.1 := vp_in_nI (by omega) (by omega)
  have n : ∀ {j : Int32}, ¬ 24 = j → ¬ (u.2.2.2 ((nI k).toNatClampNeg) &&& 63) = j := fun h q => h (hc.symm.trans q)
  unfold lwE
  rw [xe_L_law_10, la1 k, la2 k, la3 k, la4 k, la5 k, la6 k]
  refine xn (fun q => by rw [lw6 hL (by omega)] at q; omega) (xg (vp_in_nI (by omega) (by omega)) (xn (n (by decide)) (xn (n (by decide)) (xn (n (by decide)) (xn (n (by decide)) (xn (n (by decide)) (xn (n (by decide)) (xn (n (by decide)) (xn (n (by decide)) (xn (n (by decide)) (xn (n (by decide)) (xn (n (by decide)) (xn (n (by decide)) (xn (n (by decide)) (xn (n (by decide)) (xn (n (by decide)) (xn (n (by decide)) (xn (n (by decide)) (xn (n (by decide)) (xn (n (by decide)) (xn (n (by decide)) (xn (n (by decide)) (xn (n (by decide)) (xn (n (by decide)) (xn (n (by decide)) (xg hc (xg g1 (xg rfl (xbi e1 ?_)))))))))))))))))))))))))))))
  rw [h1]
  exact xg g1 (xg rfl (xbi e2 (xg rfl e)))
theorem lw_c25 (hL : u.2.2.1 ≤ 3072) (hk : k + 6 ≤ u.2.2.1) (hR : Rel u) (hc : (u.2.2.2 ((nI k).toNatClampNeg) &&& 63) = 25) : ∃ u2, Rel u2 ∧ u2.2.2 = u.2.2 ∧ ∀ r, lwE (k + 6) u2 = some r → lwE k u = some r := by
  obtain ⟨r, u1, u2, e1, e2, hR2, h1, h2⟩ := same_i (S_feed (u.2.2.2 (nI (k + 1)).toNatClampNeg) (u.2.2.2 (nI (k + 2)).toNatClampNeg)) rc_77 hR
  refine ⟨u2, hR2, h2, fun r' e => ?_⟩
  have g1 : vp_in (nI (k + 1)) u.2.2.1 := vp_in_nI (by omega) (by omega)
  have g2 : vp_in (nI (k + 2)) u.2.2.1 := vp_in_nI (by omega) (by omega)
  have g3 : vp_in (nI (k + 3)) u.2.2.1 := vp_in_nI (by omega) (by omega)
  have g4 : vp_in (nI (k + 4)) u.2.2.1 := vp_in_nI (by omega) (by omega)
  have g5 : vp_in (nI (k + 5)) u.2.2.1 := vp_in_nI (by omega) (by omega)
  have n : ∀ {j : Int32}, ¬ 25 = j → ¬ (u.2.2.2 ((nI k).toNatClampNeg) &&& 63) = j := fun h q => h (hc.symm.trans q)
  unfold lwE
  rw [xe_L_law_10, la1 k, la2 k, la3 k, la4 k, la5 k, la6 k]
  refine xn (fun q => by rw [lw6 hL (by omega)] at q; omega) (xg (vp_in_nI (by omega) (by omega)) (xn (n (by decide)) (xn (n (by decide)) (xn (n (by decide)) (xn (n (by decide)) (xn (n (by decide)) (xn (n (by decide)) (xn (n (by decide)) (xn (n (by decide)) (xn (n (by decide)) (xn (n (by decide)) (xn (n (by decide)) (xn (n (by decide)) (xn (n (by decide)) (xn (n (by decide)) (xn (n (by decide)) (xn (n (by decide)) (xn (n (by decide)) (xn (n (by decide)) (xn (n (by decide)) (xn (n (by decide)) (xn (n (by decide)) (xn (n (by decide)) (xn (n (by decide)) (xn (n (by decide)) (xn (n (by decide)) (xg hc (xg g1 (xg g2 (xg rfl (xbi e1 ?_)))))))))))))))))))))))))))))))
  rw [h1]
  exact xg g1 (xg g2 (xg rfl (xbi e2 (xg rfl e))))
theorem lw_c26 (hL : u.2.2.1 ≤ 3072) (hk : k + 6 ≤ u.2.2.1) (hR : Rel u) (hc : (u.2.2.2 ((nI k).toNatClampNeg) &&& 63) = 26) : ∃ u2, Rel u2 ∧ u2.2.2 = u.2.2 ∧ ∀ r, lwE (k + 6) u2 = some r → lwE k u = some r := by
  obtain ⟨r, u1, u2, e1, e2, hR2, h1, h2⟩ := same_i (S_wipe ) rc_78 hR
  refine ⟨u2, hR2, h2, fun r' e => ?_⟩
  have g1 : vp_in (nI (k + 1)) u.2.2.1 := vp_in_nI (by omega) (by omega)
  have g2 : vp_in (nI (k + 2)) u.2.2.1 := vp_in_nI (by omega) (by omega)
  have g3 : vp_in (nI (k + 3)) u.2.2.1 := vp_in_nI (by omega) (by omega)
  have g4 : vp_in (nI (k + 4)) u.2.2.1 := vp_in_nI (by omega) (by omega)
  have g5 : vp_in (nI (k + 5)) u.2.2.1 := vp_in_nI (by omega) (by omega)
  have n : ∀ {j : Int32}, ¬ 26 = j → ¬ (u.2.2.2 ((nI k).toNatClampNeg) &&& 63) = j := fun h q => h (hc.symm.trans q)
  unfold lwE
  rw [xe_L_law_10, la1 k, la2 k, la3 k, la4 k, la5 k, la6 k]
  refine xn (fun q => by rw [lw6 hL (by omega)] at q; omega) (xg (vp_in_nI (by omega) (by omega)) (xn (n (by decide)) (xn (n (by decide)) (xn (n (by decide)) (xn (n (by decide)) (xn (n (by decide)) (xn (n (by decide)) (xn (n (by decide)) (xn (n (by decide)) (xn (n (by decide)) (xn (n (by decide)) (xn (n (by decide)) (xn (n (by decide)) (xn (n (by decide)) (xn (n (by decide)) (xn (n (by decide)) (xn (n (by decide)) (xn (n (by decide)) (xn (n (by decide)) (xn (n (by decide)) (xn (n (by decide)) (xn (n (by decide)) (xn (n (by decide)) (xn (n (by decide)) (xn (n (by decide)) (xn (n (by decide)) (xn (n (by decide)) (xg hc (xg rfl (xbi e1 ?_))))))))))))))))))))))))))))))
  exact xg rfl (xbi e2 (xg rfl e))
theorem lw_c27 (hL : u.2.2.1 ≤ 3072) (hk : k + 6 ≤ u.2.2.1) (hR : Rel u) (hc : (u.2.2.2 ((nI k).toNatClampNeg) &&& 63) = 27) : ∃ u2, Rel u2 ∧ u2.2.2 = u.2.2 ∧ ∀ r, lwE (k + 6) u2 = some r → lwE k u = some r := by
  obtain ⟨r, u1, u2, e1, e2, hR2, h1, h2⟩ := same_i (S_text ) rc_79 hR
  refine ⟨u2, hR2, h2, fun r' e => ?_⟩
  have g1 : vp_in (nI (k + 1)) u.2.2.1 := vp_in_nI (by omega) (by omega)
  have g2 : vp_in (nI (k + 2)) u.2.2.1 := vp_in_nI (by omega) (by omega)
  have g3 : vp_in (nI (k + 3)) u.2.2.1 := vp_in_nI (by omega) (by omega)
  have g4 : vp_in (nI (k + 4)) u.2.2.1 := vp_in_nI (by omega) (by omega)
  have g5 : vp_in (nI (k + 5)) u.2.2.1 := vp_in_nI (by omega) (by omega)
  have n : ∀ {j : Int32}, ¬ 27 = j → ¬ (u.2.2.2 ((nI k).toNatClampNeg) &&& 63) = j := fun h q => h (hc.symm.trans q)
  unfold lwE
  rw [xe_L_law_10, la1 k, la2 k, la3 k, la4 k, la5 k, la6 k]
  refine xn (fun q => by rw [lw6 hL (by omega)] at q; omega) (xg (vp_in_nI (by omega) (by omega)) (xn (n (by decide)) (xn (n (by decide)) (xn (n (by decide)) (xn (n (by decide)) (xn (n (by decide)) (xn (n (by decide)) (xn (n (by decide)) (xn (n (by decide)) (xn (n (by decide)) (xn (n (by decide)) (xn (n (by decide)) (xn (n (by decide)) (xn (n (by decide)) (xn (n (by decide)) (xn (n (by decide)) (xn (n (by decide)) (xn (n (by decide)) (xn (n (by decide)) (xn (n (by decide)) (xn (n (by decide)) (xn (n (by decide)) (xn (n (by decide)) (xn (n (by decide)) (xn (n (by decide)) (xn (n (by decide)) (xn (n (by decide)) (xn (n (by decide)) (xg hc (xg rfl (xbi e1 ?_)))))))))))))))))))))))))))))))
  exact xg rfl (xbi e2 (xg rfl e))
theorem lw_c28 (hL : u.2.2.1 ≤ 3072) (hk : k + 6 ≤ u.2.2.1) (hR : Rel u) (hc : (u.2.2.2 ((nI k).toNatClampNeg) &&& 63) = 28) : ∃ u2, Rel u2 ∧ u2.2.2 = u.2.2 ∧ ∀ r, lwE (k + 6) u2 = some r → lwE k u = some r := by
  obtain ⟨r, u1, u2, e1, e2, hR2, h1, h2⟩ := same_i (S_hold (u.2.2.2 (nI (k + 1)).toNatClampNeg) (u.2.2.2 (nI (k + 2)).toNatClampNeg)) rc_80 hR
  refine ⟨u2, hR2, h2, fun r' e => ?_⟩
  have g1 : vp_in (nI (k + 1)) u.2.2.1 := vp_in_nI (by omega) (by omega)
  have g2 : vp_in (nI (k + 2)) u.2.2.1 := vp_in_nI (by omega) (by omega)
  have g3 : vp_in (nI (k + 3)) u.2.2.1 := vp_in_nI (by omega) (by omega)
  have g4 : vp_in (nI (k + 4)) u.2.2.1 := vp_in_nI (by omega) (by omega)
  have g5 : vp_in (nI (k + 5)) u.2.2.1 := vp_in_nI (by omega) (by omega)
  have n : ∀ {j : Int32}, ¬ 28 = j → ¬ (u.2.2.2 ((nI k).toNatClampNeg) &&& 63) = j := fun h q => h (hc.symm.trans q)
  unfold lwE
  rw [xe_L_law_10, la1 k, la2 k, la3 k, la4 k, la5 k, la6 k]
  refine xn (fun q => by rw [lw6 hL (by omega)] at q; omega) (xg (vp_in_nI (by omega) (by omega)) (xn (n (by decide)) (xn (n (by decide)) (xn (n (by decide)) (xn (n (by decide)) (xn (n (by decide)) (xn (n (by decide)) (xn (n (by decide)) (xn (n (by decide)) (xn (n (by decide)) (xn (n (by decide)) (xn (n (by decide)) (xn (n (by decide)) (xn (n (by decide)) (xn (n (by decide)) (xn (n (by decide)) (xn (n (by decide)) (xn (n (by decide)) (xn (n (by decide)) (xn (n (by decide)) (xn (n (by decide)) (xn (n (by decide)) (xn (n (by decide)) (xn (n (by decide)) (xn (n (by decide)) (xn (n (by decide)) (xn (n (by decide)) (xn (n (by decide)) (xn (n (by decide)) (xg hc (xg g1 (xg g2 (xg rfl (xbi e1 ?_))))))))))))))))))))))))))))))))))
  rw [h1]
  exact xg g1 (xg g2 (xg rfl (xbi e2 (xg rfl e))))
theorem lw_c29 (hL : u.2.2.1 ≤ 3072) (hk : k + 6 ≤ u.2.2.1) (hR : Rel u) (hc : (u.2.2.2 ((nI k).toNatClampNeg) &&& 63) = 29) : ∃ u2, Rel u2 ∧ u2.2.2 = u.2.2 ∧ ∀ r, lwE (k + 6) u2 = some r → lwE k u = some r := by
  obtain ⟨r, u1, u2, e1, e2, hR2, h1, h2⟩ := same_i (S_as (u.2.2.2 (nI (k + 1)).toNatClampNeg) (u.2.2.2 (nI (k + 2)).toNatClampNeg)) rc_81 hR
  refine ⟨u2, hR2, h2, fun r' e => ?_⟩
  have g1 : vp_in (nI (k + 1)) u.2.2.1 := vp_in_nI (by omega) (by omega)
  have g2 : vp_in (nI (k + 2)) u.2.2.1 := vp_in_nI (by omega) (by omega)
  have g3 : vp_in (nI (k + 3)) u.2.2.1 := vp_in_nI (by omega) (by omega)
  have g4 : vp_in (nI (k + 4)) u.2.2.1 := vp_in_nI (by omega) (by omega)
  have g5 : vp_in (nI (k + 5)) u.2.2.1 := vp_in_nI (by omega) (by omega)
  have n : ∀ {j : Int32}, ¬ 29 = j → ¬ (u.2.2.2 ((nI k).toNatClampNeg) &&& 63) = j := fun h q => h (hc.symm.trans q)
  unfold lwE
  rw [xe_L_law_10, la1 k, la2 k, la3 k, la4 k, la5 k, la6 k]
  refine xn (fun q => by rw [lw6 hL (by omega)] at q; omega) (xg (vp_in_nI (by omega) (by omega)) (xn (n (by decide)) (xn (n (by decide)) (xn (n (by decide)) (xn (n (by decide)) (xn (n (by decide)) (xn (n (by decide)) (xn (n (by decide)) (xn (n (by decide)) (xn (n (by decide)) (xn (n (by decide)) (xn (n (by decide)) (xn (n (by decide)) (xn (n (by decide)) (xn (n (by decide)) (xn (n (by decide)) (xn (n (by decide)) (xn (n (by decide)) (xn (n (by decide)) (xn (n (by decide)) (xn (n (by decide)) (xn (n (by decide)) (xn (n (by decide)) (xn (n (by decide)) (xn (n (by decide)) (xn (n (by decide)) (xn (n (by decide)) (xn (n (by decide)) (xn (n (by decide)) (xn (n (by decide)) (xg hc (xg g1 (xg g2 (xg rfl (xbi e1 ?_)))))))))))))))))))))))))))))))))))
  rw [h1]
  exact xg g1 (xg g2 (xg rfl (xbi e2 (xg rfl e))))
theorem lw_c30 (hL : u.2.2.1 ≤ 3072) (hk : k + 6 ≤ u.2.2.1) (hR : Rel u) (hc : (u.2.2.2 ((nI k).toNatClampNeg) &&& 63) = 30) : ∃ u2, Rel u2 ∧ u2.2.2 = u.2.2 ∧ ∀ r, lwE (k + 6) u2 = some r → lwE k u = some r := by
  obtain ⟨r, u1, u2, e1, e2, hR2, h1, h2⟩ := same_i (S_sheet (u.2.2.2 (nI (k + 1)).toNatClampNeg) (u.2.2.2 (nI (k + 2)).toNatClampNeg) (u.2.2.2 (nI (k + 3)).toNatClampNeg)) rc_82 hR
  refine ⟨u2, hR2, h2, fun r' e => ?_⟩
  have g1 : vp_in (nI (k + 1)) u.2.2.1 := vp_in_nI (by omega) (by omega)
  have g2 : vp_in (nI (k + 2)) u.2.2.1 := vp_in_nI (by omega) (by omega)
  have g3 : vp_in (nI (k + 3)) u.2.2.1 := vp_in_nI (by omega) (by omega)
  have g4 : vp_in (nI (k + 4)) u.2.2.1 := vp_in_nI (by omega) (by omega)
  have g5 : vp_in (nI (k + 5)) u.2.2.1 := vp_in_nI (by omega) (by omega)
  have n : ∀ {j : Int32}, ¬ 30 = j → ¬ (u.2.2.2 ((nI k).toNatClampNeg) &&& 63) = j := fun h q => h (hc.symm.trans q)
  unfold lwE
  rw [xe_L_law_10, la1 k, la2 k, la3 k, la4 k, la5 k, la6 k]
  refine xn (fun q => by rw [lw6 hL (by omega)] at q; omega) (xg (vp_in_nI (by omega) (by omega)) (xn (n (by decide)) (xn (n (by decide)) (xn (n (by decide)) (xn (n (by decide)) (xn (n (by decide)) (xn (n (by decide)) (xn (n (by decide)) (xn (n (by decide)) (xn (n (by decide)) (xn (n (by decide)) (xn (n (by decide)) (xn (n (by decide)) (xn (n (by decide)) (xn (n (by decide)) (xn (n (by decide)) (xn (n (by decide)) (xn (n (by decide)) (xn (n (by decide)) (xn (n (by decide)) (xn (n (by decide)) (xn (n (by decide)) (xn (n (by decide)) (xn (n (by decide)) (xn (n (by decide)) (xn (n (by decide)) (xn (n (by decide)) (xn (n (by decide)) (xn (n (by decide)) (xn (n (by decide)) (xn (n (by decide)) (xg hc (xg g1 (xg g2 (xg g3 (xg rfl (xbi e1 ?_)))))))))))))))))))))))))))))))))))))
  rw [h1]
  exact xg g1 (xg g2 (xg g3 (xg rfl (xbi e2 (xg rfl e)))))
theorem lw_c31 (hL : u.2.2.1 ≤ 3072) (hk : k + 6 ≤ u.2.2.1) (hR : Rel u) (hc : (u.2.2.2 ((nI k).toNatClampNeg) &&& 63) = 31) : ∃ u2, Rel u2 ∧ u2.2.2 = u.2.2 ∧ ∀ r, lwE (k + 6) u2 = some r → lwE k u = some r := by
  obtain ⟨r, u1, u2, e1, e2, hR2, h1, h2⟩ := same_i (S_write (u.2.2.2 (nI (k + 1)).toNatClampNeg) (u.2.2.2 (nI (k + 2)).toNatClampNeg) (u.2.2.2 (nI (k + 3)).toNatClampNeg)) rc_83 hR
  refine ⟨u2, hR2, h2, fun r' e => ?_⟩
  have g1 : vp_in (nI (k + 1)) u.2.2.1 := vp_in_nI (by omega) (by omega)
  have g2 : vp_in (nI (k + 2)) u.2.2.1 := vp_in_nI (by omega) (by omega)
  have g3 : vp_in (nI (k + 3)) u.2.2.1 := vp_in_nI (by omega) (by omega)
  have g4 : vp_in (nI (k + 4)) u.2.2.1 := vp_in_nI (by omega) (by omega)
  have g5 : vp_in (nI (k + 5)) u.2.2.1 := vp_in_nI (by omega) (by omega)
  have n : ∀ {j : Int32}, ¬ 31 = j → ¬ (u.2.2.2 ((nI k).toNatClampNeg) &&& 63) = j := fun h q => h (hc.symm.trans q)
  unfold lwE
  rw [xe_L_law_10, la1 k, la2 k, la3 k, la4 k, la5 k, la6 k]
  refine xn (fun q => by rw [lw6 hL (by omega)] at q; omega) (xg (vp_in_nI (by omega) (by omega)) (xn (n (by decide)) (xn (n (by decide)) (xn (n (by decide)) (xn (n (by decide)) (xn (n (by decide)) (xn (n (by decide)) (xn (n (by decide)) (xn (n (by decide)) (xn (n (by decide)) (xn (n (by decide)) (xn (n (by decide)) (xn (n (by decide)) (xn (n (by decide)) (xn (n (by decide)) (xn (n (by decide)) (xn (n (by decide)) (xn (n (by decide)) (xn (n (by decide)) (xn (n (by decide)) (xn (n (by decide)) (xn (n (by decide)) (xn (n (by decide)) (xn (n (by decide)) (xn (n (by decide)) (xn (n (by decide)) (xn (n (by decide)) (xn (n (by decide)) (xn (n (by decide)) (xn (n (by decide)) (xn (n (by decide)) (xn (n (by decide)) (xg hc (xg g1 (xg g2 (xg g3 (xg rfl (xbi e1 ?_))))))))))))))))))))))))))))))))))))))
  rw [h1]
  exact xg g1 (xg g2 (xg g3 (xg rfl (xbi e2 (xg rfl e)))))
theorem lw_c32 (hL : u.2.2.1 ≤ 3072) (hk : k + 6 ≤ u.2.2.1) (hR : Rel u) (hc : (u.2.2.2 ((nI k).toNatClampNeg) &&& 63) = 32) : ∃ u2, Rel u2 ∧ u2.2.2 = u.2.2 ∧ ∀ r, lwE (k + 6) u2 = some r → lwE k u = some r := by
  obtain ⟨r, u1, u2, e1, e2, hR2, h1, h2⟩ := same_i (S_copy (u.2.2.2 (nI (k + 1)).toNatClampNeg) (u.2.2.2 (nI (k + 2)).toNatClampNeg) (u.2.2.2 (nI (k + 3)).toNatClampNeg) (u.2.2.2 (nI (k + 4)).toNatClampNeg) (u.2.2.2 (nI (k + 5)).toNatClampNeg)) rc_84 hR
  refine ⟨u2, hR2, h2, fun r' e => ?_⟩
  have g1 : vp_in (nI (k + 1)) u.2.2.1 := vp_in_nI (by omega) (by omega)
  have g2 : vp_in (nI (k + 2)) u.2.2.1 := vp_in_nI (by omega) (by omega)
  have g3 : vp_in (nI (k + 3)) u.2.2.1 := vp_in_nI (by omega) (by omega)
  have g4 : vp_in (nI (k + 4)) u.2.2.1 := vp_in_nI (by omega) (by omega)
  have g5 : vp_in (nI (k + 5)) u.2.2.1 := vp_in_nI (by omega) (by omega)
  have n : ∀ {j : Int32}, ¬ 32 = j → ¬ (u.2.2.2 ((nI k).toNatClampNeg) &&& 63) = j := fun h q => h (hc.symm.trans q)
  unfold lwE
  rw [xe_L_law_10, la1 k, la2 k, la3 k, la4 k, la5 k, la6 k]
  refine xn (fun q => by rw [lw6 hL (by omega)] at q; omega) (xg (vp_in_nI (by omega) (by omega)) (xn (n (by decide)) (xn (n (by decide)) (xn (n (by decide)) (xn (n (by decide)) (xn (n (by decide)) (xn (n (by decide)) (xn (n (by decide)) (xn (n (by decide)) (xn (n (by decide)) (xn (n (by decide)) (xn (n (by decide)) (xn (n (by decide)) (xn (n (by decide)) (xn (n (by decide)) (xn (n (by decide)) (xn (n (by decide)) (xn (n (by decide)) (xn (n (by decide)) (xn (n (by decide)) (xn (n (by decide)) (xn (n (by decide)) (xn (n (by decide)) (xn (n (by decide)) (xn (n (by decide)) (xn (n (by decide)) (xn (n (by decide)) (xn (n (by decide)) (xn (n (by decide)) (xn (n (by decide)) (xn (n (by decide)) (xn (n (by decide)) (xn (n (by decide)) (xg hc (xg g1 (xg g2 (xg g3 (xg g4 (xg g5 (xg rfl (xbi e1 ?_)))))))))))))))))))))))))))))))))))))))))
  rw [h1]
  exact xg g1 (xg g2 (xg g3 (xg g4 (xg g5 (xg rfl (xbi e2 (xg rfl e)))))))
theorem lw_c33 (hL : u.2.2.1 ≤ 3072) (hk : k + 6 ≤ u.2.2.1) (hR : Rel u) (hc : (u.2.2.2 ((nI k).toNatClampNeg) &&& 63) = 33) : ∃ u2, Rel u2 ∧ u2.2.2 = u.2.2 ∧ ∀ r, lwE (k + 6) u2 = some r → lwE k u = some r := by
  obtain ⟨r, u1, u2, e1, e2, hR2, h1, h2⟩ := same_i (S_load (u.2.2.2 (nI (k + 1)).toNatClampNeg)) rc_85 hR
  refine ⟨u2, hR2, h2, fun r' e => ?_⟩
  have g1 : vp_in (nI (k + 1)) u.2.2.1 := vp_in_nI (by omega) (by omega)
  have g2 : vp_in (nI (k + 2)) u.2.2.1 := vp_in_nI (by omega) (by omega)
  have g3 : vp_in (nI (k + 3)) u.2.2.1 := vp_in_nI (by omega) (by omega)
  have g4 : vp_in (nI (k + 4)) u.2.2.1 := vp_in_nI (by omega) (by omega)
  have g5 : vp_in (nI (k + 5)) u.2.2.1 := vp_in_nI (by omega) (by omega)
  have n : ∀ {j : Int32}, ¬ 33 = j → ¬ (u.2.2.2 ((nI k).toNatClampNeg) &&& 63) = j := fun h q => h (hc.symm.trans q)
  unfold lwE
  rw [xe_L_law_10, la1 k, la2 k, la3 k, la4 k, la5 k, la6 k]
  refine xn (fun q => by rw [lw6 hL (by omega)] at q; omega) (xg (vp_in_nI (by omega) (by omega)) (xn (n (by decide)) (xn (n (by decide)) (xn (n (by decide)) (xn (n (by decide)) (xn (n (by decide)) (xn (n (by decide)) (xn (n (by decide)) (xn (n (by decide)) (xn (n (by decide)) (xn (n (by decide)) (xn (n (by decide)) (xn (n (by decide)) (xn (n (by decide)) (xn (n (by decide)) (xn (n (by decide)) (xn (n (by decide)) (xn (n (by decide)) (xn (n (by decide)) (xn (n (by decide)) (xn (n (by decide)) (xn (n (by decide)) (xn (n (by decide)) (xn (n (by decide)) (xn (n (by decide)) (xn (n (by decide)) (xn (n (by decide)) (xn (n (by decide)) (xn (n (by decide)) (xn (n (by decide)) (xn (n (by decide)) (xn (n (by decide)) (xn (n (by decide)) (xn (n (by decide)) (xg hc (xg g1 (xg rfl (xbi e1 ?_))))))))))))))))))))))))))))))))))))))
  rw [h1]
  exact xg g1 (xg rfl (xbi e2 (xg rfl e)))
theorem lw_c34 (hL : u.2.2.1 ≤ 3072) (hk : k + 6 ≤ u.2.2.1) (hR : Rel u) (hc : (u.2.2.2 ((nI k).toNatClampNeg) &&& 63) = 34) : ∃ u2, Rel u2 ∧ u2.2.2 = u.2.2 ∧ ∀ r, lwE (k + 6) u2 = some r → lwE k u = some r := by
  obtain ⟨r, u1, u2, e1, e2, hR2, h1, h2⟩ := same_i (S_judge (u.2.2.2 (nI (k + 1)).toNatClampNeg)) rc_86 hR
  refine ⟨u2, hR2, h2, fun r' e => ?_⟩
  have g1 : vp_in (nI (k + 1)) u.2.2.1 := vp_in_nI (by omega) (by omega)
  have g2 : vp_in (nI (k + 2)) u.2.2.1 := vp_in_nI (by omega) (by omega)
  have g3 : vp_in (nI (k + 3)) u.2.2.1 := vp_in_nI (by omega) (by omega)
  have g4 : vp_in (nI (k + 4)) u.2.2.1 := vp_in_nI (by omega) (by omega)
  have g5 : vp_in (nI (k + 5)) u.2.2.1 := vp_in_nI (by omega) (by omega)
  have n : ∀ {j : Int32}, ¬ 34 = j → ¬ (u.2.2.2 ((nI k).toNatClampNeg) &&& 63) = j := fun h q => h (hc.symm.trans q)
  unfold lwE
  rw [xe_L_law_10, la1 k, la2 k, la3 k, la4 k, la5 k, la6 k]
  refine xn (fun q => by rw [lw6 hL (by omega)] at q; omega) (xg (vp_in_nI (by omega) (by omega)) (xn (n (by decide)) (xn (n (by decide)) (xn (n (by decide)) (xn (n (by decide)) (xn (n (by decide)) (xn (n (by decide)) (xn (n (by decide)) (xn (n (by decide)) (xn (n (by decide)) (xn (n (by decide)) (xn (n (by decide)) (xn (n (by decide)) (xn (n (by decide)) (xn (n (by decide)) (xn (n (by decide)) (xn (n (by decide)) (xn (n (by decide)) (xn (n (by decide)) (xn (n (by decide)) (xn (n (by decide)) (xn (n (by decide)) (xn (n (by decide)) (xn (n (by decide)) (xn (n (by decide)) (xn (n (by decide)) (xn (n (by decide)) (xn (n (by decide)) (xn (n (by decide)) (xn (n (by decide)) (xn (n (by decide)) (xn (n (by decide)) (xn (n (by decide)) (xn (n (by decide)) (xn (n (by decide)) (xg hc (xg g1 (xg rfl (xbi e1 ?_)))))))))))))))))))))))))))))))))))))))
  rw [h1]
  exact xg g1 (xg rfl (xbi e2 (xg rfl e)))
theorem lw_c35 (hL : u.2.2.1 ≤ 3072) (hk : k + 6 ≤ u.2.2.1) (hR : Rel u) (hc : (u.2.2.2 ((nI k).toNatClampNeg) &&& 63) = 35) : ∃ u2, Rel u2 ∧ u2.2.2 = u.2.2 ∧ ∀ r, lwE (k + 6) u2 = some r → lwE k u = some r := by
  obtain ⟨r, u1, u2, e1, e2, hR2, h1, h2⟩ := same_i (S_image ) rc_87 hR
  refine ⟨u2, hR2, h2, fun r' e => ?_⟩
  have g1 : vp_in (nI (k + 1)) u.2.2.1 := vp_in_nI (by omega) (by omega)
  have g2 : vp_in (nI (k + 2)) u.2.2.1 := vp_in_nI (by omega) (by omega)
  have g3 : vp_in (nI (k + 3)) u.2.2.1 := vp_in_nI (by omega) (by omega)
  have g4 : vp_in (nI (k + 4)) u.2.2.1 := vp_in_nI (by omega) (by omega)
  have g5 : vp_in (nI (k + 5)) u.2.2.1 := vp_in_nI (by omega) (by omega)
  have n : ∀ {j : Int32}, ¬ 35 = j → ¬ (u.2.2.2 ((nI k).toNatClampNeg) &&& 63) = j := fun h q => h (hc.symm.trans q)
  unfold lwE
  rw [xe_L_law_10, la1 k, la2 k, la3 k, la4 k, la5 k, la6 k]
  refine xn (fun q => by rw [lw6 hL (by omega)] at q; omega) (xg (vp_in_nI (by omega) (by omega)) (xn (n (by decide)) (xn (n (by decide)) (xn (n (by decide)) (xn (n (by decide)) (xn (n (by decide)) (xn (n (by decide)) (xn (n (by decide)) (xn (n (by decide)) (xn (n (by decide)) (xn (n (by decide)) (xn (n (by decide)) (xn (n (by decide)) (xn (n (by decide)) (xn (n (by decide)) (xn (n (by decide)) (xn (n (by decide)) (xn (n (by decide)) (xn (n (by decide)) (xn (n (by decide)) (xn (n (by decide)) (xn (n (by decide)) (xn (n (by decide)) (xn (n (by decide)) (xn (n (by decide)) (xn (n (by decide)) (xn (n (by decide)) (xn (n (by decide)) (xn (n (by decide)) (xn (n (by decide)) (xn (n (by decide)) (xn (n (by decide)) (xn (n (by decide)) (xn (n (by decide)) (xn (n (by decide)) (xn (n (by decide)) (xg hc (xg rfl (xbi e1 ?_)))))))))))))))))))))))))))))))))))))))
  exact xg rfl (xbi e2 (xg rfl e))
theorem lw_c36 (hL : u.2.2.1 ≤ 3072) (hk : k + 6 ≤ u.2.2.1) (hR : Rel u) (hc : (u.2.2.2 ((nI k).toNatClampNeg) &&& 63) = 36) : ∃ u2, Rel u2 ∧ u2.2.2 = u.2.2 ∧ ∀ r, lwE (k + 6) u2 = some r → lwE k u = some r := by
  obtain ⟨r, u1, u2, e1, e2, hR2, h1, h2⟩ := same_i (S_undo ) rc_88 hR
  refine ⟨u2, hR2, h2, fun r' e => ?_⟩
  have g1 : vp_in (nI (k + 1)) u.2.2.1 := vp_in_nI (by omega) (by omega)
  have g2 : vp_in (nI (k + 2)) u.2.2.1 := vp_in_nI (by omega) (by omega)
  have g3 : vp_in (nI (k + 3)) u.2.2.1 := vp_in_nI (by omega) (by omega)
  have g4 : vp_in (nI (k + 4)) u.2.2.1 := vp_in_nI (by omega) (by omega)
  have g5 : vp_in (nI (k + 5)) u.2.2.1 := vp_in_nI (by omega) (by omega)
  have n : ∀ {j : Int32}, ¬ 36 = j → ¬ (u.2.2.2 ((nI k).toNatClampNeg) &&& 63) = j := fun h q => h (hc.symm.trans q)
  unfold lwE
  rw [xe_L_law_10, la1 k, la2 k, la3 k, la4 k, la5 k, la6 k]
  refine xn (fun q => by rw [lw6 hL (by omega)] at q; omega) (xg (vp_in_nI (by omega) (by omega)) (xn (n (by decide)) (xn (n (by decide)) (xn (n (by decide)) (xn (n (by decide)) (xn (n (by decide)) (xn (n (by decide)) (xn (n (by decide)) (xn (n (by decide)) (xn (n (by decide)) (xn (n (by decide)) (xn (n (by decide)) (xn (n (by decide)) (xn (n (by decide)) (xn (n (by decide)) (xn (n (by decide)) (xn (n (by decide)) (xn (n (by decide)) (xn (n (by decide)) (xn (n (by decide)) (xn (n (by decide)) (xn (n (by decide)) (xn (n (by decide)) (xn (n (by decide)) (xn (n (by decide)) (xn (n (by decide)) (xn (n (by decide)) (xn (n (by decide)) (xn (n (by decide)) (xn (n (by decide)) (xn (n (by decide)) (xn (n (by decide)) (xn (n (by decide)) (xn (n (by decide)) (xn (n (by decide)) (xn (n (by decide)) (xn (n (by decide)) (xg hc (xg rfl (xbi e1 ?_))))))))))))))))))))))))))))))))))))))))
  exact xg rfl (xbi e2 (xg rfl e))
theorem lw_c37 (hL : u.2.2.1 ≤ 3072) (hk : k + 6 ≤ u.2.2.1) (hR : Rel u) (hc : (u.2.2.2 ((nI k).toNatClampNeg) &&& 63) = 37) : ∃ u2, Rel u2 ∧ u2.2.2 = u.2.2 ∧ ∀ r, lwE (k + 6) u2 = some r → lwE k u = some r := by
  obtain ⟨r, u1, u2, e1, e2, hR2, h1, h2⟩ := same_i (S_tear ) rc_89 hR
  refine ⟨u2, hR2, h2, fun r' e => ?_⟩
  have g1 : vp_in (nI (k + 1)) u.2.2.1 := vp_in_nI (by omega) (by omega)
  have g2 : vp_in (nI (k + 2)) u.2.2.1 := vp_in_nI (by omega) (by omega)
  have g3 : vp_in (nI (k + 3)) u.2.2.1 := vp_in_nI (by omega) (by omega)
  have g4 : vp_in (nI (k + 4)) u.2.2.1 := vp_in_nI (by omega) (by omega)
  have g5 : vp_in (nI (k + 5)) u.2.2.1 := vp_in_nI (by omega) (by omega)
  have n : ∀ {j : Int32}, ¬ 37 = j → ¬ (u.2.2.2 ((nI k).toNatClampNeg) &&& 63) = j := fun h q => h (hc.symm.trans q)
  unfold lwE
  rw [xe_L_law_10, la1 k, la2 k, la3 k, la4 k, la5 k, la6 k]
  refine xn (fun q => by rw [lw6 hL (by omega)] at q; omega) (xg (vp_in_nI (by omega) (by omega)) (xn (n (by decide)) (xn (n (by decide)) (xn (n (by decide)) (xn (n (by decide)) (xn (n (by decide)) (xn (n (by decide)) (xn (n (by decide)) (xn (n (by decide)) (xn (n (by decide)) (xn (n (by decide)) (xn (n (by decide)) (xn (n (by decide)) (xn (n (by decide)) (xn (n (by decide)) (xn (n (by decide)) (xn (n (by decide)) (xn (n (by decide)) (xn (n (by decide)) (xn (n (by decide)) (xn (n (by decide)) (xn (n (by decide)) (xn (n (by decide)) (xn (n (by decide)) (xn (n (by decide)) (xn (n (by decide)) (xn (n (by decide)) (xn (n (by decide)) (xn (n (by decide)) (xn (n (by decide)) (xn (n (by decide)) (xn (n (by decide)) (xn (n (by decide)) (xn (n (by decide)) (xn (n (by decide)) (xn (n (by decide)) (xn (n (by decide)) (xn (n (by decide)) (xg hc (xg rfl (xbi e1 ?_)))))))))))))))))))))))))))))))))))))))))
  exact xg rfl (xbi e2 (xg rfl e))
theorem lw_c38 (hL : u.2.2.1 ≤ 3072) (hk : k + 6 ≤ u.2.2.1) (hR : Rel u) (hc : (u.2.2.2 ((nI k).toNatClampNeg) &&& 63) = 38) : ∃ u2, Rel u2 ∧ u2.2.2 = u.2.2 ∧ ∀ r, lwE (k + 6) u2 = some r → lwE k u = some r := by
  obtain ⟨r, u1, u2, e1, e2, hR2, h1, h2⟩ := same_i (S_count (u.2.2.2 (nI (k + 1)).toNatClampNeg)) rc_90 hR
  refine ⟨u2, hR2, h2, fun r' e => ?_⟩
  have g1 : vp_in (nI (k + 1)) u.2.2.1 := vp_in_nI (by omega) (by omega)
  have g2 : vp_in (nI (k + 2)) u.2.2.1 := vp_in_nI (by omega) (by omega)
  have g3 : vp_in (nI (k + 3)) u.2.2.1 := vp_in_nI (by omega) (by omega)
  have g4 : vp_in (nI (k + 4)) u.2.2.1 := vp_in_nI (by omega) (by omega)
  have g5 : vp_in (nI (k + 5)) u.2.2.1 := vp_in_nI (by omega) (by omega)
  have n : ∀ {j : Int32}, ¬ 38 = j → ¬ (u.2.2.2 ((nI k).toNatClampNeg) &&& 63) = j := fun h q => h (hc.symm.trans q)
  unfold lwE
  rw [xe_L_law_10, la1 k, la2 k, la3 k, la4 k, la5 k, la6 k]
  refine xn (fun q => by rw [lw6 hL (by omega)] at q; omega) (xg (vp_in_nI (by omega) (by omega)) (xn (n (by decide)) (xn (n (by decide)) (xn (n (by decide)) (xn (n (by decide)) (xn (n (by decide)) (xn (n (by decide)) (xn (n (by decide)) (xn (n (by decide)) (xn (n (by decide)) (xn (n (by decide)) (xn (n (by decide)) (xn (n (by decide)) (xn (n (by decide)) (xn (n (by decide)) (xn (n (by decide)) (xn (n (by decide)) (xn (n (by decide)) (xn (n (by decide)) (xn (n (by decide)) (xn (n (by decide)) (xn (n (by decide)) (xn (n (by decide)) (xn (n (by decide)) (xn (n (by decide)) (xn (n (by decide)) (xn (n (by decide)) (xn (n (by decide)) (xn (n (by decide)) (xn (n (by decide)) (xn (n (by decide)) (xn (n (by decide)) (xn (n (by decide)) (xn (n (by decide)) (xn (n (by decide)) (xn (n (by decide)) (xn (n (by decide)) (xn (n (by decide)) (xn (n (by decide)) (xg hc (xg g1 (xg rfl (xbi e1 ?_)))))))))))))))))))))))))))))))))))))))))))
  rw [h1]
  exact xg g1 (xg rfl (xbi e2 (xg rfl e)))
theorem lw_c39 (hL : u.2.2.1 ≤ 3072) (hk : k + 6 ≤ u.2.2.1) (hR : Rel u) (hc : (u.2.2.2 ((nI k).toNatClampNeg) &&& 63) = 39) : ∃ u2, Rel u2 ∧ u2.2.2 = u.2.2 ∧ ∀ r, lwE (k + 6) u2 = some r → lwE k u = some r := by
  obtain ⟨r, u1, u2, e1, e2, hR2, h1, h2⟩ := same_i (S_status (u.2.2.2 (nI (k + 1)).toNatClampNeg)) rc_91 hR
  refine ⟨u2, hR2, h2, fun r' e => ?_⟩
  have g1 : vp_in (nI (k + 1)) u.2.2.1 := vp_in_nI (by omega) (by omega)
  have g2 : vp_in (nI (k + 2)) u.2.2.1 := vp_in_nI (by omega) (by omega)
  have g3 : vp_in (nI (k + 3)) u.2.2.1 := vp_in_nI (by omega) (by omega)
  have g4 : vp_in (nI (k + 4)) u.2.2.1 := vp_in_nI (by omega) (by omega)
  have g5 : vp_in (nI (k + 5)) u.2.2.1 := vp_in_nI (by omega) (by omega)
  have n : ∀ {j : Int32}, ¬ 39 = j → ¬ (u.2.2.2 ((nI k).toNatClampNeg) &&& 63) = j := fun h q => h (hc.symm.trans q)
  unfold lwE
  rw [xe_L_law_10, la1 k, la2 k, la3 k, la4 k, la5 k, la6 k]
  refine xn (fun q => by rw [lw6 hL (by omega)] at q; omega) (xg (vp_in_nI (by omega) (by omega)) (xn (n (by decide)) (xn (n (by decide)) (xn (n (by decide)) (xn (n (by decide)) (xn (n (by decide)) (xn (n (by decide)) (xn (n (by decide)) (xn (n (by decide)) (xn (n (by decide)) (xn (n (by decide)) (xn (n (by decide)) (xn (n (by decide)) (xn (n (by decide)) (xn (n (by decide)) (xn (n (by decide)) (xn (n (by decide)) (xn (n (by decide)) (xn (n (by decide)) (xn (n (by decide)) (xn (n (by decide)) (xn (n (by decide)) (xn (n (by decide)) (xn (n (by decide)) (xn (n (by decide)) (xn (n (by decide)) (xn (n (by decide)) (xn (n (by decide)) (xn (n (by decide)) (xn (n (by decide)) (xn (n (by decide)) (xn (n (by decide)) (xn (n (by decide)) (xn (n (by decide)) (xn (n (by decide)) (xn (n (by decide)) (xn (n (by decide)) (xn (n (by decide)) (xn (n (by decide)) (xn (n (by decide)) (xg hc (xg g1 (xg rfl (xbi e1 ?_))))))))))))))))))))))))))))))))))))))))))))
  rw [h1]
  exact xg g1 (xg rfl (xbi e2 (xg rfl e)))
theorem lw_cd (hL : u.2.2.1 ≤ 3072) (hk : k + 6 ≤ u.2.2.1) (hc : ∀ j : Nat, j < 40 → ¬ (u.2.2.2 ((nI k).toNatClampNeg) &&& 63) = nI j) : ∀ r, lwE (k + 6) u = some r → lwE k u = some r := by
  intro r e
  unfold lwE
  rw [xe_L_law_10, la1 k, la2 k, la3 k, la4 k, la5 k, la6 k]
  exact xn (fun q => by rw [lw6 hL (by omega)] at q; omega) (xg (vp_in_nI (by omega) (by omega)) (xn (hc 0 (by decide)) (xn (hc 1 (by decide)) (xn (hc 2 (by decide)) (xn (hc 3 (by decide)) (xn (hc 4 (by decide)) (xn (hc 5 (by decide)) (xn (hc 6 (by decide)) (xn (hc 7 (by decide)) (xn (hc 8 (by decide)) (xn (hc 9 (by decide)) (xn (hc 10 (by decide)) (xn (hc 11 (by decide)) (xn (hc 12 (by decide)) (xn (hc 13 (by decide)) (xn (hc 14 (by decide)) (xn (hc 15 (by decide)) (xn (hc 16 (by decide)) (xn (hc 17 (by decide)) (xn (hc 18 (by decide)) (xn (hc 19 (by decide)) (xn (hc 20 (by decide)) (xn (hc 21 (by decide)) (xn (hc 22 (by decide)) (xn (hc 23 (by decide)) (xn (hc 24 (by decide)) (xn (hc 25 (by decide)) (xn (hc 26 (by decide)) (xn (hc 27 (by decide)) (xn (hc 28 (by decide)) (xn (hc 29 (by decide)) (xn (hc 30 (by decide)) (xn (hc 31 (by decide)) (xn (hc 32 (by decide)) (xn (hc 33 (by decide)) (xn (hc 34 (by decide)) (xn (hc 35 (by decide)) (xn (hc 36 (by decide)) (xn (hc 37 (by decide)) (xn (hc 38 (by decide)) (xn (hc 39 (by decide)) (e))))))))))))))))))))))))))))))))))))))))))
end LL
theorem law_loop : ∀ (m k : Nat) (u : xm_U), u.2.2.1 < k + m → k ≤ 4000 → u.2.2.1 ≤ 3072 → Rel u → ∃ u', lwE k u = some (some (xv_i 1), u') := by
  intro m
  induction m with
  | zero =>
    intro k u hm hk hL hR
    refine ⟨u, ?_⟩
    unfold lwE
    rw [xe_L_law_10]
    exact xg ((lw6 hL hk).mpr (by omega)) (xg nb1 rfl)
  | succ m ih =>
    intro k u hm hk hL hR
    by_cases c : u.2.2.1 < k + 6
    · refine ⟨u, ?_⟩
      unfold lwE
      rw [xe_L_law_10]
      exact xg ((lw6 hL hk).mpr c) (xg nb1 rfl)
    · have key : ∃ u2, Rel u2 ∧ u2.2.2 = u.2.2 ∧ ∀ r, lwE (k + 6) u2 = some r → lwE k u = some r := by
        by_cases d : ∃ j : Nat, j < 40 ∧ (u.2.2.2 ((nI k).toNatClampNeg) &&& 63) = nI j
        · obtain ⟨j, hj, e⟩ := d
          match j, hj, e with

          | 0, _, e => exact lw_c0 hL (by omega) hR e
          | 1, _, e => exact lw_c1 hL (by omega) hR e
          | 2, _, e => exact lw_c2 hL (by omega) hR e
          | 3, _, e => exact lw_c3 hL (by omega) hR e
          | 4, _, e => exact lw_c4 hL (by omega) hR e
          | 5, _, e => exact lw_c5 hL (by omega) hR e
          | 6, _, e => exact lw_c6 hL (by omega) hR e
          | 7, _, e => exact lw_c7 hL (by omega) hR e
          | 8, _, e => exact lw_c8 hL (by omega) hR e
          | 9, _, e => exact lw_c9 hL (by omega) hR e
          | 10, _, e => exact lw_c10 hL (by omega) hR e
          | 11, _, e => exact lw_c11 hL (by omega) hR e
          | 12, _, e => exact lw_c12 hL (by omega) hR e
          | 13, _, e => exact lw_c13 hL (by omega) hR e
          | 14, _, e => exact lw_c14 hL (by omega) hR e
          | 15, _, e => exact lw_c15 hL (by omega) hR e
          | 16, _, e => exact lw_c16 hL (by omega) hR e
          | 17, _, e => exact lw_c17 hL (by omega) hR e
          | 18, _, e => exact lw_c18 hL (by omega) hR e
          | 19, _, e => exact lw_c19 hL (by omega) hR e
          | 20, _, e => exact lw_c20 hL (by omega) hR e
          | 21, _, e => exact lw_c21 hL (by omega) hR e
          | 22, _, e => exact lw_c22 hL (by omega) hR e
          | 23, _, e => exact lw_c23 hL (by omega) hR e
          | 24, _, e => exact lw_c24 hL (by omega) hR e
          | 25, _, e => exact lw_c25 hL (by omega) hR e
          | 26, _, e => exact lw_c26 hL (by omega) hR e
          | 27, _, e => exact lw_c27 hL (by omega) hR e
          | 28, _, e => exact lw_c28 hL (by omega) hR e
          | 29, _, e => exact lw_c29 hL (by omega) hR e
          | 30, _, e => exact lw_c30 hL (by omega) hR e
          | 31, _, e => exact lw_c31 hL (by omega) hR e
          | 32, _, e => exact lw_c32 hL (by omega) hR e
          | 33, _, e => exact lw_c33 hL (by omega) hR e
          | 34, _, e => exact lw_c34 hL (by omega) hR e
          | 35, _, e => exact lw_c35 hL (by omega) hR e
          | 36, _, e => exact lw_c36 hL (by omega) hR e
          | 37, _, e => exact lw_c37 hL (by omega) hR e
          | 38, _, e => exact lw_c38 hL (by omega) hR e
          | 39, _, e => exact lw_c39 hL (by omega) hR e
          | j + 40, hj, _ => exact absurd hj (by omega)
        · exact ⟨u, hR, rfl, lw_cd hL (by omega) (fun j hj q => d ⟨j, hj, q⟩)⟩
      obtain ⟨u2, hR2, h2, e⟩ := key
      obtain ⟨u', e2⟩ := ih (k + 6) u2 (by rw [h2]; omega) (by omega) (by rw [h2]; exact hL) hR2
      exact ⟨u', e _ e2⟩
