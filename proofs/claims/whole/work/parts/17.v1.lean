/-! THE CLASS'S VALLEYS: object i holds what the row d tells -/
def vd (u : xm_U) (i : Nat) (d : Nat → Int32) : Prop :=
  (∀ h, h < 6 → u.1 i 1 h = d (5 + h)) ∧ (∀ h, h < 6 → u.1 i 2 h = d (11 + h)) ∧ (∀ h, h < 6 → u.1 i 3 h = d (17 + h)) ∧
  (u.1 i 0 3 = d 4 ∧ u.1 i 0 4 = d 3 ∧ u.1 i 0 5 = d 1 ∧ u.1 i 0 6 = d 2 ∧ u.1 i 0 7 = d 0) ∧
  (∀ k, k < 8 → u.1 i 9 k = d (23 + k) ∧ u.1 i 10 k = d (31 + k) ∧ u.1 i 11 k = d (39 + k) ∧ u.1 i 12 k = d (47 + k) ∧ u.1 i 13 k = d (55 + k) ∧ u.1 i 14 k = d (63 + k) ∧ u.1 i 15 k = d (71 + k)) ∧
  ∀ s, s < 10 → u.1 i 16 s = d (79 + s) - 1
theorem v_in {i p n k : Nat} (hc : xm_cls i = 2) (hl : xm_ln 2 p = some n) (hk : k < n) (hn : n < 2 ^ 31) : xm_in i p (nI k) := xin (vp_in_nI hk hn) (by rw [hc]; exact hl)
def bitc (a0 : Int32) : Int32 :=
  let x1 := a0 - (((a0.toUInt32 >>> ((1 : Int32).toUInt32 &&& Int32.toUInt32 31)).toInt32) &&& 1431655765)
  let x2 := (x1 &&& 858993459) + (((x1.toUInt32 >>> ((2 : Int32).toUInt32 &&& Int32.toUInt32 31)).toInt32) &&& 858993459)
  let x3 := (x2 + ((x2.toUInt32 >>> ((4 : Int32).toUInt32 &&& Int32.toUInt32 31)).toInt32)) &&& 252645135
  let x4 := x3 + ((x3.toUInt32 >>> ((8 : Int32).toUInt32 &&& Int32.toUInt32 31)).toInt32)
  let x5 := x4 + ((x4.toUInt32 >>> ((16 : Int32).toUInt32 &&& Int32.toUInt32 31)).toInt32)
  x5 &&& 63
theorem v_bitCount (u : xm_U) (s : Int32) : xm_C 44 [xv_i s] u = some (some (xv_i (bitc s)), u) := xe_J6_bitCount_0f7a4 s u
/-- a set of planks, as a number -/
def insB (d : Nat → Int32) (h : Int32) : Nat → Nat
  | 0 => 0
  | n + 1 => if d (31 + n) = h then insB d h n + 2 ^ n else insB d h n
theorem insB_lt (d : Nat → Int32) (h : Int32) : ∀ n, insB d h n < 2 ^ n
  | 0 => by simp [insB]
  | n + 1 => by
    have := insB_lt d h n
    unfold insB
    rw [Nat.pow_succ]
    split <;> omega
theorem or_bit : ∀ n, n < 8 → ∀ s, s < 2 ^ n → nI s ||| (1 <<< (nI n &&& 31)) = nI (s + 2 ^ n) := by decide +kernel
theorem insideN_B (d : Nat → Int32) (h : Int32) : ∀ n, n ≤ 8 → insideN d h n = nI (insB d h n)
  | 0, _ => rfl
  | n + 1, hn => by
    have ih := insideN_B d h n (by omega)
    unfold insideN insB
    split
    · rw [ih]; exact or_bit n (by omega) _ (insB_lt d h n)
    · exact ih
theorem tb_new : ∀ n, n < 8 → ∀ s, s < 2 ^ n → (s + 2 ^ n).testBit n = true := by decide +kernel
theorem tb_old : ∀ n, n < 8 → ∀ s, s < 2 ^ n → ∀ k, k < n → (s + 2 ^ n).testBit k = s.testBit k := by decide +kernel
theorem insB_tb (d : Nat → Int32) (h : Int32) : ∀ n, n ≤ 8 → ∀ k, k < n → d (31 + k) = h → (insB d h n).testBit k = true
  | 0, _, k, hk, _ => absurd hk (Nat.not_lt_zero k)
  | n + 1, hn, k, hk, e => by
    have ih := insB_tb d h n (by omega) k
    unfold insB
    by_cases hkn : k = n
    · subst hkn
      rw [if_pos e]
      exact tb_new k (by omega) _ (insB_lt d h k)
    · split
      · rw [tb_old n (by omega) _ (insB_lt d h n) k (by omega)]
        exact ih (by omega) e
      · exact ih (by omega) e
theorem bit_others : ∀ s, s < 256 → ∀ k, k < 8 → s.testBit k = true → bitc (nI s) - (1 : Int32) = ones (nI s &&& (((1 : Int32) <<< (nI k &&& 31)) ^^^ (-1 : Int32))) := by decide +kernel
theorem inside_B {d : Nat → Int32} (hd : inv d) (h : Int32) : inside d h = nI (insB d h (nN d)) ∧ insB d h (nN d) < 256 := by
  obtain ⟨h8, -⟩ := inv_nN hd
  refine ⟨insideN_B d h (nN d) h8, Nat.lt_of_lt_of_le (insB_lt d h _) ?_⟩
  exact Nat.pow_le_pow_right (by decide) h8 (n := 2)
section VV
variable {u : xm_U} {i : Nat} {d : Nat → Int32} (hc : xm_cls i = 2) (hv : vd u i d) (hd : inv d)
theorem v_planksIn_loop (hc : xm_cls i = 2) (hv : vd u i d) {N : Nat} (h8 : N ≤ 8) (hN : d 0 = nI N) (h : Int32) : ∀ (n k : Nat), k + n = N → xm_E 39 (xc_X2_planksIn.drop 4, [some (xv_r i 0), some (xv_i h), some (xv_i (insideN d h k)), some (xv_i (nI k))], [], u) = some (some (xv_i (insideN d h N)), u) := by
  intro n
  induction n with
  | zero =>
    intro k hk
    have : k = N := by omega
    subst this
    rw [xe_X2_planksIn_4, hv.2.2.2.1.2.2.2.2, hN]
    exact xg hc (xg (nI_le (Nat.le_refl _) (by omega)) rfl)
  | succ n ih =>
    intro k hk
    rw [xe_X2_planksIn_4, hv.2.2.2.1.2.2.2.2, hN]
    refine xg hc (xn (nI_ge (by omega) (by omega)) (xg hc (xg (v_in hc (n := 8) rfl (by omega) (by decide)) ?_)))
    rw [nI_clamp (by omega), (hv.2.2.2.2.1 k (by omega)).2.1, nI_1]
    have hs := ih (k + 1) (by omega)
    rw [show insideN d h (k + 1) = (if d (31 + k) = h then insideN d h k ||| (1 <<< (nI k &&& 31)) else insideN d h k) from rfl] at hs
    by_cases e : d (31 + k) = h
    · rw [if_pos e] at hs
      exact xn (fun z => z e) (xlt hs)
    · rw [if_neg e] at hs
      exact xg e hs
theorem v_planksIn (hc : xm_cls i = 2) (hv : vd u i d) (hd : inv d) (h : Int32) : xm_C 39 [xv_r i 0, xv_i h] u = some (some (xv_i (inside d h)), u) := by
  obtain ⟨h8, hN⟩ := inv_nN hd
  rw [xe_X2_planksIn]
  exact v_planksIn_loop hc hv h8 hN h (nN d) 0 (by omega)
theorem v_others (hc : xm_cls i = 2) (hv : vd u i d) (hd : inv d) {k : Nat} (hk : k < nN d) : xm_C 26 [xv_r i 0, xv_i (nI k)] u = some (some (xv_i (ones (inside d (d (31 + k)) &&& ((1 <<< (nI k &&& 31)) ^^^ (-1))))), u) := by
  obtain ⟨h8, hN⟩ := inv_nN hd
  obtain ⟨e1, e2⟩ := inside_B hd (d (31 + k))
  rw [xe_X2_othersBeside]
  refine xg hc (xg (v_in hc (n := 8) rfl (by omega) (by decide)) (xg hc ?_))
  rw [nI_clamp (by omega), (hv.2.2.2.2.1 k (by omega)).2.1]
  refine xbi (v_planksIn hc hv hd _) (xbi (v_bitCount _ _) ?_)
  rw [e1, bit_others _ e2 k (by omega) (insB_tb d _ _ h8 k hk rfl)]
theorem v_mapl (u : xm_U) (L : Int32) : xm_C 25 [xv_i L] u = some (some (xv_i (mapl L)), u) := by
  rw [xe_X2_hearingOfMaple]
  unfold mapl
  by_cases h : 2 < L
  · rw [if_pos h, Int32.add_zero]; exact xg h rfl
  · rw [if_neg h]; exact xn h rfl
theorem v_folm (u : xm_U) (x : Int32) : xm_C 28 [xv_i x] u = some (some (xv_i (folm x)), u) := by
  rw [xe_X2_followingOfMaple]
  unfold folm
  by_cases h : x ≤ 0
  · rw [if_pos h, Int32.add_zero]; exact xg h (xg ne10 rfl)
  · rw [if_neg h]; exact xn h (xg ne10 rfl)
/-- what a plank's house is, tells -/
theorem v_at (hc : xm_cls i = 2) (hv : vd u i d) (hd : inv d) {k : Nat} (hk : k < 8) : ∃ j, j < 6 ∧ u.1 i 10 k = nI j ∧ xm_in i 1 (nI j) ∧ xm_in i 2 (nI j) ∧ u.1 i 1 j = lo d k ∧ u.1 i 2 j = mo d k ∧ (nI j).toNatClampNeg = j ∧ d (31 + k) = nI j := by
  obtain ⟨j, hj, e⟩ := inv_H hd hk
  refine ⟨j, hj, (hv.2.2.2.2.1 k hk).2.1.trans e, v_in hc (n := 6) rfl hj (by decide), v_in hc (n := 6) rfl hj (by decide), ?_, ?_, nI_clamp (by omega), e⟩
  · rw [hv.1 j hj]
    unfold lo
    rw [e, show (5 : Int32) = nI 5 from rfl, nI_add, nI_clamp (by omega)]
  · rw [hv.2.1 j hj]
    unfold mo
    rw [e, show (11 : Int32) = nI 11 from rfl, nI_add, nI_clamp (by omega)]
theorem fir_max : ∀ l, l < 10 → (if (0 : Int32) < 2 * nI l - 1 then 2 * nI l - 1 else 0) = if ¬ nI l = 0 then 2 * nI l - 1 else 0 := by decide +kernel
theorem lo_bd (hd : inv d) {k : Nat} (hk : k < 8) : ∃ l, l < 10 ∧ lo d k = nI l := by
  obtain ⟨j, hj, e⟩ := inv_H hd hk
  obtain ⟨l, h1, h2⟩ := bd_nI (n := 9) (by decide) ((okb_5 hj _).mp (hd.2.1 (5 + j) (by omega) (by omega)))
  refine ⟨l, by omega, ?_⟩
  unfold lo
  rw [e, show (5 : Int32) = nI 5 from rfl, nI_add, nI_clamp (by omega), h2]
theorem v_hearing (hc : xm_cls i = 2) (hv : vd u i d) (hd : inv d) {k : Nat} (hk : k < nN d) : xm_C 24 [xv_r i 0, xv_i (nI k)] u = some (some (xv_i (hears d k)), u) := by
  have k8 : k < 8 := by have := (inv_nN hd).1; omega
  obtain ⟨j, hj, e10, g1, g2, e1, e2, k2, -⟩ := v_at hc hv hd k8
  have k1 : (nI k).toNatClampNeg = k := nI_clamp (by omega)
  have g9 : xm_in i 9 (nI k) := v_in hc (n := 8) rfl k8 (by decide)
  have g10 : xm_in i 10 (nI k) := v_in hc (n := 8) rfl k8 (by decide)
  have g11 : xm_in i 11 (nI k) := v_in hc (n := 8) rfl k8 (by decide)
  have g12 : xm_in i 12 (nI k) := v_in hc (n := 8) rfl k8 (by decide)
  have g13 : xm_in i 13 (nI k) := v_in hc (n := 8) rfl k8 (by decide)
  have g14 : xm_in i 14 (nI k) := v_in hc (n := 8) rfl k8 (by decide)
  obtain ⟨e9, -, e11, e12, e13, e14, e15⟩ := hv.2.2.2.2.1 k k8
  obtain ⟨y3, y4, y5, y6, y7⟩ := hv.2.2.2.1
  rw [xe_X2_hearing]
  simp only [xm_bi_s, xm_bv_s, xm_let_s, cls9, xm_if_T, nb0, nb1, ne10, ne5, ne2, in9_0, in9_1, not_true_eq_false, not_false_eq_true, hc, k1, g9, g10, g11, g12, g13, g14, e9, e11, e12, e13, e14, e10, k2, g1, g2, e1, e2, y5, v_mapl, v_others hc hv hd hk]
  obtain ⟨l, hl, el⟩ := lo_bd hd k8
  simp only [xm_ite]
  unfold hears
  rw [el, fir_max l hl]
  repeat (split <;> try rfl)
  all_goals simp_all
theorem v_following (hc : xm_cls i = 2) (hv : vd u i d) (hd : inv d) {k : Nat} (hk : k < nN d) : xm_C 27 [xv_r i 0, xv_i (nI k)] u = some (some (xv_i (follows d k)), u) := by
  have k8 : k < 8 := by have := (inv_nN hd).1; omega
  obtain ⟨j, hj, e10, g1, g2, e1, e2, k2, -⟩ := v_at hc hv hd k8
  have k1 : (nI k).toNatClampNeg = k := nI_clamp (by omega)
  have g9 : xm_in i 9 (nI k) := v_in hc (n := 8) rfl k8 (by decide)
  have g10 : xm_in i 10 (nI k) := v_in hc (n := 8) rfl k8 (by decide)
  have g11 : xm_in i 11 (nI k) := v_in hc (n := 8) rfl k8 (by decide)
  have g12 : xm_in i 12 (nI k) := v_in hc (n := 8) rfl k8 (by decide)
  have g13 : xm_in i 13 (nI k) := v_in hc (n := 8) rfl k8 (by decide)
  have g14 : xm_in i 14 (nI k) := v_in hc (n := 8) rfl k8 (by decide)
  obtain ⟨e9, -, e11, e12, e13, e14, e15⟩ := hv.2.2.2.2.1 k k8
  obtain ⟨y3, y4, y5, y6, y7⟩ := hv.2.2.2.1
  rw [xe_X2_following]
  simp only [xm_bi_s, xm_bv_s, xm_let_s, cls9, xm_if_T, nb0, nb1, ne10, ne5, ne2, in9_0, in9_1, not_true_eq_false, not_false_eq_true, hc, k1, g9, g10, g11, g12, g13, g14, e9, e11, e12, e13, e14, e10, k2, g1, g2, e1, e2, y5, v_folm]
  simp only [xm_ite]
  unfold follows
  repeat (split <;> try rfl)
  all_goals simp_all
theorem v_splitting (hc : xm_cls i = 2) (hv : vd u i d) (hd : inv d) {k : Nat} (hk : k < nN d) : xm_C 30 [xv_r i 0, xv_i (nI k)] u = some (some (xv_i (splits d k)), u) := by
  have k8 : k < 8 := by have := (inv_nN hd).1; omega
  obtain ⟨j, hj, e10, g1, g2, e1, e2, k2, -⟩ := v_at hc hv hd k8
  have k1 : (nI k).toNatClampNeg = k := nI_clamp (by omega)
  have g9 : xm_in i 9 (nI k) := v_in hc (n := 8) rfl k8 (by decide)
  have g10 : xm_in i 10 (nI k) := v_in hc (n := 8) rfl k8 (by decide)
  have g11 : xm_in i 11 (nI k) := v_in hc (n := 8) rfl k8 (by decide)
  have g12 : xm_in i 12 (nI k) := v_in hc (n := 8) rfl k8 (by decide)
  have g13 : xm_in i 13 (nI k) := v_in hc (n := 8) rfl k8 (by decide)
  have g14 : xm_in i 14 (nI k) := v_in hc (n := 8) rfl k8 (by decide)
  obtain ⟨e9, -, e11, e12, e13, e14, e15⟩ := hv.2.2.2.2.1 k k8
  obtain ⟨y3, y4, y5, y6, y7⟩ := hv.2.2.2.1
  rw [xe_X2_splitting]
  simp only [xm_bi_s, xm_bv_s, xm_let_s, cls9, xm_if_T, nb0, nb1, ne10, ne5, ne2, in9_0, in9_1, not_true_eq_false, not_false_eq_true, hc, k1, g9, g10, g11, g12, g13, g14, e9, e11, e12, e13, e14, e10, k2, g1, g2, e1, e2, y5, Int32.add_zero]
  simp only [xm_ite]
  unfold splits splp
  repeat (split <;> try rfl)
  all_goals simp_all
theorem fet_max (hd : inv d) {k : Nat} (hk : k < 8) : (if (0 : Int32) < (d (39 + k) / 10 + d (47 + k)) - 5 * d (55 + k) then (d (39 + k) / 10 + d (47 + k)) - 5 * d (55 + k) else 0) = fetp d k := by
  obtain ⟨g, hg, eg⟩ := bd_nI (n := 999) (by decide) ((okb_39 hk _).mp (hd.2.1 (39 + k) (by omega) (by omega)))
  obtain ⟨t, ht, et⟩ := bd_nI (n := 99) (by decide) ((okb_47 hk _).mp (hd.2.1 (47 + k) (by omega) (by omega)))
  obtain ⟨c, hcc, ec⟩ := bd_nI (n := 9) (by decide) ((okb_55 hk _).mp (hd.2.1 (55 + k) (by omega) (by omega)))
  have e : ((d (39 + k) / 10 + d (47 + k)) - 5 * d (55 + k)) = nI (g / 10 + t) - nI (5 * c) := by
    rw [eg, et, ec, show nI g / 10 = nI (g / 10) from pk_div (d := 10) (by omega) (by decide) (by decide), nI_add, show (5 : Int32) = nI 5 from rfl, pk_mul]
  unfold fetp held
  generalize hx : (d (39 + k) / 10 + d (47 + k)) - 5 * d (55 + k) = x at e
  have hb := pk_sub_toInt (a := g / 10 + t) (b := 5 * c) (by omega) (by omega)
  rw [← e] at hb
  have h9 : x ≤ 999 := by
    rw [il_le, hb, show (999 : Int32).toInt = 999 from rfl]
    omega
  by_cases h0 : (0 : Int32) < x
  · have h1 : (0 : Int32) ≤ x := by rw [il_lt] at h0; rw [il_le]; omega
    rw [if_pos h0, if_pos h1, if_pos h9]
  · rw [if_neg h0]
    by_cases h1 : (0 : Int32) ≤ x
    · rw [if_pos h1, if_pos h9]
      apply Int32.toInt_inj.mp
      rw [il_lt] at h0
      rw [il_le] at h1
      omega
    · rw [if_neg h1]
theorem v_fetching (hc : xm_cls i = 2) (hv : vd u i d) (hd : inv d) {k : Nat} (hk : k < nN d) : xm_C 31 [xv_r i 0, xv_i (nI k)] u = some (some (xv_i (fetches d k)), u) := by
  have k8 : k < 8 := by have := (inv_nN hd).1; omega
  obtain ⟨j, hj, e10, g1, g2, e1, e2, k2, -⟩ := v_at hc hv hd k8
  have k1 : (nI k).toNatClampNeg = k := nI_clamp (by omega)
  have g9 : xm_in i 9 (nI k) := v_in hc (n := 8) rfl k8 (by decide)
  have g10 : xm_in i 10 (nI k) := v_in hc (n := 8) rfl k8 (by decide)
  have g11 : xm_in i 11 (nI k) := v_in hc (n := 8) rfl k8 (by decide)
  have g12 : xm_in i 12 (nI k) := v_in hc (n := 8) rfl k8 (by decide)
  have g13 : xm_in i 13 (nI k) := v_in hc (n := 8) rfl k8 (by decide)
  have g14 : xm_in i 14 (nI k) := v_in hc (n := 8) rfl k8 (by decide)
  obtain ⟨e9, -, e11, e12, e13, e14, e15⟩ := hv.2.2.2.2.1 k k8
  obtain ⟨y3, y4, y5, y6, y7⟩ := hv.2.2.2.1
  rw [xe_X2_fetching]
  simp only [xm_bi_s, xm_bv_s, xm_let_s, cls9, xm_if_T, nb0, nb1, ne10, ne5, ne2, in9_0, in9_1, not_true_eq_false, not_false_eq_true, hc, k1, g9, g10, g11, g12, g13, g14, e9, e11, e12, e13, e14, e10, k2, g1, g2, e1, e2, y5, fet_max hd k8]
  simp only [xm_ite]
  unfold fetches
  repeat (split <;> try rfl)
  all_goals simp_all
theorem v_isRinging_27 (hc : xm_cls i = 2) (hv : vd u i d) {k : Nat} (k8 : k < 8) (s0 v3 : Int32) (h3 : (v3 = 1 ∧ rpl d k) ∨ (v3 = 0 ∧ ¬ rpl d k)) (h0 : (s0 = 1 ∧ rsp d k) ∨ (s0 = 0 ∧ ¬ rsp d k)) : xm_E 29 (xc_X2_isRinging.drop 27, [some (xv_r i 0), some (xv_i (nI k)), some (xv_i v3), none], [xv_i s0], u) = some (some (xv_i (ringsI d k)), u) := by
  have k1 : (nI k).toNatClampNeg = k := nI_clamp (by omega)
  have g9 : xm_in i 9 (nI k) := v_in hc (n := 8) rfl k8 (by decide)
  have g13 : xm_in i 13 (nI k) := v_in hc (n := 8) rfl k8 (by decide)
  have g14 : xm_in i 14 (nI k) := v_in hc (n := 8) rfl k8 (by decide)
  obtain ⟨e9, -, e11, e12, e13, e14, e15⟩ := hv.2.2.2.2.1 k k8
  rw [xe_X2_isRinging_27]
  simp only [xm_bi_s, xm_bv_s, xm_let_s, cls9, xm_if_T, nb0, nb1, ne10, ne5, ne2, in9_0, in9_1, not_true_eq_false, not_false_eq_true, hc, k1, g9, g13, g14, e9, e13, e14]
  have d10 : ¬ (1 : Int32) = 0 := by decide
  by_cases e1 : d (23 + k) = 1
  · have n6 : ¬ d (23 + k) = 6 := by rw [e1]; decide
    have n3 : ¬ d (23 + k) = 3 := by rw [e1]; decide
    have n4 : ¬ d (23 + k) = 4 := by rw [e1]; decide
    refine xg e1 ?_
    rcases h0 with ⟨rfl, h0⟩ | ⟨rfl, h0⟩
    · rw [ringsI_t (Or.inl ⟨e1, h0⟩)]; exact xg nb1 rfl
    · rw [ringsI_f (by unfold ringsP; simp [e1, h0])]; exact xg nb0 rfl
  refine xn e1 ?_
  by_cases e2 : d (23 + k) = 2
  · have q : ringsP d k ↔ rpl d k := by unfold ringsP; simp [e2]
    refine xg e2 ?_
    rcases h3 with ⟨rfl, h3⟩ | ⟨rfl, h3⟩
    · rw [ringsI_t (q.mpr h3)]; exact xg nb1 rfl
    · rw [ringsI_f (fun z => h3 (q.mp z))]; exact xg nb0 rfl
  refine xn e2 ?_
  by_cases e3 : d (23 + k) = 3
  · have q : ringsP d k ↔ (rpl d k ∧ 20 ≤ d (63 + k)) := by unfold ringsP; simp [e3]
    refine xg e3 ?_
    rcases h3 with ⟨rfl, h3⟩ | ⟨rfl, h3⟩
    · refine xn d10 ?_
      by_cases a : d (63 + k) < 20
      · rw [ringsI_f (fun z => il_ltn a (q.mp z).2)]; exact xg a rfl
      · rw [ringsI_t (q.mpr ⟨h3, il_nlt a⟩)]; exact xn a rfl
    · rw [ringsI_f (fun z => h3 (q.mp z).1)]; exact xg rfl rfl
  refine xn e3 ?_
  by_cases e4 : d (23 + k) = 4
  · have q : ringsP d k ↔ 40 ≤ d (63 + k) := by unfold ringsP; simp [e4]
    refine xg e4 ?_
    by_cases a : d (63 + k) < 40
    · rw [ringsI_f (fun z => il_ltn a (q.mp z))]; exact xg a rfl
    · rw [ringsI_t (q.mpr (il_nlt a))]; exact xn a rfl
  refine xn e4 ?_
  by_cases e5 : d (23 + k) = 5
  · have q : ¬ ringsP d k := by unfold ringsP; simp [e5]
    rw [ringsI_f q]
    exact xg e5 rfl
  refine xn e5 ?_
  by_cases e6 : d (23 + k) = 6
  · have q : ringsP d k ↔ (rsp d k ∧ d (55 + k) ≤ 2) := by unfold ringsP; simp [e6]
    refine xg e6 ?_
    rcases h0 with ⟨rfl, h0⟩ | ⟨rfl, h0⟩
    · refine xn d10 ?_
      by_cases a : 2 < d (55 + k)
      · rw [ringsI_f (fun z => il_ltn a (q.mp z).2)]; exact xg a rfl
      · rw [ringsI_t (q.mpr ⟨h0, il_nlt a⟩)]; exact xn a rfl
    · rw [ringsI_f (fun z => h0 (q.mp z).1)]; exact xg rfl rfl
  refine xn e6 ?_
  have q : ringsP d k ↔ rpl d k := by unfold ringsP; simp [e1, e3, e4, e5, e6]
  rcases h3 with ⟨rfl, h3⟩ | ⟨rfl, h3⟩
  · rw [ringsI_t (q.mpr h3)]; exact xg nb1 rfl
  · rw [ringsI_f (fun z => h3 (q.mp z))]; exact xg nb0 rfl
theorem v_isRinging (hc : xm_cls i = 2) (hv : vd u i d) {k : Nat} (k8 : k < 8) : xm_C 29 [xv_r i 0, xv_i (nI k)] u = some (some (xv_i (ringsI d k)), u) := by
  have k1 : (nI k).toNatClampNeg = k := nI_clamp (by omega)
  have g11 : xm_in i 11 (nI k) := v_in hc (n := 8) rfl k8 (by decide)
  have g12 : xm_in i 12 (nI k) := v_in hc (n := 8) rfl k8 (by decide)
  obtain ⟨e9, -, e11, e12, e13, e14, e15⟩ := hv.2.2.2.2.1 k k8
  rw [xe_X2_isRinging]
  refine xg hc (xg g11 ?_)
  rw [k1, e11]
  by_cases a : d (39 + k) < 100
  · refine xg a ?_
    have hr : ¬ rpl d k := il_ltn a
    rw [xe_X2_isRinging_9]
    refine xn (fun z => z rfl) (xg hc (xg g11 ?_))
    rw [k1, e11]
    by_cases b : d (39 + k) < 60
    · refine xg b (v_isRinging_27 hc hv k8 _ _ (Or.inr ⟨rfl, hr⟩) (Or.inr ⟨rfl, fun z => ?_⟩))
      rcases z with z | z
      · exact hr z
      · exact il_ltn b z.1
    · refine xn b (xg hc (xg g12 ?_))
      rw [e12]
      by_cases c : d (47 + k) < 30
      · refine xg c (v_isRinging_27 hc hv k8 _ _ (Or.inr ⟨rfl, hr⟩) (Or.inr ⟨rfl, fun z => ?_⟩))
        rcases z with z | z
        · exact hr z
        · exact il_ltn c z.2
      · exact xn c (v_isRinging_27 hc hv k8 _ _ (Or.inr ⟨rfl, hr⟩) (Or.inl ⟨rfl, Or.inr ⟨il_nlt b, il_nlt c⟩⟩))
  · refine xn a ?_
    have hr : rpl d k := il_nlt a
    rw [xe_X2_isRinging_9]
    exact xg (by decide) (v_isRinging_27 hc hv k8 _ _ (Or.inl ⟨rfl, hr⟩) (Or.inl ⟨rfl, Or.inl hr⟩))
end VV
