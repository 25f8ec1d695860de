/-! moveAll: numbers -/
def pc (s : Nat) : Nat := s % 2 + s / 2 % 2 + s / 4 % 2 + s / 8 % 2 + s / 16 % 2 + s / 32 % 2 + s / 64 % 2 + s / 128 % 2
theorem pc_bitc : ∀ s, s < 256 → bitc (nI s) = nI (pc s) := by decide +kernel
theorem pc_ones : ∀ s, s < 256 → ones (nI s) = nI (pc s) := by decide +kernel
theorem pc_le : ∀ n, n < 9 → ∀ s, s < 2 ^ n → pc s ≤ n := by decide +kernel
theorem pc_31 (s : Nat) : pc s < 100 := by unfold pc; omega
theorem shl_N : ∀ n, n < 9 → (1 : Int32) <<< (nI n &&& 31) = nI (2 ^ n) := by decide +kernel
theorem shl_P : ∀ n, n < 9 → nI (2 ^ n) - 1 = nI (2 ^ n - 1) := by decide +kernel
theorem pw_le {n : Nat} (h : n ≤ 8) : 1 ≤ 2 ^ n ∧ 2 ^ n ≤ 256 := ⟨Nat.one_le_two_pow, Nat.pow_le_pow_right (n := 2) (by decide) h⟩
noncomputable def bestN (P : Nat → Prop) : Nat → Option Nat
  | 0 => none
  | m + 1 => @ite _ (P m ∧ ∀ b, bestN P m = some b → pc m < pc b) (Classical.propDecidable _) (some m) (bestN P m)
theorem bestN_t {P : Nat → Prop} {m : Nat} (h : P m ∧ ∀ b, bestN P m = some b → pc m < pc b) : bestN P (m + 1) = some m := if_pos h
theorem bestN_f {P : Nat → Prop} {m : Nat} (h : ¬ (P m ∧ ∀ b, bestN P m = some b → pc m < pc b)) : bestN P (m + 1) = bestN P m := if_neg h
theorem bestN_P {P : Nat → Prop} : ∀ m b, bestN P m = some b → P b ∧ b < m := by
  intro m
  induction m with
  | zero => intro b h; cases h
  | succ m ih =>
    intro b h
    by_cases c : P m ∧ ∀ b, bestN P m = some b → pc m < pc b
    · rw [bestN_t c] at h
      cases h
      exact ⟨c.1, Nat.lt_succ_self _⟩
    · rw [bestN_f c] at h
      exact ⟨(ih b h).1, Nat.lt_succ_of_lt (ih b h).2⟩
theorem bestN_is {P : Nat → Prop} {M s0 k : Nat} (h1 : P s0) (hk : pc s0 = k) (h2 : s0 < M) (hm1 : ∀ j, j < k → ¬ ∃ s, s < M ∧ pc s = j ∧ P s) (hm2 : ∀ s, s < s0 → ¬ (pc s = k ∧ P s)) : bestN P M = some s0 := by
  have key : ∀ m, s0 + 1 + m ≤ M → bestN P (s0 + 1 + m) = some s0 := by
    intro m
    induction m with
    | zero =>
      intro _
      refine bestN_t ⟨h1, fun b hb => ?_⟩
      obtain ⟨q1, q2⟩ := bestN_P _ _ hb
      have n1 : ¬ pc b < k := fun q => hm1 _ q ⟨b, by omega, rfl, q1⟩
      have n2 : ¬ pc b = k := fun q => hm2 b q2 ⟨q, q1⟩
      omega
    | succ m ih =>
      intro hm
      have e := ih (by omega)
      refine (bestN_f (m := s0 + 1 + m) (fun c => ?_)).trans e
      have := c.2 s0 e
      exact hm1 _ (hk ▸ this) ⟨s0 + 1 + m, by omega, rfl, c.1⟩
  have := key (M - (s0 + 1)) (by omega)
  rwa [show s0 + 1 + (M - (s0 + 1)) = M by omega] at this
theorem bestN_no {P : Nat → Prop} {M : Nat} (h : ∀ s, s < M → ¬ P s) : bestN P M = none := by
  cases e : bestN P M with
  | none => rfl
  | some b => exact absurd (bestN_P _ _ e).1 (h b (bestN_P _ _ e).2)
def bvI : Option Nat → Int32
  | none => -1
  | some b => nI b
/-! planks moved -/
def mvN (d : Nat → Int32) (s h : Int32) : Nat → Nat → Int32
  | 0 => d
  | k + 1 => if ((s >>> (nI k &&& 31)) &&& 1) = 1 then upd (mvN d s h k) (31 + k) h else mvN d s h k
theorem mvN_t {d : Nat → Int32} {s h : Int32} {k : Nat} (c : ((s >>> (nI k &&& 31)) &&& 1) = 1) : mvN d s h (k + 1) = upd (mvN d s h k) (31 + k) h := if_pos c
theorem mvN_f {d : Nat → Int32} {s h : Int32} {k : Nat} (c : ¬ ((s >>> (nI k &&& 31)) &&& 1) = 1) : mvN d s h (k + 1) = mvN d s h k := if_neg c
theorem inv_mvN {d : Nat → Int32} (hd : inv d) (s : Int32) {h : Int32} (hh : bd h 5) : ∀ k, k ≤ 8 → inv (mvN d s h k) := by
  intro k
  induction k with
  | zero => intro _; exact hd
  | succ k ih =>
    intro hk
    by_cases c : ((s >>> (nI k &&& 31)) &&& 1) = 1
    · rw [mvN_t c]; exact inv_upd (ih (by omega)) (by omega) (by omega) ((okb_31 (by omega) _).mpr hh)
    · rw [mvN_f c]; exact ih (by omega)
theorem mvN_o {d : Nat → Int32} (s h : Int32) {j : Nat} (hj : j < 31 ∨ 39 ≤ j) : ∀ k, k ≤ 8 → mvN d s h k j = d j := by
  intro k
  induction k with
  | zero => intro _; rfl
  | succ k ih =>
    intro hk
    by_cases c : ((s >>> (nI k &&& 31)) &&& 1) = 1
    · rw [mvN_t c, upd_ne (by omega)]; exact ih (by omega)
    · rw [mvN_f c]; exact ih (by omega)
noncomputable def mvY (d : Nat → Int32) (h : Int32) (n s : Nat) : Nat → Int32 := yearsG (mvN d (nI s) h (nN d)) n
def allP (d : Nat → Int32) (h : Int32) (n s : Nat) : Prop := ringN (mvY d h n s) (nN d) = nI (2 ^ nN d - 1)
theorem inv_mvY {d : Nat → Int32} (hd : inv d) {h : Int32} (hh : bd h 5) (n s : Nat) : inv (mvY d h n s) := inv_yearsG (inv_mvN hd _ hh _ (inv_nN hd).1) n
theorem mvY_0 {d : Nat → Int32} (hd : inv d) {h : Int32} (hh : bd h 5) (n s : Nat) : mvY d h n s 0 = d 0 := (yearsG_0 (inv_mvN hd _ hh _ (inv_nN hd).1) n).trans (mvN_o _ _ (Or.inl (by decide)) _ (inv_nN hd).1)
theorem x_all_loop {d : Nat → Int32} (hd : inv d) {h : Int32} (hh : bd h 5) {n s : Nat} (hn : n < 2 ^ 31) : ∀ (m k : Nat) (u : xm_U), k + m = nN d → vd u 2 (mvN d (nI s) h k) → ∃ u', xm_E 103 (xc_X3_allRingIfMoved.drop 7, [some (xv_r 0 0), some (xv_i (nI s)), some (xv_i h), some (xv_i (nI n)), some (xv_i (nI k))], [], u) = some (some (xv_i (bI (allP d h n s))), u') ∧ oth u u' 2 := by
  obtain ⟨h8, hN⟩ := inv_nN hd
  intro m
  induction m with
  | zero =>
    intro k u hk hv
    have : k = nN d := by omega
    subst this
    obtain ⟨u1, p1, p2, p3⟩ := v_passYears (i := 2) rfl hv (inv_mvN hd _ hh _ h8) hn
    refine ⟨u1, ?_, p3⟩
    have e1 := p2.2.2.2.1.2.2.2.2
    rw [show yearsG (mvN d (nI s) h (nN d)) n 0 = nI (nN d) from (mvY_0 hd hh n s).trans hN] at e1
    have hr := v_ringing (i := 2) rfl p2 (inv_mvY hd hh n s)
    rw [show nN (yearsG (mvN d (nI s) h (nN d)) n) = nN d from nN_of (mvY_0 hd hh n s)] at hr
    rw [xe_X3_allRingIfMoved_7]
    refine xg rfl (xg rfl (xg ?_ (xg rfl (xg rfl (xbv p1 (xg rfl (xg rfl (xbi hr (?_)))))))))
    · rw [hv.2.2.2.1.2.2.2.2, mvN_o _ _ (Or.inl (by decide)) _ h8, hN]
      exact nI_le (Nat.le_refl _) (by omega)
    · rw [e1, shl_N _ (by omega), shl_P _ (by omega)]
      by_cases c : allP d h n s
      · rw [bI_t c]
        exact xg rfl (xg rfl (xn (fun q => q c) (xg nb1 rfl)))
      · rw [bI_f c]
        exact xg rfl (xg rfl (xg c (xg nb0 rfl)))
  | succ m ih =>
    intro k u hk hv
    have e0 : u.1 2 0 7 = nI (nN d) := by rw [hv.2.2.2.1.2.2.2.2, mvN_o _ _ (Or.inl (by decide)) _ (by omega), hN]
    by_cases c : ((nI s >>> (nI k &&& 31)) &&& 1) = 1
    · have hv2 := vw_10 hv (k := k) (by omega) h
      rw [← mvN_t c] at hv2
      obtain ⟨u', e, o⟩ := ih (k + 1) _ (by omega) hv2
      refine ⟨u', ?_, oth_tr (oth_us _ _ _ _ _) o⟩
      rw [xe_X3_allRingIfMoved_7]
      refine xg rfl (xg rfl (xn ((by rw [e0]; exact nI_ge (by omega) (by omega))) (xn ((fun q => q c)) (xg rfl (xg rfl (xg (v_in rfl (n := 8) rfl (by omega) (by decide)) (xlt (?_))))))))
      rw [nI_1, nI_clamp (by omega)]
      exact e
    · rw [← mvN_f c] at hv
      obtain ⟨u', e, o⟩ := ih (k + 1) _ (by omega) hv
      refine ⟨u', ?_, o⟩
      rw [xe_X3_allRingIfMoved_7]
      refine xg rfl (xg rfl (xn ((by rw [e0]; exact nI_ge (by omega) (by omega))) (xg c (?_))))
      rw [nI_1]
      exact e
theorem x_all {d : Nat → Int32} (hd : inv d) {h : Int32} (hh : bd h 5) {n : Nat} (hn : n < 2 ^ 31) (s : Nat) {u0 u : xm_U} (hv0 : vd u0 1 d) (ho : oth u0 u 2) : ∃ u', xm_C 103 [xv_r 0 0, xv_i (nI s), xv_i h, xv_i (nI n)] u = some (some (xv_i (bI (allP d h n s))), u') ∧ oth u0 u' 2 := by
  obtain ⟨u1, q1, q2, q3⟩ := v_become (i := 2) (i1 := 1) rfl rfl (by decide) (vd_of (ho.1 1 (by decide)) hv0)
  obtain ⟨u', e, o⟩ := x_all_loop hd hh (s := s) hn (nN d) 0 u1 (by omega) q2
  refine ⟨u', ?_, oth_tr ho (oth_tr q3 o)⟩
  rw [xe_X3_allRingIfMoved]
  exact xg rfl (xg rfl (xg rfl (xbv q1 (e))))
def hitP (d : Nat → Int32) (h : Int32) (n k s : Nat) : Prop := pc s = k ∧ allP d h n s
theorem x_mv27 {d : Nat → Int32} (hd : inv d) {h : Int32} (hh : bd h 5) {n k : Nat} (hn : n < 2 ^ 31) (hk : k < 100) {u0 : xm_U} (hv0 : vd u0 1 d) (m : Nat) (hm : m ≤ 2 ^ nN d) (hq : ∀ j, j < m → ¬ hitP d h n k j) (u : xm_U) (ho : oth u0 u 2) : ∃ u', (∀ r, xm_E 71 (xc_X3_moveAll.drop 27, [some (xv_r 0 0), some (xv_i h), some (xv_i (nI n)), some (xv_i (nI (2 ^ nN d))), some (xv_i (nI k)), some (xv_i (nI m))], [], u') = some r → xm_E 71 (xc_X3_moveAll.drop 27, [some (xv_r 0 0), some (xv_i h), some (xv_i (nI n)), some (xv_i (nI (2 ^ nN d))), some (xv_i (nI k)), some (xv_i 0)], [], u) = some r) ∧ oth u0 u' 2 := by
  have hp := pw_le (inv_nN hd).1
  refine lp (E := fun s u => xm_E 71 (xc_X3_moveAll.drop 27, [some (xv_r 0 0), some (xv_i h), some (xv_i (nI n)), some (xv_i (nI (2 ^ nN d))), some (xv_i (nI k)), some (xv_i (nI s))], [], u)) (I := fun s u => oth u0 u 2) (B := 2 ^ nN d) (Q := hitP d h n k) ?_ m hm hq u ho
  intro s u hs hI hQ
  obtain ⟨u1, e1, o1⟩ := x_all hd hh hn s hv0 hI
  by_cases c : pc s = k
  · have na : ¬ allP d h n s := fun q => hQ ⟨c, q⟩
    refine ⟨u1, fun r e => ?_, o1⟩
    show xm_E 71 (xc_X3_moveAll.drop 27, [some (xv_r 0 0), some (xv_i h), some (xv_i (nI n)), some (xv_i (nI (2 ^ nN d))), some (xv_i (nI k)), some (xv_i (nI s))], [], u) = some r
    rw [xe_X3_moveAll_27]
    refine xn (nI_ge hs (by omega)) (xbi (v_bitCount _ _) (?_))
    rw [pc_bitc s (by omega)]
    refine xn (fun q => q (by rw [c])) (xg rfl (xbi e1 (xg (bI_f na) ?_)))
    rw [nI_1]
    exact e
  · refine ⟨u, fun r e => ?_, hI⟩
    show xm_E 71 (xc_X3_moveAll.drop 27, [some (xv_r 0 0), some (xv_i h), some (xv_i (nI n)), some (xv_i (nI (2 ^ nN d))), some (xv_i (nI k)), some (xv_i (nI s))], [], u) = some r
    rw [xe_X3_moveAll_27]
    refine xn (nI_ge hs (by omega)) (xbi (v_bitCount _ _) (?_))
    rw [pc_bitc s (by omega)]
    refine xg (fun q => c ((nI_eq (by have := pc_31 s; omega) (by omega)).mp q)) ?_
    rw [nI_1]
    exact e
theorem x_mv20 {d : Nat → Int32} (hd : inv d) {h : Int32} (hh : bd h 5) {n : Nat} (hn : n < 2 ^ 31) {u0 : xm_U} (hv0 : vd u0 1 d) (m : Nat) (hm : m ≤ nN d + 1) (hq : ∀ j, j < m → ¬ ∃ s, s < 2 ^ nN d ∧ hitP d h n j s) : ∃ u', (∀ r, xm_E 71 (xc_X3_moveAll.drop 20, [some (xv_r 0 0), some (xv_i h), some (xv_i (nI n)), some (xv_i (nI (2 ^ nN d))), some (xv_i (nI m)), none], [], u') = some r → xm_E 71 (xc_X3_moveAll.drop 20, [some (xv_r 0 0), some (xv_i h), some (xv_i (nI n)), some (xv_i (nI (2 ^ nN d))), some (xv_i 0), none], [], u0) = some r) ∧ oth u0 u' 2 := by
  obtain ⟨h8, hN⟩ := inv_nN hd
  have hp := pw_le h8
  refine lp (E := fun k u => xm_E 71 (xc_X3_moveAll.drop 20, [some (xv_r 0 0), some (xv_i h), some (xv_i (nI n)), some (xv_i (nI (2 ^ nN d))), some (xv_i (nI k)), none], [], u)) (I := fun k u => oth u0 u 2) (B := nN d + 1) (Q := fun k => ∃ s, s < 2 ^ nN d ∧ hitP d h n k s) ?_ m hm hq u0 (oth_rf _ _)
  intro k u hk hI hQ
  obtain ⟨u1, e1, o1⟩ := x_mv27 hd hh hn (k := k) (by omega) hv0 (2 ^ nN d) (Nat.le_refl _) (fun j hj q => hQ ⟨j, hj, q⟩) u hI
  refine ⟨u1, fun r e => ?_, o1⟩
  show xm_E 71 (xc_X3_moveAll.drop 20, [some (xv_r 0 0), some (xv_i h), some (xv_i (nI n)), some (xv_i (nI (2 ^ nN d))), some (xv_i (nI k)), none], [], u) = some r
  rw [xe_X3_moveAll_20, (vd_of (hI.1 1 (by decide)) hv0).2.2.2.1.2.2.2.2, hN]
  refine xg rfl (xg rfl (xn (nI_nlt (by omega) (by omega)) (e1 r ?_)))
  rw [xe_X3_moveAll_27]
  refine xg (nI_le (Nat.le_refl _) (by omega)) (?_)
  rw [nI_1]
  exact xm_E_mono (by repeat (first | exact lq_rf _ | apply lq_r | apply lq_n)) e
/-! the reference -/
theorem upd_self (d : Nat → Int32) (j : Nat) : upd d j (d j) = d := by
  funext i
  unfold upd
  by_cases h : i = j
  · rw [if_pos h, h]
  · rw [if_neg h]
theorem m_mv44 {w0 : xm_U} {d : Nat → Int32} (hw0 : w0.1 9 1 = d) (hd : inv d) {h : Int32} (hh : bd h 5) {n s : Nat} (hn : n < 2 ^ 31) (b : Int32) : ∀ (m k : Nat) (z : xm_U), k + m = nN d → sv w0 (mvN d (nI s) h k) z → ∃ z', (∀ r, xm_E 158 (xc_X4_moveAll.drop 31, [some (xv_r 9 0), some (xv_i h), some (xv_i (nI n)), some (xv_i (nI (2 ^ nN d - 1))), some (xv_i (@ite _ (allP d h n s) (Classical.propDecidable _) (nI s) b)), some (xv_i (nI (s + 1))), none], [], z') = some r → xm_E 158 (xc_X4_moveAll.drop 44, [some (xv_r 9 0), some (xv_i h), some (xv_i (nI n)), some (xv_i (nI (2 ^ nN d - 1))), some (xv_i b), some (xv_i (nI s)), some (xv_i (nI k))], [], z) = some r) ∧ sv w0 d z' := by
  obtain ⟨h8, hN⟩ := inv_nN hd
  intro m
  induction m with
  | zero =>
    intro k z hk hs
    have : k = nN d := by omega
    subst this
    have hi := inv_mvN hd (nI s) hh (nN d) h8
    have hy := sv_years hs hi hn
    have hs3 := sv_dU hs (mvY d h n s)
    have hs4 := sv_again hs3 (e := mvY d h n s) (fun j hj => by unfold mvY; rw [yearsG_hi hi (by omega), mvN_o _ _ (Or.inr (by omega)) _ h8, hw0])
    rw [hw0] at hs4
    have hr := m_ringing (dU z (mvY d h n s)) (by rw [dU_d]; exact inv_mvY hd hh n s)
    rw [dU_d, show nN (mvY d h n s) = nN d from nN_of (mvY_0 hd hh n s)] at hr
    refine ⟨_, fun r e => ?_, hs4⟩
    rw [xe_X4_moveAll_44]
    refine xg rfl (xg (in9n (k := 0) (by decide)) (xg ?_ (xg rfl (xbv hy (xg rfl (xbi hr (?_)))))))
    · rw [hs.2.1, mvN_o _ _ (Or.inl (by decide)) _ h8, hN]
      exact nI_le (Nat.le_refl _) (by omega)
    · rw [nI_1]
      by_cases c : allP d h n s
      · rw [if_pos c] at e
        exact xn (fun q => q c) (xg rfl (xg rfl (xbv (sv_back hs3) (xm_E_mono (by repeat (first | exact lq_rf _ | apply lq_r | apply lq_n)) e))))
      · rw [if_neg c] at e
        exact xg c (xg rfl (xg rfl (xbv (sv_back hs3) (xm_E_mono (by repeat (first | exact lq_rf _ | apply lq_r | apply lq_n)) e))))
  | succ m ih =>
    intro k z hk hs
    have e0 : z.1 9 1 0 = nI (nN d) := by rw [hs.2.1, mvN_o _ _ (Or.inl (by decide)) _ (by omega), hN]
    by_cases c : ((nI s >>> (nI k &&& 31)) &&& 1) = 1
    · have hs2 := sv_dU hs (mvN d (nI s) h (k + 1))
      obtain ⟨z', e, s'⟩ := ih (k + 1) _ (by omega) hs2
      refine ⟨z', fun r q => ?_, s'⟩
      have e1 : xm_C 118 [xv_r 9 0, xv_i (nI k), xv_i 1, xv_i h] z = some (none, dU z (mvN d (nI s) h (k + 1))) := by
        rw [m_sets1 z (by omega), us_dU, hs.2.1, mvN_t c]
      rw [xe_X4_moveAll_44]
      refine xg rfl (xg (in9n (k := 0) (by decide)) (xn ((by rw [e0]; exact nI_ge (by omega) (by omega))) (xn ((fun q => q c)) (xg rfl (xbv e1 (?_))))))
      rw [nI_1]
      exact e r q
    · rw [← mvN_f c] at hs
      obtain ⟨z', e, s'⟩ := ih (k + 1) _ (by omega) hs
      refine ⟨z', fun r q => ?_, s'⟩
      have e2 : xm_C 118 [xv_r 9 0, xv_i (nI k), xv_i 1, xv_i (z.1 9 1 (31 + k))] z = some (none, z) := by
        rw [m_sets1 z (by omega), us_dU, upd_self, dU_self]
      rw [xe_X4_moveAll_44]
      refine xg rfl (xg (in9n (k := 0) (by decide)) (xn ((by rw [e0]; exact nI_ge (by omega) (by omega))) (xg c (xg rfl (xbi (m_its1 z (by omega)) (xg rfl (xbv e2 (?_))))))))
      rw [nI_1]
      exact e r q
theorem m_mv31 {w0 : xm_U} {d : Nat → Int32} (hw0 : w0.1 9 1 = d) (hd : inv d) {h : Int32} (hh : bd h 5) {n : Nat} (hn : n < 2 ^ 31) {z0 : xm_U} (hs0 : sv w0 d z0) : ∃ z, (∀ r, xm_E 158 (xc_X4_moveAll.drop 31, [some (xv_r 9 0), some (xv_i h), some (xv_i (nI n)), some (xv_i (nI (2 ^ nN d - 1))), some (xv_i (bvI (bestN (allP d h n) (2 ^ nN d)))), some (xv_i (nI (2 ^ nN d))), none], [], z) = some r → xm_E 158 (xc_X4_moveAll.drop 31, [some (xv_r 9 0), some (xv_i h), some (xv_i (nI n)), some (xv_i (nI (2 ^ nN d - 1))), some (xv_i (-1)), some (xv_i 0), none], [], z0) = some r) ∧ sv w0 d z := by
  obtain ⟨h8, hN⟩ := inv_nN hd
  have hp := pw_le h8
  refine lp0 (E := fun s z => xm_E 158 (xc_X4_moveAll.drop 31, [some (xv_r 9 0), some (xv_i h), some (xv_i (nI n)), some (xv_i (nI (2 ^ nN d - 1))), some (xv_i (bvI (bestN (allP d h n) s))), some (xv_i (nI s)), none], [], z)) (I := fun s z => sv w0 d z) (B := 2 ^ nN d) ?_ z0 hs0
  intro s z hs hI
  obtain ⟨z1, e1, s1⟩ := m_mv44 hw0 hd hh (s := s) hn (bvI (bestN (allP d h n) s)) (nN d) 0 z (by omega) hI
  by_cases c : ∀ b, bestN (allP d h n) s = some b → pc s < pc b
  · refine ⟨z1, fun r e => ?_, s1⟩
    show xm_E 158 (xc_X4_moveAll.drop 31, [some (xv_r 9 0), some (xv_i h), some (xv_i (nI n)), some (xv_i (nI (2 ^ nN d - 1))), some (xv_i (bvI (bestN (allP d h n) s))), some (xv_i (nI s)), none], [], z) = some r
    have e2 := e1 r (by
      by_cases a : allP d h n s
      · rw [if_pos a, show nI s = bvI (bestN (allP d h n) (s + 1)) by rw [bestN_t ⟨a, c⟩]; rfl]
        exact e
      · rw [if_neg a, show bestN (allP d h n) s = bestN (allP d h n) (s + 1) from (bestN_f (fun q => a q.1)).symm]
        exact e)
    rw [xe_X4_moveAll_31]
    refine xn (nI_nlt (by omega) (by omega)) (?_)
    cases hb : bestN (allP d h n) s with
    | none =>
      rw [hb] at e2
      exact xg (show (-1 : Int32) < 0 by decide) e2
    | some b =>
      rw [hb] at e2
      have hb2 := bestN_P _ _ hb
      refine xn (show ¬ nI b < 0 from nI_pos (by omega)) ?_
      refine xbi (m_ones z (nI s)) (xbi (m_ones z (nI b)) ?_)
      rw [pc_ones s (by omega), pc_ones b (by omega)]
      exact xg (nI_lt (c b hb) (by have := pc_31 b; omega)) e2
  · refine ⟨z, fun r e => ?_, hI⟩
    show xm_E 158 (xc_X4_moveAll.drop 31, [some (xv_r 9 0), some (xv_i h), some (xv_i (nI n)), some (xv_i (nI (2 ^ nN d - 1))), some (xv_i (bvI (bestN (allP d h n) s))), some (xv_i (nI s)), none], [], z) = some r
    have e2 : xm_E 158 (xc_X4_moveAll.drop 31, [some (xv_r 9 0), some (xv_i h), some (xv_i (nI n)), some (xv_i (nI (2 ^ nN d - 1))), some (xv_i (bvI (bestN (allP d h n) s))), some (xv_i (nI (s + 1))), none], [], z) = some r := by
      rw [show bestN (allP d h n) s = bestN (allP d h n) (s + 1) from (bestN_f (fun q => c q.2)).symm]
      exact e
    rw [xe_X4_moveAll_31]
    refine xn (nI_nlt (by omega) (by omega)) (?_)
    cases hb : bestN (allP d h n) s with
    | none => exact (c (fun b q => by rw [hb] at q; cases q)).elim
    | some b =>
      rw [hb] at e2
      have hb2 := bestN_P _ _ hb
      have hc : pc b ≤ pc s := by
        refine Nat.not_lt.mp (fun q => c (fun b' hb' => ?_))
        rw [hb] at hb'
        cases hb'
        exact q
      refine xn (show ¬ nI b < 0 from nI_pos (by omega)) ?_
      refine xbi (m_ones z (nI s)) (xbi (m_ones z (nI b)) ?_)
      rw [pc_ones s (by omega), pc_ones b (by omega)]
      refine xn (nI_nlt hc (by have := pc_31 s; omega)) ?_
      rw [nI_1]
      exact e2
theorem S_moveAll (a b : Int32) : Same 71 158 [xv_i a, xv_i b] := by
  intro u h
  have hv := h.1
  have hd := h.2.1
  by_cases H : bd a 5
  · by_cases B : bd b 20
    · obtain ⟨n, hn, rfl⟩ := bd_nI (n := 20) (by decide) B
      obtain ⟨h8, hN⟩ := inv_nN hd
      have hp := pw_le h8
      have hx7 : (1 : Int32) <<< (u.1 1 0 7 &&& 31) = nI (2 ^ nN (u.1 9 1)) := by rw [hv.2.2.2.1.2.2.2.2, hN]; exact shl_N _ (by omega)
      rcases least (fun k => ∃ s, s < 2 ^ nN (u.1 9 1) ∧ hitP (u.1 9 1) a n k s) (nN (u.1 9 1)) with ⟨k, hk, ⟨s, hs, hit⟩, hl⟩ | hl
      · rcases least (hitP (u.1 9 1) a n k) (2 ^ nN (u.1 9 1) - 1) with ⟨s0, hs0, hit0, hl0⟩ | hl0
        · obtain ⟨u1, e1, o1⟩ := x_mv20 hd H (n := n) (by omega) hv k (by omega) hl
          obtain ⟨u2, e2, o2⟩ := x_mv27 hd H (n := n) (k := k) (by omega) (by omega) hv s0 (by omega) hl0 u1 o1
          obtain ⟨u3, e3, o3⟩ := x_all hd H (n := n) (by omega) s0 hv o2
          have e9 : u3.1 9 1 = u.1 9 1 := by rw [o3.1 9 (by decide)]
          have hs := sv_save u3
          rw [e9] at hs
          obtain ⟨z, e4, s4⟩ := m_mv31 e9 hd H (n := n) (by omega) hs
          rw [bestN_is hit0.2 hit0.1 (M := 2 ^ nN (u.1 9 1)) (by omega) hl hl0] at e4
          rw [← e9] at s4
          refine ⟨xv_i (nI s0), u3, z, ?_, ?_, sv_R0 (Rel_t h o3) s4⟩
          · rw [xe_X3_moveAll]
            refine xbi (x_isHouse _ _) (xn (bI_ne H) (xbi (x_within _ _ _ _) (xg (bI_ne B) (xg rfl (xg rfl (xlt (?_)))))))
            rw [hx7]
            refine e1 _ ?_
            rw [xe_X3_moveAll_20, (vd_of (o1.1 1 (by decide)) hv).2.2.2.1.2.2.2.2, hN]
            refine xg rfl (xg rfl (xn (nI_nlt (by omega) (by omega)) (e2 _ ?_)))
            rw [xe_X3_moveAll_27]
            refine xn (nI_ge (show s0 < 2 ^ nN (u.1 9 1) by omega) (by omega)) (xbi (v_bitCount _ _) (?_))
            rw [pc_bitc s0 (by omega)]
            exact xn (fun q => q (by rw [hit0.1])) (xg rfl (xbi e3 (xn (bI_ne hit0.2) rfl)))
          · rw [xe_X4_moveAll]
            refine xbi (m_isHouse _ _) (xn (bI_ne H) (xbi (m_inb _ _ 0 20 rfl rfl) (xg (bI_ne B) (xg rfl (xg rfl (xbv (m_save _) (xg rfl (xg (in9n (k := 0) (by decide)) (xlt (?_))))))))))
            rw [show (xm_ua u3 9 3 (cop (u3.1 9 1) (u3.1 9 3) 89)).1 9 1 0 = nI (nN (u.1 9 1)) by rw [(sv_save u3).2.1, e9, hN], shl_N _ (by omega), shl_P _ (by omega), e9]
            refine e4 _ ?_
            rw [xe_X4_moveAll_31]
            exact xg (nI_lt (by omega) (by omega)) (xg (nI_pos' (by omega)) (rfl))
        · exact absurd hit (hl0 s (by omega))
      · have hno : ∀ s, s < 2 ^ nN (u.1 9 1) → ¬ allP (u.1 9 1) a n s := fun s hs q => hl (pc s) (pc_le _ (by omega) s hs) ⟨s, hs, rfl, q⟩
        obtain ⟨u1, e1, o1⟩ := x_mv20 hd H (n := n) (by omega) hv (nN (u.1 9 1) + 1) (by omega) (fun j hj => hl j (by omega))
        have e9 : (xm_us u1 0 7 3 (u1.1 0 7 3 + 1)).1 9 1 = u.1 9 1 := by rw [us_obj (i := 0) (i' := 9) _ (by decide), o1.1 9 (by decide)]
        have hs0 := sv_save (xm_us u1 0 7 3 (u1.1 0 7 3 + 1))
        have hs := hs0
        rw [e9] at hs
        obtain ⟨z, e4, s4⟩ := m_mv31 e9 hd H (n := n) (by omega) hs
        rw [bestN_no hno] at e4
        rw [← e9] at s4
        refine ⟨xv_i (-1000004), xm_us u1 0 7 3 (u1.1 0 7 3 + 1), _, ?_, ?_, sv_Rf0 (Rel_t h o1) rfl s4⟩
        · rw [xe_X3_moveAll]
          refine xbi (x_isHouse _ _) (xn (bI_ne H) (xbi (x_within _ _ _ _) (xg (bI_ne B) (xg rfl (xg rfl (xlt (?_)))))))
          rw [hx7]
          refine e1 _ ?_
          rw [xe_X3_moveAll_20, (vd_of (o1.1 1 (by decide)) hv).2.2.2.1.2.2.2.2, hN]
          exact xg rfl (xg rfl (xg (nI_lt (Nat.lt_succ_self _) (by omega)) (xg rfl (xbi (x_f3 _) (rfl)))))
        · rw [xe_X4_moveAll]
          refine xbi (m_isHouse _ _) (xn (bI_ne H) (xbi (m_inb _ _ 0 20 rfl rfl) (xg (bI_ne B) (xg rfl (xg rfl (xbv (m_save _) (xg rfl (xg (in9n (k := 0) (by decide)) (xlt (?_))))))))))
          rw [show (xm_ua (xm_us u1 0 7 3 (u1.1 0 7 3 + 1)) 9 3 (cop ((xm_us u1 0 7 3 (u1.1 0 7 3 + 1)).1 9 1) ((xm_us u1 0 7 3 (u1.1 0 7 3 + 1)).1 9 3) 89)).1 9 1 0 = nI (nN (u.1 9 1)) by rw [hs0.2.1, e9, hN], shl_N _ (by omega), shl_P _ (by omega), e9]
          refine e4 _ ?_
          rw [xe_X4_moveAll_31]
          exact xg (nI_lt (by omega) (by omega)) (xn ((show ¬ (0 : Int32) ≤ -1 by decide)) (xg rfl (xbi (m_f3 _) (rfl))))
    · refine S_fail h 0 (r := xv_i (-1000001)) ?_ ?_
      · rw [xe_X3_moveAll]
        exact xbi (x_isHouse _ _) (xn (bI_ne H) (xbi (x_within _ _ _ _) (xn (bI_nn B) (xg rfl (xbi (x_f0 _) (rfl))))))
      · rw [xe_X4_moveAll]
        exact xbi (m_isHouse _ _) (xn (bI_ne H) (xbi (m_inb _ _ 0 20 rfl rfl) (xn (bI_nn B) (xg rfl (xbi (m_f0 _) (rfl))))))
  · refine S_fail h 0 (r := xv_i (-1000001)) ?_ ?_
    · rw [xe_X3_moveAll]
      exact xbi (x_isHouse _ _) (xg (bI_f H) (xg rfl (xbi (x_f0 _) (rfl))))
    · rw [xe_X4_moveAll]
      exact xbi (m_isHouse _ _) (xg (bI_f H) (xg rfl (xbi (m_f0 _) (rfl))))
