/-! sums, the ringing ones, the dearest -/
def sumN (d : Nat → Int32) (b : Nat) : Nat → Int32
  | 0 => 0
  | n + 1 => sumN d b n + d (b + n)
theorem m_sum_loop (u : xm_U) {w b N : Nat} (hw : w < 7) (hb : b = 23 + 8 * w) (hN : u.1 9 1 0 = nI N) (h8 : N ≤ 8) : ∀ (n k : Nat), k + n = N → xm_E 130 (xc_X4_sumOf.drop 4, [some (xv_r 9 0), some (xv_i (nI w)), some (xv_i (sumN (u.1 9 1) b k)), some (xv_i (nI k))], [], u) = some (some (xv_i (sumN (u.1 9 1) b N)), u) := by
  subst hb
  intro n
  induction n with
  | zero =>
    intro k hk
    have : k = N := by omega
    subst this
    rw [xe_X4_sumOf_4, hN]
    exact xg rfl (xg in9_0 (xg (nI_le (Nat.le_refl _) (by omega)) rfl))
  | succ n ih =>
    intro k hk
    rw [xe_X4_sumOf_4, hN]
    refine xg rfl (xg in9_0 (xn (nI_ge (by omega) (by omega)) (xg rfl (xbi (m_itsN u (by omega) hw) (xlt ?_)))))
    rw [nI_1]
    exact ih (k + 1) (by omega)
theorem m_sumOf (u : xm_U) (hd : inv (u.1 9 1)) {w : Nat} (hw : w < 7) : xm_C 130 [xv_r 9 0, xv_i (nI w)] u = some (some (xv_i (sumN (u.1 9 1) (23 + 8 * w) (nN (u.1 9 1)))), u) := by
  obtain ⟨h8, hN⟩ := inv_nN hd
  rw [xe_X4_sumOf]
  exact m_sum_loop u hw rfl hN h8 (nN (u.1 9 1)) 0 (by omega)
theorem v_sum_loop {u : xm_U} {i : Nat} {d : Nat → Int32} (hc : xm_cls i = 2) (hv : vd u i d) {p b N : Nat} (hp : xm_ln 2 p = some 8) (hr : ∀ k, k < 8 → u.1 i p k = d (b + k)) (hN : d 0 = nI N) (h8 : N ≤ 8) : ∀ (n k : Nat), k + n = N → xm_E 42 (xc_X2_sumOf.drop 4, [some (xv_r i 0), some (xv_r i p), some (xv_i (sumN d b k)), some (xv_i (nI k))], [], u) = some (some (xv_i (sumN d b N)), u) := by
  intro n
  induction n with
  | zero =>
    intro k hk
    have : k = N := by omega
    subst this
    rw [xe_X2_sumOf_4, hv.2.2.2.1.2.2.2.2, hN]
    exact xg hc (xg (nI_le (Nat.le_refl _) (by omega)) rfl)
  | succ n ih =>
    intro k hk
    rw [xe_X2_sumOf_4, hv.2.2.2.1.2.2.2.2, hN]
    refine xg hc (xn (nI_ge (by omega) (by omega)) (xg (v_in hc hp (by omega) (by decide)) (xlt ?_)))
    rw [nI_1, nI_clamp (by omega), hr k (by omega)]
    exact ih (k + 1) (by omega)
theorem v_sumOf {u : xm_U} {i : Nat} {d : Nat → Int32} (hc : xm_cls i = 2) (hv : vd u i d) (hd : inv d) {p b : Nat} (hp : xm_ln 2 p = some 8) (hr : ∀ k, k < 8 → u.1 i p k = d (b + k)) : xm_C 42 [xv_r i 0, xv_r i p] u = some (some (xv_i (sumN d b (nN d))), u) := by
  obtain ⟨h8, hN⟩ := inv_nN hd
  rw [xe_X2_sumOf]
  exact v_sum_loop hc hv hp hr hN h8 (nN d) 0 (by omega)
noncomputable def ringN (d : Nat → Int32) : Nat → Int32
  | 0 => 0
  | n + 1 => @ite _ (ringsP d n) (Classical.propDecidable _) (ringN d n ||| (1 <<< (nI n &&& 31))) (ringN d n)
theorem ringN_t {d : Nat → Int32} {n : Nat} (h : ringsP d n) : ringN d (n + 1) = ringN d n ||| (1 <<< (nI n &&& 31)) := if_pos h
theorem ringN_f {d : Nat → Int32} {n : Nat} (h : ¬ ringsP d n) : ringN d (n + 1) = ringN d n := if_neg h
theorem m_ring_loop (u : xm_U) {N : Nat} (hN : u.1 9 1 0 = nI N) (h8 : N ≤ 8) : ∀ (n k : Nat), k + n = N → xm_E 131 (xc_X4_ringing.drop 4, [some (xv_r 9 0), some (xv_i (ringN (u.1 9 1) k)), some (xv_i (nI k))], [], u) = some (some (xv_i (ringN (u.1 9 1) N)), u) := by
  intro n
  induction n with
  | zero =>
    intro k hk
    have : k = N := by omega
    subst this
    rw [xe_X4_ringing_4, hN]
    exact xg rfl (xg in9_0 (xg (nI_le (Nat.le_refl _) (by omega)) rfl))
  | succ n ih =>
    intro k hk
    rw [xe_X4_ringing_4, hN]
    refine xg rfl (xg in9_0 (xn (nI_ge (by omega) (by omega)) (xg rfl (xbi (m_isRinging u (by omega)) ?_))))
    rw [nI_1]
    have hs := ih (k + 1) (by omega)
    by_cases e : ringsP (u.1 9 1) k
    · rw [ringN_t e] at hs
      rw [ringsI_t e]
      exact xn (by decide) (xlt hs)
    · rw [ringN_f e] at hs
      rw [ringsI_f e, or_z]
      exact xg rfl (xlt hs)
theorem m_ringing (u : xm_U) (hd : inv (u.1 9 1)) : xm_C 131 [xv_r 9 0] u = some (some (xv_i (ringN (u.1 9 1) (nN (u.1 9 1)))), u) := by
  obtain ⟨h8, hN⟩ := inv_nN hd
  rw [xe_X4_ringing]
  exact m_ring_loop u hN h8 (nN (u.1 9 1)) 0 (by omega)
theorem v_ring_loop {u : xm_U} {i : Nat} {d : Nat → Int32} (hc : xm_cls i = 2) (hv : vd u i d) {N : Nat} (hN : d 0 = nI N) (h8 : N ≤ 8) : ∀ (n k : Nat), k + n = N → xm_E 40 (xc_X2_ringing.drop 4, [some (xv_r i 0), some (xv_i (ringN d k)), some (xv_i (nI k))], [], u) = some (some (xv_i (ringN d N)), u) := by
  intro n
  induction n with
  | zero =>
    intro k hk
    have : k = N := by omega
    subst this
    rw [xe_X2_ringing_4, hv.2.2.2.1.2.2.2.2, hN]
    exact xg hc (xg (nI_le (Nat.le_refl _) (by omega)) rfl)
  | succ n ih =>
    intro k hk
    rw [xe_X2_ringing_4, hv.2.2.2.1.2.2.2.2, hN]
    refine xg hc (xn (nI_ge (by omega) (by omega)) (xg hc (xbi (v_isRinging hc hv (by omega)) ?_)))
    rw [nI_1]
    have hs := ih (k + 1) (by omega)
    by_cases e : ringsP d k
    · rw [ringN_t e] at hs
      rw [ringsI_t e]
      exact xn (by decide) (xlt hs)
    · rw [ringN_f e] at hs
      rw [ringsI_f e]
      exact xg rfl hs
theorem v_ringing {u : xm_U} {i : Nat} {d : Nat → Int32} (hc : xm_cls i = 2) (hv : vd u i d) (hd : inv d) : xm_C 40 [xv_r i 0] u = some (some (xv_i (ringN d (nN d))), u) := by
  obtain ⟨h8, hN⟩ := inv_nN hd
  rw [xe_X2_ringing]
  exact v_ring_loop hc hv hN h8 (nN d) 0 (by omega)
