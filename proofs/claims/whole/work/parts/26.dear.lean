/-! the dearest -/
theorem nI_nle1 {n : Nat} (h : n < 2 ^ 31) : ¬ nI n ≤ -1 := fun q => absurd (Int32.le_trans (nI_pos' h) q) (by decide)
theorem nI_nlt0 {n : Nat} (h : n < 2 ^ 31) : ¬ nI n < 0 := Int32.not_lt.mpr (nI_pos' h)
def dearN (d : Nat → Int32) : Nat → Nat
  | 0 => 0
  | n + 1 => if fetches d (n + 1) ≤ fetches d (dearN d n) then dearN d n else n + 1
def dearI (d : Nat → Int32) : Nat → Int32
  | 0 => -1
  | n + 1 => nI (dearN d n)
def mostI (d : Nat → Int32) : Nat → Int32
  | 0 => -1
  | n + 1 => fetches d (dearN d n)
theorem dearN_le (d : Nat → Int32) : ∀ n, dearN d n ≤ n := by
  intro n
  induction n with
  | zero => exact Nat.le_refl _
  | succ n ih =>
    show (if fetches d (n + 1) ≤ fetches d (dearN d n) then dearN d n else n + 1) ≤ n + 1
    by_cases e : fetches d (n + 1) ≤ fetches d (dearN d n)
    · rw [if_pos e]; omega
    · rw [if_neg e]; omega
theorem dearI_s {d : Nat → Int32} {k : Nat} (e : fetches d k ≤ mostI d k) : dearI d (k + 1) = dearI d k ∧ mostI d (k + 1) = mostI d k := by
  cases k with
  | zero =>
    obtain ⟨n, hn, h⟩ := fetches_nn (d := d) 0
    rw [h] at e
    exact absurd e (nI_nle1 (by omega))
  | succ k =>
    have q : dearN d (k + 1) = dearN d k := if_pos e
    exact ⟨congrArg nI q, congrArg (fetches d) q⟩
theorem dearI_t {d : Nat → Int32} {k : Nat} (e : ¬ fetches d k ≤ mostI d k) : dearI d (k + 1) = nI k ∧ mostI d (k + 1) = fetches d k := by
  cases k with
  | zero => exact ⟨rfl, rfl⟩
  | succ k =>
    have q : dearN d (k + 1) = k + 1 := if_neg e
    exact ⟨congrArg nI q, congrArg (fetches d) q⟩
theorem v_dear_loop {u : xm_U} {i : Nat} {d : Nat → Int32} (hc : xm_cls i = 2) (hv : vd u i d) (hd : inv d) {N : Nat} (hN : d 0 = nI N) (h8 : N ≤ 8) (hq : N = nN d) : ∀ (n k : Nat), k + n = N → xm_E 41 (xc_X2_dearest.drop 6, [some (xv_r i 0), some (xv_i (dearI d k)), some (xv_i (mostI d k)), some (xv_i (nI k))], [], u) = some (some (xv_i (dearI d N)), u) := by
  intro n
  induction n with
  | zero =>
    intro k hk
    have : k = N := by omega
    subst this
    rw [xe_X2_dearest_6, hv.2.2.2.1.2.2.2.2, hN]
    exact xg hc (xg (nI_le (Nat.le_refl _) (by omega)) rfl)
  | succ n ih =>
    intro k hk
    rw [xe_X2_dearest_6, hv.2.2.2.1.2.2.2.2, hN]
    refine xg hc (xn (nI_ge (by omega) (by omega)) (xg hc (xbi (v_fetching hc hv hd (by omega)) ?_)))
    rw [nI_1]
    have hs := ih (k + 1) (by omega)
    by_cases e : fetches d k ≤ mostI d k
    · rw [(dearI_s e).1, (dearI_s e).2] at hs
      exact xg e hs
    · rw [(dearI_t e).1, (dearI_t e).2] at hs
      exact xn e (xg hc (xbi (v_fetching hc hv hd (by omega)) hs))
theorem v_dearest {u : xm_U} {i : Nat} {d : Nat → Int32} (hc : xm_cls i = 2) (hv : vd u i d) (hd : inv d) : xm_C 41 [xv_r i 0] u = some (some (xv_i (dearI d (nN d))), u) := by
  obtain ⟨h8, hN⟩ := inv_nN hd
  rw [xe_X2_dearest]
  exact v_dear_loop hc hv hd hN h8 rfl (nN d) 0 (by omega)
theorem m_dear_loop (u : xm_U) (hd : inv (u.1 9 1)) {N : Nat} (hN : u.1 9 1 0 = nI N) (h8 : N ≤ 8) : ∀ (n k : Nat), k + n = N → xm_E 143 (xc_X4_dearest.drop 4, [some (xv_r 9 0), some (xv_i (dearI (u.1 9 1) k)), some (xv_i (nI k))], [], u) = some (some (xv_i (dearI (u.1 9 1) N)), u) := by
  intro n
  induction n with
  | zero =>
    intro k hk
    have : k = N := by omega
    subst this
    rw [xe_X4_dearest_4, hN]
    exact xg rfl (xg in9_0 (xg (nI_le (Nat.le_refl _) (by omega)) rfl))
  | succ n ih =>
    intro k hk
    rw [xe_X4_dearest_4, hN]
    refine xg rfl (xg in9_0 (xn (nI_ge (by omega) (by omega)) ?_))
    rw [nI_1]
    have hs := ih (k + 1) (by omega)
    cases k with
    | zero => exact xg (show (-1 : Int32) < 0 by decide) hs
    | succ k =>
      have hl := dearN_le (u.1 9 1) k
      refine xn (nI_nlt0 (by omega)) (xg rfl (xbi (m_fetches u hd (by omega)) (xg rfl (xbi (m_fetches u hd (k := dearN (u.1 9 1) k) (by omega)) ?_))))
      by_cases e : fetches (u.1 9 1) (k + 1) ≤ mostI (u.1 9 1) (k + 1)
      · rw [(dearI_s e).1] at hs
        exact xg e hs
      · rw [(dearI_t e).1] at hs
        exact xn e hs
theorem m_dearest (u : xm_U) (hd : inv (u.1 9 1)) : xm_C 143 [xv_r 9 0] u = some (some (xv_i (dearI (u.1 9 1) (nN (u.1 9 1)))), u) := by
  obtain ⟨h8, hN⟩ := inv_nN hd
  rw [xe_X4_dearest]
  exact m_dear_loop u hd hN h8 (nN (u.1 9 1)) 0 (by omega)
