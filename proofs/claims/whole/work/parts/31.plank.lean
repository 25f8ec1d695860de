/-! plank -/
def zer (d : Nat → Int32) (N : Nat) : Nat → Nat → Int32
  | 0 => d
  | n + 1 => upd (zer d N n) (23 + 8 * n + N) 0
def comeN (d : Nat → Int32) (N : Nat) (a b : Int32) : Nat → Int32 := upd (upd (upd (zer d N 7) (23 + N) a) (31 + N) b) 0 (nI (N + 1))
theorem zer_0 {d : Nat → Int32} {N : Nat} : ∀ n, zer d N n 0 = d 0
  | 0 => rfl
  | n + 1 => (upd_ne (by omega)).trans (zer_0 n)
theorem m_comes_loop (u : xm_U) (d : Nat → Int32) {N : Nat} (hN : d 0 = nI N) (h8 : N < 8) (a b : Int32) : ∀ (n k : Nat), k + n = 7 → xm_E 137 (xc_X4_comes.drop 7, [some (xv_r 9 0), some (xv_i a), some (xv_i b), some (xv_i (nI N)), some (xv_i (nI k))], [], dU u (zer d N k)) = some (some (xv_i (nI N)), dU u (comeN d N a b)) := by
  intro n
  induction n with
  | zero =>
    intro k hk
    have : k = 7 := by omega
    subst this
    rw [xe_X4_comes_7]
    refine xg (by decide) (xg rfl (xbv (m_setsN (w := 0) _ h8 (by decide) a) (xg rfl (xbv (m_setsN (w := 1) _ h8 (by decide) b) (xg rfl (xg in9_0 (xg in9_0 (xlt ?_))))))))
    rw [dU_us, dU_us, dU_us, dU_d, upd_ne (by omega), upd_ne (by omega), zer_0, hN, nI_1]
    rfl
  | succ n ih =>
    intro k hk
    rw [xe_X4_comes_7]
    refine xn (Int32.not_lt.mpr (nI_le (b := 6) (by omega) (by decide))) (xg rfl (xbv (m_setsN _ h8 (by omega) 0) ?_))
    rw [dU_us, nI_1]
    exact ih (k + 1) (by omega)
theorem m_comes (u : xm_U) {N : Nat} (hN : u.1 9 1 0 = nI N) (h8 : N < 8) (a b : Int32) : xm_C 137 [xv_r 9 0, xv_i a, xv_i b] u = some (some (xv_i (nI N)), dU u (comeN (u.1 9 1) N a b)) := by
  rw [xe_X4_comes]
  refine xg rfl (xg in9_0 (xlt ?_))
  rw [hN]
  have := m_comes_loop u (u.1 9 1) hN h8 a b 7 0 rfl
  rw [show zer (u.1 9 1) N 0 = u.1 9 1 from rfl, dU_self] at this
  exact this
