/-! THE REFERENCE'S SMALL METHODS: its row d is u.1 9 1 -/
theorem m_finds (u : xm_U) {k : Nat} (hk : k < 7) : xm_C 110 [xv_r 9 0, xv_i (nI k)] u = some (some (xv_i (-1000001 - nI k)), xm_us u 9 6 k (u.1 9 6 k + 1)) := by
  rw [xe_X4_finds]
  have hin : xm_in 9 6 (nI k) := xin (vp_in_nI hk (by decide)) rfl
  refine xg rfl (xg hin (xg hin (xlt ?_)))
  rw [nI_clamp (by omega)]
theorem m_in (u : xm_U) (a b c : Int64) : xm_C 111 [xv_l a, xv_l b, xv_l c] u = some (some (xv_i (if b ≤ a ∧ a ≤ c then 1 else 0)), u) := by
  rw [xe_X4_in]
  by_cases h1 : a < b
  · have : ¬ (b ≤ a ∧ a ≤ c) := by rw [il_lt64] at h1; rw [il_le64, il_le64]; omega
    rw [if_neg this]
    exact xg ((cmp_lt a b).mpr h1) (xg nb0 rfl)
  · refine xn (fun z => h1 ((cmp_lt a b).mp z)) ?_
    by_cases h2 : c < a
    · have : ¬ (b ≤ a ∧ a ≤ c) := by rw [il_lt64] at h2; rw [il_le64, il_le64]; omega
      rw [if_neg this]
      exact xg ((cmp_gt a c).mpr h2) (xg nb0 rfl)
    · have : b ≤ a ∧ a ≤ c := by rw [il_lt64] at h1 h2; rw [il_le64, il_le64]; omega
      rw [if_pos this]
      exact xn (fun z => h2 ((cmp_gt a c).mp z)) (xg nb1 rfl)
/-- 'in' of ints, with a result that is a choice -/
theorem m_ini (u : xm_U) (a : Int32) {lo hi : Int64} (l h : Int32) (hl : lo = l.toInt64) (hh : hi = h.toInt64) : xm_C 111 [xv_l a.toInt64, xv_l lo, xv_l hi] u = some (some (xv_i (if l ≤ a ∧ a ≤ h then 1 else 0)), u) := by
  subst hl
  subst hh
  rw [m_in]
  have e : (l.toInt64 ≤ a.toInt64 ∧ a.toInt64 ≤ h.toInt64) ↔ (l ≤ a ∧ a ≤ h) := by rw [il_le64, il_le64, il_le, il_le, il_w, il_w, il_w]
  simp only [e]
def held (v lo hi : Int32) : Int32 := if lo ≤ v then (if v ≤ hi then v else hi) else lo
theorem m_held (u : xm_U) (a b c : Int32) : xm_C 112 [xv_i a, xv_i b, xv_i c] u = some (some (xv_i (held a b c)), u) := by
  rw [xe_X4_held]
  unfold held
  by_cases h1 : b ≤ a
  · refine xg h1 ?_
    rw [if_pos h1]
    by_cases h2 : a ≤ c
    · rw [if_pos h2]; exact xg h2 rfl
    · rw [if_neg h2]; exact xn h2 rfl
  · rw [if_neg h1]; exact xn h1 rfl
theorem m_ix (w k : Nat) : ((23 : Int32) + 8 * nI w) + nI k = nI (23 + 8 * w + k) := by
  rw [show (23 : Int32) = nI 23 from rfl, show (8 : Int32) = nI 8 from rfl, pk_mul, nI_add, nI_add]
theorem m_itsN (u : xm_U) {k w : Nat} (hk : k < 8) (hw : w < 7) : xm_C 117 [xv_r 9 0, xv_i (nI k), xv_i (nI w)] u = some (some (xv_i (u.1 9 1 (23 + 8 * w + k))), u) := by
  rw [xe_X4_its, m_ix]
  refine xg rfl (xg (xin (vp_in_nI (by omega) (by decide)) rfl) ?_)
  rw [nI_clamp (by omega)]
theorem m_setsN (u : xm_U) {k w : Nat} (hk : k < 8) (hw : w < 7) (x : Int32) : xm_C 118 [xv_r 9 0, xv_i (nI k), xv_i (nI w), xv_i x] u = some (none, xm_us u 9 1 (23 + 8 * w + k) x) := by
  rw [xe_X4_sets, m_ix]
  refine xg rfl (xg (xin (vp_in_nI (by omega) (by decide)) rfl) (xlt ?_))
  rw [nI_clamp (by omega)]
theorem m_addsN (u : xm_U) {k w : Nat} (hk : k < 8) (hw : w < 7) (x c : Int32) : xm_C 119 [xv_r 9 0, xv_i (nI k), xv_i (nI w), xv_i x, xv_i c] u = some (none, xm_us u 9 1 (23 + 8 * w + k) (held (u.1 9 1 (23 + 8 * w + k) + x) 0 c)) := by
  rw [xe_X4_adds]
  exact xg rfl (xbi (m_itsN u hk hw) (xbi (m_held _ _ _ _) (xg rfl (xbv (m_setsN _ hk hw _) rfl))))
theorem m_becomes (u : xm_U) {k : Nat} (hk : k < 89) (x : Int32) : xm_C 120 [xv_r 9 0, xv_i (nI k), xv_i x] u = some (some (xv_i (u.1 9 1 k)), xm_us u 9 1 k x) := by
  rw [xe_X4_becomes]
  have hin : xm_in 9 1 (nI k) := xin (vp_in_nI hk (by decide)) rfl
  refine xg rfl (xg hin (xlt (xg rfl (xg hin (xlt ?_)))))
  rw [nI_clamp (by omega)]
theorem m_its0 (u : xm_U) {k : Nat} (hk : k < 8) : xm_C 117 [xv_r 9 0, xv_i (nI k), xv_i 0] u = some (some (xv_i (u.1 9 1 (23 + k))), u) := m_itsN (w := 0) u hk (by decide)
theorem m_sets0 (u : xm_U) {k : Nat} (hk : k < 8) (x : Int32) : xm_C 118 [xv_r 9 0, xv_i (nI k), xv_i 0, xv_i x] u = some (none, xm_us u 9 1 (23 + k) x) := m_setsN (w := 0) u hk (by decide) x
theorem m_adds0 (u : xm_U) {k : Nat} (hk : k < 8) (x c : Int32) : xm_C 119 [xv_r 9 0, xv_i (nI k), xv_i 0, xv_i x, xv_i c] u = some (none, xm_us u 9 1 (23 + k) (held (u.1 9 1 (23 + k) + x) 0 c)) := m_addsN (w := 0) u hk (by decide) x c
theorem m_its1 (u : xm_U) {k : Nat} (hk : k < 8) : xm_C 117 [xv_r 9 0, xv_i (nI k), xv_i 1] u = some (some (xv_i (u.1 9 1 (31 + k))), u) := m_itsN (w := 1) u hk (by decide)
theorem m_sets1 (u : xm_U) {k : Nat} (hk : k < 8) (x : Int32) : xm_C 118 [xv_r 9 0, xv_i (nI k), xv_i 1, xv_i x] u = some (none, xm_us u 9 1 (31 + k) x) := m_setsN (w := 1) u hk (by decide) x
theorem m_adds1 (u : xm_U) {k : Nat} (hk : k < 8) (x c : Int32) : xm_C 119 [xv_r 9 0, xv_i (nI k), xv_i 1, xv_i x, xv_i c] u = some (none, xm_us u 9 1 (31 + k) (held (u.1 9 1 (31 + k) + x) 0 c)) := m_addsN (w := 1) u hk (by decide) x c
theorem m_its2 (u : xm_U) {k : Nat} (hk : k < 8) : xm_C 117 [xv_r 9 0, xv_i (nI k), xv_i 2] u = some (some (xv_i (u.1 9 1 (39 + k))), u) := m_itsN (w := 2) u hk (by decide)
theorem m_sets2 (u : xm_U) {k : Nat} (hk : k < 8) (x : Int32) : xm_C 118 [xv_r 9 0, xv_i (nI k), xv_i 2, xv_i x] u = some (none, xm_us u 9 1 (39 + k) x) := m_setsN (w := 2) u hk (by decide) x
theorem m_adds2 (u : xm_U) {k : Nat} (hk : k < 8) (x c : Int32) : xm_C 119 [xv_r 9 0, xv_i (nI k), xv_i 2, xv_i x, xv_i c] u = some (none, xm_us u 9 1 (39 + k) (held (u.1 9 1 (39 + k) + x) 0 c)) := m_addsN (w := 2) u hk (by decide) x c
theorem m_its3 (u : xm_U) {k : Nat} (hk : k < 8) : xm_C 117 [xv_r 9 0, xv_i (nI k), xv_i 3] u = some (some (xv_i (u.1 9 1 (47 + k))), u) := m_itsN (w := 3) u hk (by decide)
theorem m_sets3 (u : xm_U) {k : Nat} (hk : k < 8) (x : Int32) : xm_C 118 [xv_r 9 0, xv_i (nI k), xv_i 3, xv_i x] u = some (none, xm_us u 9 1 (47 + k) x) := m_setsN (w := 3) u hk (by decide) x
theorem m_adds3 (u : xm_U) {k : Nat} (hk : k < 8) (x c : Int32) : xm_C 119 [xv_r 9 0, xv_i (nI k), xv_i 3, xv_i x, xv_i c] u = some (none, xm_us u 9 1 (47 + k) (held (u.1 9 1 (47 + k) + x) 0 c)) := m_addsN (w := 3) u hk (by decide) x c
theorem m_its4 (u : xm_U) {k : Nat} (hk : k < 8) : xm_C 117 [xv_r 9 0, xv_i (nI k), xv_i 4] u = some (some (xv_i (u.1 9 1 (55 + k))), u) := m_itsN (w := 4) u hk (by decide)
theorem m_sets4 (u : xm_U) {k : Nat} (hk : k < 8) (x : Int32) : xm_C 118 [xv_r 9 0, xv_i (nI k), xv_i 4, xv_i x] u = some (none, xm_us u 9 1 (55 + k) x) := m_setsN (w := 4) u hk (by decide) x
theorem m_adds4 (u : xm_U) {k : Nat} (hk : k < 8) (x c : Int32) : xm_C 119 [xv_r 9 0, xv_i (nI k), xv_i 4, xv_i x, xv_i c] u = some (none, xm_us u 9 1 (55 + k) (held (u.1 9 1 (55 + k) + x) 0 c)) := m_addsN (w := 4) u hk (by decide) x c
theorem m_its5 (u : xm_U) {k : Nat} (hk : k < 8) : xm_C 117 [xv_r 9 0, xv_i (nI k), xv_i 5] u = some (some (xv_i (u.1 9 1 (63 + k))), u) := m_itsN (w := 5) u hk (by decide)
theorem m_sets5 (u : xm_U) {k : Nat} (hk : k < 8) (x : Int32) : xm_C 118 [xv_r 9 0, xv_i (nI k), xv_i 5, xv_i x] u = some (none, xm_us u 9 1 (63 + k) x) := m_setsN (w := 5) u hk (by decide) x
theorem m_adds5 (u : xm_U) {k : Nat} (hk : k < 8) (x c : Int32) : xm_C 119 [xv_r 9 0, xv_i (nI k), xv_i 5, xv_i x, xv_i c] u = some (none, xm_us u 9 1 (63 + k) (held (u.1 9 1 (63 + k) + x) 0 c)) := m_addsN (w := 5) u hk (by decide) x c
theorem m_its6 (u : xm_U) {k : Nat} (hk : k < 8) : xm_C 117 [xv_r 9 0, xv_i (nI k), xv_i 6] u = some (some (xv_i (u.1 9 1 (71 + k))), u) := m_itsN (w := 6) u hk (by decide)
theorem m_sets6 (u : xm_U) {k : Nat} (hk : k < 8) (x : Int32) : xm_C 118 [xv_r 9 0, xv_i (nI k), xv_i 6, xv_i x] u = some (none, xm_us u 9 1 (71 + k) x) := m_setsN (w := 6) u hk (by decide) x
theorem m_adds6 (u : xm_U) {k : Nat} (hk : k < 8) (x c : Int32) : xm_C 119 [xv_r 9 0, xv_i (nI k), xv_i 6, xv_i x, xv_i c] u = some (none, xm_us u 9 1 (71 + k) (held (u.1 9 1 (71 + k) + x) 0 c)) := m_addsN (w := 6) u hk (by decide) x c
/-- copies: 89 places of one row into another -/
def cop (f g : Nat → Int32) (k : Nat) : Nat → Int32 := fun j => if j < k then f j else g j
theorem m_copies_loop {i0 p0 i1 p1 : Nat} (h0 : xm_ln (xm_cls i0) p0 = some 89) (h1 : xm_ln (xm_cls i1) p1 = some 89) (hne : ¬ (i0 = i1 ∧ p0 = p1)) (f g : Nat → Int32) : ∀ (n k : Nat) (u : xm_U), k + n = 89 → u.1 i0 p0 = f → u.1 i1 p1 = cop f g k → xm_E 113 (xc_X4_copies.drop 2, [some (xv_r i0 p0), some (xv_r i1 p1), some (xv_i (nI k))], [], u) = some (none, xm_ua u i1 p1 (cop f g 89)) := by
  intro n
  induction n with
  | zero =>
    intro k u hk hf hg
    have : k = 89 := by omega
    subst this
    rw [xe_X4_copies_2]
    refine xg (by decide) ?_
    have : xm_ua u i1 p1 (cop f g 89) = u := by
      rw [← hg]
      obtain ⟨u1, u2⟩ := u
      unfold xm_ua
      congr 1
      funext i p
      split
      · rename_i z; rw [z.1, z.2]
      · rfl
    rw [this]
  | succ n ih =>
    intro k u hk hf hg
    rw [xe_X4_copies_2]
    have hlt : ¬ (89 : Int32) ≤ nI k := nI_ge (a := k) (b := 89) (by omega) (by decide)
    refine xn hlt (xg (xin (vp_in_nI (by omega) (by decide)) h0) (xg (xin (vp_in_nI (by omega) (by decide)) h1) (xlt ?_)))
    rw [nI_clamp (by omega), nI_1]
    rw [ih (k + 1) _ (by omega) (by rw [us_arr u hne]; exact hf)]
    · congr 2
      unfold xm_us
      obtain ⟨u1, u2⟩ := u
      unfold xm_ua
      congr 1
      funext i p
      by_cases h : i = i1 ∧ p = p1
      · simp [h]
      · simp [h]
    · rw [us_row, hf, hg]
      funext j
      unfold upd cop
      by_cases hj : j = k
      · subst hj; simp
      · have : (j < k + 1) = (j < k) := by apply propext; omega
        simp [hj, this]
theorem m_copies {i0 p0 i1 p1 : Nat} (h0 : xm_ln (xm_cls i0) p0 = some 89) (h1 : xm_ln (xm_cls i1) p1 = some 89) (hne : ¬ (i0 = i1 ∧ p0 = p1)) (u : xm_U) : xm_C 113 [xv_r i0 p0, xv_r i1 p1] u = some (none, xm_ua u i1 p1 (cop (u.1 i0 p0) (u.1 i1 p1) 89)) := by
  rw [xe_X4_copies]
  exact m_copies_loop h0 h1 hne _ _ 89 0 u rfl rfl (by funext j; simp [cop])
