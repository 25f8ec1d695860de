/-! conditions as answers; the checks that public methods begin with -/
noncomputable def bI (c : Prop) : Int32 := @ite Int32 c (Classical.propDecidable c) 1 0
theorem bI_t {c : Prop} (h : c) : bI c = 1 := if_pos h
theorem bI_f {c : Prop} (h : ¬ c) : bI c = 0 := if_neg h
theorem bI_0 (c : Prop) : (bI c = 0) = ¬ c := by
  apply propext
  by_cases h : c
  · rw [bI_t h]; simp [h]
  · rw [bI_f h]; simp [h]
theorem bI_n (c : Prop) : narrow .boolean (.int (bI c)) = .int (bI c) := by
  by_cases h : c
  · rw [bI_t h]; exact nb1
  · rw [bI_f h]; exact nb0
theorem bI_ite (c : Prop) [Decidable c] : (if c then (1 : Int32) else 0) = bI c := by
  by_cases h : c
  · rw [bI_t h, if_pos h]
  · rw [bI_f h, if_neg h]
theorem x_within (u : xm_U) (a b c : Int32) : xm_C 93 [xv_i a, xv_i b, xv_i c] u = some (some (xv_i (bI (b ≤ a ∧ a ≤ c))), u) := by
  rw [xe_X3_within]
  by_cases h1 : a < b
  · rw [bI_f (fun z => il_ltn h1 z.1)]; exact xg h1 (xg nb0 rfl)
  · refine xn h1 ?_
    by_cases h2 : c < a
    · rw [bI_f (fun z => il_ltn h2 z.2)]; exact xg h2 (xg nb0 rfl)
    · rw [bI_t ⟨il_nlt h1, il_nlt h2⟩]; exact xn h2 (xg nb1 rfl)
theorem m_inb (u : xm_U) (a : Int32) {lo hi : Int64} (l h : Int32) (hl : lo = l.toInt64) (hh : hi = h.toInt64) : xm_C 111 [xv_l a.toInt64, xv_l lo, xv_l hi] u = some (some (xv_i (bI (l ≤ a ∧ a ≤ h))), u) := by
  rw [m_ini u a l h hl hh, bI_ite]
theorem x_isHouse (u : xm_U) (a : Int32) : xm_C 94 [xv_i a] u = some (some (xv_i (bI (bd a 5))), u) := by
  rw [xe_X3_isHouse]; exact xbi (x_within u a 0 5) (xg (bI_n _) rfl)
theorem x_isSpot (u : xm_U) (a : Int32) : xm_C 95 [xv_i a] u = some (some (xv_i (bI (bd a 9))), u) := by
  rw [xe_X3_isSpot]; exact xbi (x_within u a 0 9) (xg (bI_n _) rfl)
theorem x_isSheet (u : xm_U) (a : Int32) : xm_C 96 [xv_i a] u = some (some (xv_i (bI (bd a 3))), u) := by
  rw [xe_X3_isSheet]; exact xbi (x_within u a 0 3) (xg (bI_n _) rfl)
theorem x_isPlank (u : xm_U) (a : Int32) {d : Nat → Int32} (hv : vd u 1 d) : xm_C 97 [xv_r 0 0, xv_i a] u = some (some (xv_i (bI (bd a (d 0 - 1)))), u) := by
  rw [xe_X3_isPlank, hv.2.2.2.1.2.2.2.2]
  exact xg rfl (xg rfl (xbi (x_within u a 0 _) (xg (bI_n _) rfl)))
theorem m_isHouse (u : xm_U) (a : Int32) : xm_C 115 [xv_i a] u = some (some (xv_i (bI (bd a 5))), u) := by
  rw [xe_X4_isHouse]; exact xbi (m_inb u a 0 5 rfl rfl) (xg (bI_n _) rfl)
theorem m_isEvent (u : xm_U) (a : Int32) : xm_C 116 [xv_i a] u = some (some (xv_i (bI (bd a 599))), u) := by
  rw [xe_X4_isEvent]; exact xbi (m_inb u a 0 599 rfl rfl) (xg (bI_n _) rfl)
theorem m_isShort (u : xm_U) (a : Int32) : xm_C 152 [xv_i a] u = some (some (xv_i (bI (bd a 60))), u) := by
  rw [xe_X4_isShort]; exact xbi (m_inb u a 0 60 rfl rfl) (xg (bI_n _) rfl)
theorem m_isSheet (u : xm_U) (a : Int32) : xm_C 188 [xv_i a] u = some (some (xv_i (bI (bd a 3))), u) := by
  rw [xe_X4_isSheet]; exact xbi (m_inb u a 0 3 rfl rfl) (xg (bI_n _) rfl)
theorem m_isPlank (u : xm_U) (a : Int32) : xm_C 114 [xv_r 9 0, xv_i a] u = some (some (xv_i (bI (bd a (u.1 9 1 0 - 1)))), u) := by
  rw [xe_X4_isPlank]
  exact xg rfl (xg in9_0 (xbi (m_inb u a 0 (u.1 9 1 0 - 1) rfl rfl) (xg (bI_n _) rfl)))
/-- a plank's number -/
theorem pl_of {d : Nat → Int32} (hd : inv d) {a : Int32} (h : bd a (d 0 - 1)) : ∃ k, k < nN d ∧ a = nI k := by
  obtain ⟨h8, hN⟩ := inv_nN hd
  obtain ⟨h1, h2⟩ := h
  by_cases h0 : nN d = 0
  · exfalso
    rw [hN, h0, show nI 0 - 1 = -1 from rfl] at h2
    rw [il_le] at h1 h2
    rw [show (0 : Int32).toInt = 0 from rfl] at h1
    rw [show (-1 : Int32).toInt = -1 from rfl] at h2
    omega
  · rw [hN, show (1 : Int32) = nI 1 from rfl, pk_sub (by omega)] at h2
    obtain ⟨k, hk, e⟩ := bd_nI (n := nN d - 1) (by omega) ⟨h1, h2⟩
    exact ⟨k, by omega, e⟩
theorem x_finding (u : xm_U) {f : Nat} (hf : f < 7) : xm_C 92 [xv_r 0 0, xv_i (-1000001 - nI f)] u = some (some (xv_i (-1000001 - nI f)), xm_us u 0 7 f (u.1 0 7 f + 1)) := by
  rw [xe_X3_finding]
  have e : ∀ f, f < 7 → ((-1000001 : Int32) - (-1000001 - nI f)) = nI f := by decide
  rw [e f hf]
  have hb : 0 ≤ nI f ∧ nI f ≤ 6 := bd_of (n := 6) (by omega) (by decide)
  have hin : xm_in 0 7 (nI f) := xin (vp_in_nI hf (by decide)) rfl
  refine xlt (xbi (x_within u _ 0 6) ?_)
  rw [bI_t hb]
  refine xn (by decide) (xg rfl (xg hin (xg hin (xlt ?_))))
  rw [nI_clamp (by omega)]
theorem x_f0 (u : xm_U) : xm_C 92 [xv_r 0 0, xv_i (-1000001)] u = some (some (xv_i (-1000001)), xm_us u 0 7 0 (u.1 0 7 0 + 1)) := x_finding (f := 0) u (by decide)
theorem m_f0 (u : xm_U) : xm_C 110 [xv_r 9 0, xv_i 0] u = some (some (xv_i (-1000001)), xm_us u 9 6 0 (u.1 9 6 0 + 1)) := m_finds (k := 0) u (by decide)
theorem x_f1 (u : xm_U) : xm_C 92 [xv_r 0 0, xv_i (-1000002)] u = some (some (xv_i (-1000002)), xm_us u 0 7 1 (u.1 0 7 1 + 1)) := x_finding (f := 1) u (by decide)
theorem m_f1 (u : xm_U) : xm_C 110 [xv_r 9 0, xv_i 1] u = some (some (xv_i (-1000002)), xm_us u 9 6 1 (u.1 9 6 1 + 1)) := m_finds (k := 1) u (by decide)
theorem x_f2 (u : xm_U) : xm_C 92 [xv_r 0 0, xv_i (-1000003)] u = some (some (xv_i (-1000003)), xm_us u 0 7 2 (u.1 0 7 2 + 1)) := x_finding (f := 2) u (by decide)
theorem m_f2 (u : xm_U) : xm_C 110 [xv_r 9 0, xv_i 2] u = some (some (xv_i (-1000003)), xm_us u 9 6 2 (u.1 9 6 2 + 1)) := m_finds (k := 2) u (by decide)
theorem x_f3 (u : xm_U) : xm_C 92 [xv_r 0 0, xv_i (-1000004)] u = some (some (xv_i (-1000004)), xm_us u 0 7 3 (u.1 0 7 3 + 1)) := x_finding (f := 3) u (by decide)
theorem m_f3 (u : xm_U) : xm_C 110 [xv_r 9 0, xv_i 3] u = some (some (xv_i (-1000004)), xm_us u 9 6 3 (u.1 9 6 3 + 1)) := m_finds (k := 3) u (by decide)
theorem x_f4 (u : xm_U) : xm_C 92 [xv_r 0 0, xv_i (-1000005)] u = some (some (xv_i (-1000005)), xm_us u 0 7 4 (u.1 0 7 4 + 1)) := x_finding (f := 4) u (by decide)
theorem m_f4 (u : xm_U) : xm_C 110 [xv_r 9 0, xv_i 4] u = some (some (xv_i (-1000005)), xm_us u 9 6 4 (u.1 9 6 4 + 1)) := m_finds (k := 4) u (by decide)
theorem x_f5 (u : xm_U) : xm_C 92 [xv_r 0 0, xv_i (-1000006)] u = some (some (xv_i (-1000006)), xm_us u 0 7 5 (u.1 0 7 5 + 1)) := x_finding (f := 5) u (by decide)
theorem m_f5 (u : xm_U) : xm_C 110 [xv_r 9 0, xv_i 5] u = some (some (xv_i (-1000006)), xm_us u 9 6 5 (u.1 9 6 5 + 1)) := m_finds (k := 5) u (by decide)
theorem x_f6 (u : xm_U) : xm_C 92 [xv_r 0 0, xv_i (-1000007)] u = some (some (xv_i (-1000007)), xm_us u 0 7 6 (u.1 0 7 6 + 1)) := x_finding (f := 6) u (by decide)
theorem m_f6 (u : xm_U) : xm_C 110 [xv_r 9 0, xv_i 6] u = some (some (xv_i (-1000007)), xm_us u 9 6 6 (u.1 9 6 6 + 1)) := m_finds (k := 6) u (by decide)
/-! BOTH SIDES HOLD THE SAME -/
def kp (u : xm_U) : Prop := u.1 0 0 3 = u.1 9 0 4 ∧ (u.1 0 0 3 = 0 ∨ u.1 0 0 3 = 1) ∧ (u.1 0 0 3 = 1 → vd u 3 (u.1 9 4) ∧ inv (u.1 9 4))
def tp (u : xm_U) : Prop := ∃ n, n ≤ 120 ∧ u.1 4 0 1 = nI n ∧ u.1 9 0 7 = nI n ∧ ∀ k, k < n → ∃ b, b < 256 ∧ u.1 4 1 k = nI b ∧ u.1 9 7 k = (nI b).toInt8.toInt32
def sh (u : xm_U) : Prop := ∀ s, s < 4 → u.1 (5 + s) 0 0 = u.1 9 14 s ∧ u.1 (5 + s) 0 1 = u.1 9 15 s ∧ (u.1 9 14 s = 0 ∨ u.1 9 14 s = 8 ∨ u.1 9 14 s = 16 ∨ u.1 9 14 s = 32) ∧ (∃ n, n ≤ 40 ∧ u.1 9 15 s = nI n) ∧ ∀ k, k < 40 → u.1 (5 + s) 3 k = u.1 9 16 (40 * s + k)
def fd (u : xm_U) : Prop := ∀ k, k < 7 → u.1 0 7 k = u.1 9 6 k
def Rel (u : xm_U) : Prop := vd u 1 (u.1 9 1) ∧ inv (u.1 9 1) ∧ kp u ∧ fd u ∧ tp u ∧ sh u
theorem vd_of {u v : xm_U} {i : Nat} {d : Nat → Int32} (h : v.1 i = u.1 i) (hv : vd u i d) : vd v i d := by
  unfold vd at hv ⊢
  rw [h]
  exact hv
/-- a finding on both sides -/
theorem Rel_f {u : xm_U} (h : Rel u) (f : Nat) : Rel (xm_us (xm_us u 0 7 f (u.1 0 7 f + 1)) 9 6 f ((xm_us u 0 7 f (u.1 0 7 f + 1)).1 9 6 f + 1)) := by
  obtain ⟨h1, h2, h3, h4, h5, h6⟩ := h
  generalize hw : xm_us u 0 7 f (u.1 0 7 f + 1) = w
  generalize hz : xm_us w 9 6 f (w.1 9 6 f + 1) = z
  have a1 : ∀ i, i ≠ 0 → i ≠ 9 → z.1 i = u.1 i := fun i h0 h9 => by rw [← hz, us_obj _ h9, ← hw, us_obj _ h0]
  have a2 : ∀ p, p ≠ 7 → z.1 0 p = u.1 0 p := fun p hp => by rw [← hz, us_obj _ (by decide), ← hw, us_arr _ (fun q => hp q.2)]
  have a3 : ∀ p, p ≠ 6 → z.1 9 p = u.1 9 p := fun p hp => by rw [← hz, us_arr _ (fun q => hp q.2), ← hw, us_obj _ (by decide)]
  have b1 : z.1 0 7 = upd (u.1 0 7) f (u.1 0 7 f + 1) := by rw [← hz, us_obj _ (by decide), ← hw, us_row]
  have b2 : z.1 9 6 = upd (u.1 9 6) f (u.1 9 6 f + 1) := by rw [← hz, us_row, ← hw, us_obj _ (by decide)]
  refine ⟨?_, ?_, ?_, ?_, ?_, ?_⟩
  · rw [a3 1 (by decide)]; exact vd_of (a1 1 (by decide) (by decide)) h1
  · rw [a3 1 (by decide)]; exact h2
  · unfold kp at h3 ⊢
    rw [a2 0 (by decide), a3 0 (by decide), a3 4 (by decide)]
    exact ⟨h3.1, h3.2.1, fun q => ⟨vd_of (a1 3 (by decide) (by decide)) (h3.2.2 q).1, (h3.2.2 q).2⟩⟩
  · intro k hk
    rw [b1, b2]
    unfold upd
    rw [h4 k hk]
    by_cases e : k = f
    · subst e; rw [if_pos rfl, if_pos rfl, h4 k hk]
    · rw [if_neg e, if_neg e]
  · unfold tp at h5 ⊢
    rw [a1 4 (by decide) (by decide), a3 0 (by decide), a3 7 (by decide)]
    exact h5
  · intro s hs
    have := h6 s hs
    rw [a1 (5 + s) (by omega) (by omega), a3 14 (by decide), a3 15 (by decide), a3 16 (by decide)]
    exact this
/-- the same call on both sides: the same answer, and both hold the same -/
def Same (x y : Nat) (a : List xm_V) : Prop := ∀ u, Rel u → ∃ r u1 u2, xm_C x (xv_r 0 0 :: a) u = some (some r, u1) ∧ xm_C y (xv_r 9 0 :: a) u1 = some (some r, u2) ∧ Rel u2
