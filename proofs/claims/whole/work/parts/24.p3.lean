/-! LOOKING AHEAD: the class on its trial, the reference in its row, which it puts back -/
theorem vd_d {u : xm_U} {i : Nat} {d e : Nat → Int32} (hv : vd u i d) (h : ∀ k, k < 89 → e k = d k) : vd u i e := by
  obtain ⟨h1, h2, h3, ⟨a1, a2, a3, a4, a5⟩, h5, h6⟩ := hv
  refine ⟨fun k hk => (h1 k hk).trans (h _ (by omega)).symm, fun k hk => (h2 k hk).trans (h _ (by omega)).symm, fun k hk => (h3 k hk).trans (h _ (by omega)).symm, ⟨a1.trans (h _ (by omega)).symm, a2.trans (h _ (by omega)).symm, a3.trans (h _ (by omega)).symm, a4.trans (h _ (by omega)).symm, a5.trans (h _ (by omega)).symm⟩, fun k hk => ?_, fun s hs => by rw [h6 s hs, h _ (by omega)]⟩
  obtain ⟨b1, b2, b3, b4, b5, b6, b7⟩ := h5 k hk
  exact ⟨b1.trans (h _ (by omega)).symm, b2.trans (h _ (by omega)).symm, b3.trans (h _ (by omega)).symm, b4.trans (h _ (by omega)).symm, b5.trans (h _ (by omega)).symm, b6.trans (h _ (by omega)).symm, b7.trans (h _ (by omega)).symm⟩
theorem inv_d {d e : Nat → Int32} (hd : inv d) (h : ∀ k, k < 89 → e k = d k) : inv e := by
  refine ⟨by rw [h 0 (by decide)]; exact hd.1, fun j h1 h2 => by rw [h j (by omega)]; exact hd.2.1 j h1 h2, fun s hs => by rw [h (79 + s) (by omega), h 0 (by decide)]; exact hd.2.2 s hs⟩
/-- what is no part of what both hold may change: the trial; of the reference the row behind its end, 'e', 'aside', 'passing', the reader's fields -/
theorem Rel_fr {u z : xm_U} (h : Rel u) (h0 : ∀ i, i ≠ 2 → i ≠ 9 → z.1 i = u.1 i) (h1 : ∀ k, k < 89 → z.1 9 1 k = u.1 9 1 k) (h4 : z.1 9 0 4 = u.1 9 0 4) (h7 : z.1 9 0 7 = u.1 9 0 7) (hp : ∀ p, p = 4 ∨ p = 6 ∨ p = 7 ∨ p = 14 ∨ p = 15 ∨ p = 16 → z.1 9 p = u.1 9 p) : Rel z := by
  obtain ⟨r1, r2, r3, r4, r5, r6⟩ := h
  refine ⟨vd_of (h0 1 (by decide) (by decide)) (vd_d r1 h1), inv_d r2 h1, ?_, ?_, ?_, ?_⟩
  · unfold kp at r3 ⊢
    rw [h0 0 (by decide) (by decide), h4, hp 4 (by decide)]
    exact ⟨r3.1, r3.2.1, fun q => ⟨vd_of (h0 3 (by decide) (by decide)) (r3.2.2 q).1, (r3.2.2 q).2⟩⟩
  · intro k hk
    rw [h0 0 (by decide) (by decide), hp 6 (by decide)]
    exact r4 k hk
  · unfold tp at r5 ⊢
    rw [h0 4 (by decide) (by decide), h7, hp 7 (by decide)]
    exact r5
  · intro s hs
    have := r6 s hs
    rw [h0 (5 + s) (by omega) (by omega), hp 14 (by decide), hp 15 (by decide), hp 16 (by decide)]
    exact this
/-- the trial alone has changed -/
theorem Rel_t {u z : xm_U} (h : Rel u) (ho : oth u z 2) : Rel z := Rel_fr h (fun i h2 _ => ho.1 i h2) (fun k _ => by rw [ho.1 9 (by decide)]) (by rw [ho.1 9 (by decide)]) (by rw [ho.1 9 (by decide)]) (fun p _ => by rw [ho.1 9 (by decide)])
theorem m_save (u : xm_U) : xm_C 113 [xv_r 9 1, xv_r 9 3] u = some (none, xm_ua u 9 3 (cop (u.1 9 1) (u.1 9 3) 89)) := m_copies rfl rfl (by decide) u
theorem m_back (u : xm_U) : xm_C 113 [xv_r 9 3, xv_r 9 1] u = some (none, dU u (cop (u.1 9 3) (u.1 9 1) 89)) := m_copies rfl rfl (by decide) u
/-- a state of the reference in a look ahead: its row is d, aside lies that of w -/
def sv (w : xm_U) (d : Nat → Int32) (z : xm_U) : Prop := (∀ i, i ≠ 9 → z.1 i = w.1 i) ∧ z.1 9 1 = d ∧ (∀ k, k < 89 → z.1 9 3 k = w.1 9 1 k) ∧ ∀ p, p ≠ 1 → p ≠ 3 → z.1 9 p = w.1 9 p
theorem sv_save (w : xm_U) : sv w (w.1 9 1) (xm_ua w 9 3 (cop (w.1 9 1) (w.1 9 3) 89)) := by
  refine ⟨fun i hi => ua_obj _ hi, ua_arr _ (by decide), fun k hk => ?_, fun p h1 h3 => ua_arr _ (fun z => h3 z.2)⟩
  rw [ua_row]
  exact if_pos hk
theorem sv_dU {w z : xm_U} {d : Nat → Int32} (h : sv w d z) (e : Nat → Int32) : sv w e (dU z e) := by
  refine ⟨fun i hi => (ua_obj _ hi).trans (h.1 i hi), dU_d _ _, fun k hk => ?_, fun p h1 h3 => (dU_o _ _ (fun z => h1 z.2)).trans (h.2.2.2 p h1 h3)⟩
  rw [dU_o _ _ (by decide)]
  exact h.2.2.1 k hk
/-- put back: both hold what they held -/
theorem sv_Rel {w z : xm_U} {d : Nat → Int32} (hw : Rel w) (h : sv w d z) : Rel (dU z (cop (z.1 9 3) (z.1 9 1) 89)) := by
  refine Rel_fr hw (fun i _ h9 => (ua_obj _ h9).trans (h.1 i h9)) (fun k hk => ?_) ?_ ?_ (fun p hp => ?_)
  · rw [dU_d]
    exact (if_pos hk).trans (h.2.2.1 k hk)
  · rw [dU_o _ _ (by decide), h.2.2.2 0 (by decide) (by decide)]
  · rw [dU_o _ _ (by decide), h.2.2.2 0 (by decide) (by decide)]
  · rw [dU_o _ _ (by omega), h.2.2.2 p (by omega) (by omega)]
theorem sv_years {w z : xm_U} {d : Nat → Int32} (h : sv w d z) (hd : inv d) {n : Nat} (hn : n < 2 ^ 31) : xm_C 129 [xv_r 9 0, xv_i (nI n)] z = some (none, dU z (yearsG d n)) := by
  have := m_yearsGo z d hd hn
  rw [← h.2.1, dU_self] at this
  rw [← h.2.1]
  exact this
theorem m_behind {w z : xm_U} {d : Nat → Int32} (h : sv w d z) (hd : inv d) {n k : Nat} (hn : n < 2 ^ 31) (hk : k < 89) : xm_C 145 [xv_r 9 0, xv_i (nI n), xv_i (nI k)] z = some (some (xv_i (yearsG d n k)), dU z (cop (z.1 9 3) (yearsG d n) 89)) := by
  rw [xe_X4_behind]
  refine xg rfl (xbv (sv_years h hd hn) (xg rfl (xg (in9n hk) ?_)))
  rw [dU_d, nI_clamp (by omega)]
  refine xlt (xg rfl (xg rfl (xbv (m_back _) ?_)))
  rw [dU_dU, dU_d, dU_o _ _ (by decide)]
theorem S_gold (a : Int32) : Same 63 147 [xv_i a] := by
  intro u h
  by_cases c : bd a 100
  · obtain ⟨n, hn, rfl⟩ := bd_nI (n := 100) (by decide) c
    obtain ⟨u1, q1, q2, q3⟩ := v_become (i := 2) (i1 := 1) rfl rfl (by decide) h.1
    obtain ⟨u2, p1, p2, p3⟩ := v_passYears (i := 2) rfl q2 h.2.1 (n := n) (by omega)
    have ho := oth_tr q3 p3
    have hR := Rel_t h ho
    have e9 : u2.1 9 1 = u.1 9 1 := by rw [ho.1 9 (by decide)]
    have hs := sv_save u2
    have hb := m_behind hs hR.2.1 (n := n) (k := 3) (by omega) (by decide)
    have hR2 := sv_Rel hR (sv_dU hs (yearsG (u2.1 9 1) n))
    rw [dU_dU, dU_d, dU_o _ _ (by decide)] at hR2
    refine ⟨xv_i (yearsG (u.1 9 1) n 3), u2, _, ?_, ?_, hR2⟩
    · rw [xe_X3_gold]
      refine xbi (x_within _ _ _ _) (xg (bI_ne c) (xg rfl (xg rfl (xg rfl (xbv q1 (xg rfl (xg rfl (xbv p1 (xg rfl (xg rfl ?_))))))))))
      rw [p2.2.2.2.1.2.1]
    · rw [xe_X4_gold]
      refine xbi (m_inb _ _ 0 100 rfl rfl) (xg (bI_ne c) (xg rfl (xg rfl (xbv (m_save _) (xg rfl (xbi hb ?_))))))
      rw [e9]
  · refine S_fail h 0 (r := xv_i (-1000001)) ?_ ?_
    · rw [xe_X3_gold]
      exact xbi (x_within _ _ _ _) (xn (bI_nn c) (xg rfl (xbi (x_f0 _) rfl)))
    · rw [xe_X4_gold]
      exact xbi (m_inb _ _ 0 100 rfl rfl) (xn (bI_nn c) (xg rfl (xbi (m_f0 _) rfl)))
