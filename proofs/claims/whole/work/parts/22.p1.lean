/-! PUBLIC METHODS, both sides: valley, planks (writes and reads of single places) -/
theorem us_dU (u : xm_U) (j : Nat) (x : Int32) : xm_us u 9 1 j x = dU u (upd (u.1 9 1) j x) := rfl
/-- the valley and the row have become d' -/
theorem Rel_v {u u1 : xm_U} (h : Rel u) (h1 : oth u u1 1) {d' : Nat → Int32} (hv : vd u1 1 d') (hd : inv d') : Rel (dU u1 d') := by
  obtain ⟨-, -, h3, h4, h5, h6⟩ := h
  generalize hz : dU u1 d' = z
  have a1 : ∀ i, i ≠ 1 → i ≠ 9 → z.1 i = u.1 i := fun i h0 h9 => by rw [← hz, ← h1.1 i h0]; exact ua_obj _ h9
  have a3 : ∀ p, p ≠ 1 → z.1 9 p = u.1 9 p := fun p hp => by rw [← hz, ← h1.1 9 (by decide)]; exact ua_arr _ (fun q => hp q.2)
  have b1 : z.1 1 = u1.1 1 := by rw [← hz]; exact ua_obj _ (by decide)
  have b2 : z.1 9 1 = d' := by rw [← hz]; exact dU_d _ _
  refine ⟨?_, ?_, ?_, ?_, ?_, ?_⟩
  · rw [b2]; exact vd_of b1 hv
  · rw [b2]; exact hd
  · unfold kp at h3 ⊢
    rw [a1 0 (by decide) (by decide), a3 0 (by decide), a3 4 (by decide)]
    exact ⟨h3.1, h3.2.1, fun q => ⟨vd_of (a1 3 (by decide) (by decide)) (h3.2.2 q).1, (h3.2.2 q).2⟩⟩
  · intro k hk
    rw [a1 0 (by decide) (by decide), a3 6 (by decide)]
    exact h4 k hk
  · unfold tp at h5 ⊢
    rw [a1 4 (by decide) (by decide), a3 0 (by decide), a3 7 (by decide)]
    exact h5
  · intro s hs
    have := h6 s hs
    rw [a1 (5 + s) (by omega) (by omega), a3 14 (by decide), a3 15 (by decide), a3 16 (by decide)]
    exact this
/-- one place of the valley and one of the row -/
theorem Rel_w {u : xm_U} (h : Rel u) {p k j : Nat} {x : Int32} (hv : vd (xm_us u 1 p k x) 1 (upd (u.1 9 1) j x)) (hd : inv (upd (u.1 9 1) j x)) : Rel (xm_us (xm_us u 1 p k x) 9 1 j x) := by
  rw [us_dU, us_obj _ (by decide)]
  exact Rel_v h (oth_us _ _ _ _ _) hv hd
theorem bI_ne {c : Prop} (h : c) : ¬ bI c = 0 := by rw [bI_t h]; decide
theorem bI_nn {c : Prop} (h : ¬ c) : ¬ ¬ bI c = 0 := fun z => z (bI_f h)
section SS
variable {x y : Nat} {a : List xm_V} {u : xm_U}
theorem S_fail (h : Rel u) (f : Nat) {r : xm_V} (h1 : xm_C x (xv_r 0 0 :: a) u = some (some r, xm_us u 0 7 f (u.1 0 7 f + 1))) (h2 : xm_C y (xv_r 9 0 :: a) (xm_us u 0 7 f (u.1 0 7 f + 1)) = some (some r, xm_us (xm_us u 0 7 f (u.1 0 7 f + 1)) 9 6 f ((xm_us u 0 7 f (u.1 0 7 f + 1)).1 9 6 f + 1))) : ∃ r u1 u2, xm_C x (xv_r 0 0 :: a) u = some (some r, u1) ∧ xm_C y (xv_r 9 0 :: a) u1 = some (some r, u2) ∧ Rel u2 := ⟨_, _, _, h1, h2, Rel_f h f⟩
theorem S_put (h : Rel u) (p k j : Nat) {w : Int32} {r : xm_V} (hv : vd (xm_us u 1 p k w) 1 (upd (u.1 9 1) j w)) (hd : inv (upd (u.1 9 1) j w)) (h1 : xm_C x (xv_r 0 0 :: a) u = some (some r, xm_us u 1 p k w)) (h2 : xm_C y (xv_r 9 0 :: a) (xm_us u 1 p k w) = some (some r, xm_us (xm_us u 1 p k w) 9 1 j w)) : ∃ r u1 u2, xm_C x (xv_r 0 0 :: a) u = some (some r, u1) ∧ xm_C y (xv_r 9 0 :: a) u1 = some (some r, u2) ∧ Rel u2 := ⟨_, _, _, h1, h2, Rel_w h hv hd⟩
theorem S_read (h : Rel u) {r : xm_V} (h1 : xm_C x (xv_r 0 0 :: a) u = some (some r, u)) (h2 : xm_C y (xv_r 9 0 :: a) u = some (some r, u)) : ∃ r u1 u2, xm_C x (xv_r 0 0 :: a) u = some (some r, u1) ∧ xm_C y (xv_r 9 0 :: a) u1 = some (some r, u2) ∧ Rel u2 := ⟨_, _, _, h1, h2, h⟩
end SS
theorem S_listed (a : Int32) : Same 55 135 [xv_i a] := by
  intro u h
  by_cases c : bd a 5
  · obtain ⟨k, hk, rfl⟩ := bd_nI (n := 5) (by decide) c
    refine S_read h (r := xv_i (u.1 9 1 (17 + k))) ?_ ?_
    · rw [xe_X3_listed]
      refine xbi (x_within _ _ _ _) (xn (bI_ne c) (xg rfl (xg rfl (xg (v_in (i := 1) rfl (n := 6) rfl (by omega) (by decide)) ?_))))
      rw [nI_clamp (by omega), h.1.2.2.1 k (by omega)]
    · rw [xe_X4_listed]
      refine xbi (m_inb _ _ 0 5 rfl rfl) (xn (bI_ne c) (xg rfl ?_))
      rw [show (17 : Int32) = nI 17 from rfl, nI_add, nI_clamp (by omega)]
      exact xg (in9n (by omega)) rfl
  · refine S_fail h 0 (r := xv_i (-1000001)) ?_ ?_
    · rw [xe_X3_listed]
      exact xbi (x_within _ _ _ _) (xg (bI_f c) (xg rfl (xbi (x_f0 _) rfl)))
    · rw [xe_X4_listed]
      exact xbi (m_inb _ _ 0 5 rfl rfl) (xg (bI_f c) (xg rfl (xbi (m_f0 _) rfl)))
theorem S_each (a : Int32) : Same 56 136 [xv_i a] := by
  intro u h
  by_cases c : 2 ≤ a ∧ a ≤ 60
  · refine S_put h 0 3 4 (w := a) (r := xv_i (u.1 9 1 4)) (vw_f3 h.1 a) (inv_upd h.2.1 (by decide) (by decide) ((okb_4 _).mpr c)) ?_ ?_
    · rw [xe_X3_each]
      refine xbi (x_within _ _ _ _) (xg (bI_ne c) (xg rfl (xg rfl ?_)))
      rw [h.1.2.2.2.1.1]
      exact xlt (xg rfl (xg rfl rfl))
    · rw [xe_X4_each]
      refine xbi (m_inb _ _ 2 60 rfl rfl) (xn (bI_ne c) (xg rfl (xbi (m_becomes (k := 4) _ (by decide) _) ?_)))
      rw [us_obj (i := 1) _ (by decide)]
  · refine S_fail h 0 (r := xv_i (-1000001)) ?_ ?_
    · rw [xe_X3_each]
      exact xbi (x_within _ _ _ _) (xn (bI_nn c) (xg rfl (xbi (x_f0 _) rfl)))
    · rw [xe_X4_each]
      exact xbi (m_inb _ _ 2 60 rfl rfl) (xg (bI_f c) (xg rfl (xbi (m_f0 _) rfl)))
theorem S_seed (a : Int32) : Same 76 167 [xv_i a] := by
  intro u h
  refine S_put h 0 6 2 (w := a) (r := xv_i (u.1 9 1 2)) (vw_f6 h.1 a) (inv_upd h.2.1 (by decide) (by decide) (okb_2 _)) ?_ ?_
  · rw [xe_X3_seed, h.1.2.2.2.1.2.2.2.1]
    exact xg rfl (xg rfl (xlt (xg rfl (xg rfl rfl))))
  · rw [xe_X4_seed]
    refine xg rfl (xbi (m_becomes (k := 2) _ (by decide) _) ?_)
    rw [us_obj (i := 1) _ (by decide)]
