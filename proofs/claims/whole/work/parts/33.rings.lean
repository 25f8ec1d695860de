/-! loops by an invariant; locals that are let go; searches ahead: rings, taken, tuned -/
theorem lp {E : Nat → xm_U → Option xm_R} {I : Nat → xm_U → Prop} {B : Nat} {Q : Nat → Prop} (step : ∀ k u, k < B → I k u → ¬ Q k → ∃ u', (∀ r, E (k + 1) u' = some r → E k u = some r) ∧ I (k + 1) u') : ∀ n, n ≤ B → (∀ j, j < n → ¬ Q j) → ∀ u, I 0 u → ∃ u', (∀ r, E n u' = some r → E 0 u = some r) ∧ I n u' := by
  intro n
  induction n with
  | zero => intro _ _ u hu; exact ⟨u, fun r h => h, hu⟩
  | succ n ih =>
    intro hn hq u hu
    obtain ⟨u1, h1, h2⟩ := ih (by omega) (fun j hj => hq j (by omega)) u hu
    obtain ⟨u2, h3, h4⟩ := step n u1 (by omega) h2 (hq n (by omega))
    exact ⟨u2, fun r h => h1 r (h3 r h), h4⟩
theorem lp0 {E : Nat → xm_U → Option xm_R} {I : Nat → xm_U → Prop} {B : Nat} (step : ∀ k u, k < B → I k u → ∃ u', (∀ r, E (k + 1) u' = some r → E k u = some r) ∧ I (k + 1) u') (u : xm_U) (h : I 0 u) : ∃ u', (∀ r, E B u' = some r → E 0 u = some r) ∧ I B u' :=
  lp (Q := fun _ => False) (fun k u h1 h2 _ => step k u h1 h2) B (Nat.le_refl _) (fun _ _ q => q) u h
theorem lq_rf (a : xm_L) : xm_le a a := ⟨rfl, fun _ _ h => h⟩
theorem lq_r {a b : xm_L} {o : Option xm_V} (h : xm_le a b) : xm_le (o :: a) (o :: b) := by
  refine ⟨congrArg (· + 1) h.1, fun k v hk => ?_⟩
  cases k with
  | zero => exact hk
  | succ k => exact h.2 k v hk
theorem lq_n {a b : xm_L} {o : Option xm_V} (h : xm_le a b) : xm_le (none :: a) (o :: b) := by
  refine ⟨congrArg (· + 1) h.1, fun k v hk => ?_⟩
  cases k with
  | zero => cases hk
  | succ k => exact h.2 k v hk
theorem least (Q : Nat → Prop) : ∀ B : Nat, (∃ n, n ≤ B ∧ Q n ∧ ∀ j, j < n → ¬ Q j) ∨ ∀ j, j ≤ B → ¬ Q j := by
  intro B
  induction B with
  | zero =>
    by_cases h : Q 0
    · exact Or.inl ⟨0, Nat.le_refl _, h, fun j hj => absurd hj (Nat.not_lt_zero j)⟩
    · refine Or.inr (fun j hj => ?_)
      have : j = 0 := by omega
      subst this
      exact h
  | succ B ih =>
    rcases ih with ⟨n, h1, h2, h3⟩ | h
    · exact Or.inl ⟨n, by omega, h2, h3⟩
    · by_cases c : Q (B + 1)
      · exact Or.inl ⟨B + 1, Nat.le_refl _, c, fun j hj => h j (by omega)⟩
      · refine Or.inr (fun j hj => ?_)
        by_cases e : j = B + 1
        · subst e; exact c
        · exact h j (by omega)
theorem ringsI_n {d : Nat → Int32} {k : Nat} (h : ringsP d k) : ¬ ringsI d k = 0 := by rw [ringsI_t h]; decide
theorem ringsI_nn {d : Nat → Int32} {k : Nat} (h : ¬ ringsP d k) : ¬ ¬ ringsI d k = 0 := fun z => z (ringsI_f h)
theorem sv_ring {w z : xm_U} {d : Nat → Int32} (h : sv w d z) {p : Nat} (hp : p < 8) : xm_C 125 [xv_r 9 0, xv_i (nI p)] z = some (some (xv_i (ringsI d p)), z) := by
  have := m_isRinging z hp
  rw [h.2.1] at this
  exact this
theorem sv_year {w z : xm_U} {d : Nat → Int32} (h : sv w d z) (hd : inv d) : xm_C 128 [xv_r 9 0] z = some (none, dU z (yearG d)) := by
  have := m_yearGoes z (by rw [h.2.1]; exact hd)
  rw [h.2.1] at this
  exact this
theorem sv_back {w z : xm_U} {d : Nat → Int32} (h : sv w d z) : xm_C 113 [xv_r 9 3, xv_r 9 1] z = some (none, dU z (cop (z.1 9 3) d 89)) := by
  have := m_back z
  rw [h.2.1] at this
  exact this
theorem sv_R {w z : xm_U} {d : Nat → Int32} (hw : Rel w) (h : sv w d z) : Rel (dU z (cop (z.1 9 3) d 89)) := by
  have := sv_Rel hw h
  rw [h.2.1] at this
  exact this
/-- a finding, the class's told first: the reference comes back to what it was -/
theorem Rel_ff {u w y : xm_U} {f : Nat} (h : Rel u) (hw : w = xm_us u 0 7 f (u.1 0 7 f + 1)) (h0 : ∀ i, i ≠ 2 → i ≠ 9 → y.1 i = w.1 i) (h1 : ∀ k, k < 89 → y.1 9 1 k = w.1 9 1 k) (hp : ∀ p, p ≠ 1 → p ≠ 3 → y.1 9 p = w.1 9 p) : Rel (xm_us y 9 6 f (y.1 9 6 f + 1)) := by
  have hR := Rel_f h f
  rw [← hw] at hR
  refine Rel_fr hR (fun i h2 h9 => ?_) (fun k hk => ?_) ?_ ?_ (fun p hq => ?_)
  · rw [us_obj _ h9, us_obj _ h9, h0 i h2 h9]
  · rw [us_arr _ (by decide), us_arr _ (by decide), h1 k hk]
  · rw [us_arr _ (by decide), us_arr _ (by decide), hp 0 (by decide) (by decide)]
  · rw [us_arr _ (by decide), us_arr _ (by decide), hp 0 (by decide) (by decide)]
  · by_cases e : p = 6
    · subst e
      rw [us_row, us_row, hp 6 (by decide) (by decide)]
    · rw [us_arr _ (fun q => e q.2), us_arr _ (fun q => e q.2), hp p (by omega) (by omega)]
theorem sv_Rf {u w z : xm_U} {d : Nat → Int32} {f : Nat} (h : Rel u) (hw : w = xm_us u 0 7 f (u.1 0 7 f + 1)) (hs : sv w d z) : Rel (xm_us (dU z (cop (z.1 9 3) d 89)) 9 6 f ((dU z (cop (z.1 9 3) d 89)).1 9 6 f + 1)) := by
  refine Rel_ff h hw (fun i _ h9 => (ua_obj _ h9).trans (hs.1 i h9)) (fun k hk => ?_) (fun p h1 h3 => ?_)
  · rw [dU_d]
    exact (if_pos hk).trans (hs.2.2.1 k hk)
  · rw [dU_o _ _ (fun q => h1 q.2), hs.2.2.2 p h1 h3]
theorem n200 {k : Nat} (h : k ≤ 200) : ¬ (200 : Int32) < nI k := nI_nlt (a := 200) (b := k) h (by decide)
theorem g200 {k : Nat} (h : k < 200) : ¬ (200 : Int32) ≤ nI k := nI_ge (a := k) (b := 200) h (by decide)
theorem x_rings_lp {d : Nat → Int32} (hd : inv d) {p : Nat} (hp : p < 8) {u0 : xm_U} (hv0 : vd u0 2 d) (n : Nat) (hn : n ≤ 201) (hq : ∀ j, j < n → ¬ ringsP (yearsG d j) p) : ∃ u', (∀ r, xm_E 64 (xc_X3_rings.drop 15, [some (xv_r 0 0), some (xv_i (nI p)), some (xv_i (nI n))], [], u') = some r → xm_E 64 (xc_X3_rings.drop 15, [some (xv_r 0 0), some (xv_i (nI p)), some (xv_i 0)], [], u0) = some r) ∧ vd u' 2 (yearsG d n) ∧ oth u0 u' 2 := by
  refine lp (E := fun k u => xm_E 64 (xc_X3_rings.drop 15, [some (xv_r 0 0), some (xv_i (nI p)), some (xv_i (nI k))], [], u)) (I := fun k u => vd u 2 (yearsG d k) ∧ oth u0 u 2) (B := 201) (Q := fun j => ringsP (yearsG d j) p) ?_ n hn hq u0 ⟨hv0, oth_rf _ _⟩
  intro k u hk hI hQ
  obtain ⟨u1, q1, q2, q3⟩ := v_passYear (i := 2) rfl hI.1 (inv_yearsG hd k)
  refine ⟨u1, fun r h => ?_, q2, oth_tr hI.2 q3⟩
  show xm_E 64 (xc_X3_rings.drop 15, [some (xv_r 0 0), some (xv_i (nI p)), some (xv_i (nI k))], [], u) = some r
  rw [xe_X3_rings_15]
  refine xn (n200 (by omega)) (xg rfl (xg rfl (xbi (v_isRinging rfl hI.1 hp) (xg (ringsI_f hQ) (xg rfl (xg rfl (xbv q1 (?_))))))))
  rw [nI_1]
  exact h
theorem m_rings_lp {w : xm_U} {d : Nat → Int32} (hd : inv d) {p : Nat} (hp : p < 8) {z0 : xm_U} (hs : sv w d z0) (n : Nat) (hn : n ≤ 200) (hq : ∀ j, j < n → ¬ ringsP (yearsG d j) p) : ∃ z, (∀ r, xm_E 148 (xc_X4_rings.drop 15, [some (xv_r 9 0), some (xv_i (nI p)), some (xv_i (nI n)), none], [], z) = some r → xm_E 148 (xc_X4_rings.drop 15, [some (xv_r 9 0), some (xv_i (nI p)), some (xv_i 0), none], [], z0) = some r) ∧ sv w (yearsG d n) z := by
  refine lp (E := fun k u => xm_E 148 (xc_X4_rings.drop 15, [some (xv_r 9 0), some (xv_i (nI p)), some (xv_i (nI k)), none], [], u)) (I := fun k u => sv w (yearsG d k) u) (B := 200) (Q := fun j => ringsP (yearsG d j) p) ?_ n hn hq z0 hs
  intro k z hk hI hQ
  refine ⟨_, fun r h => ?_, sv_dU hI (yearsG d (k + 1))⟩
  show xm_E 148 (xc_X4_rings.drop 15, [some (xv_r 9 0), some (xv_i (nI p)), some (xv_i (nI k)), none], [], z) = some r
  rw [xe_X4_rings_15]
  refine xn (g200 (by omega)) (xg rfl (xbi (sv_ring hI hp) (xn (ringsI_nn hQ) (xg rfl (xbv (sv_year hI (inv_yearsG hd k)) (?_))))))
  rw [nI_1]
  exact h
theorem S_rings (a : Int32) : Same 64 148 [xv_i a] := by
  intro u h
  have hv := h.1
  have hd := h.2.1
  by_cases P : bd a (u.1 9 1 0 - 1)
  · obtain ⟨k, hk, rfl⟩ := plank_nI hd P
    obtain ⟨h8, hN⟩ := inv_nN hd
    obtain ⟨u1, q1, q2, q3⟩ := v_become (i := 2) (i1 := 1) rfl rfl (by decide) hv
    rcases least (fun j => ringsP (yearsG (u.1 9 1) j) k) 200 with ⟨n, hn, hq, hl⟩ | hl
    · obtain ⟨u2, e2, v2, o2⟩ := x_rings_lp hd (by omega) q2 n (by omega) hl
      have ho := oth_tr q3 o2
      have hR := Rel_t h ho
      have e9 : u2.1 9 1 = u.1 9 1 := by rw [ho.1 9 (by decide)]
      have hs := sv_save u2
      rw [e9] at hs
      obtain ⟨z, e3, s3⟩ := m_rings_lp hd (p := k) (by omega) hs n hn hl
      refine ⟨xv_i (nI n), u2, _, ?_, ?_, sv_R hR s3⟩
      · rw [xe_X3_rings]
        refine xg rfl (xbi (x_isPlank _ _ hv) (xg (bI_ne P) (xg rfl (xg rfl (xg rfl (xbv q1 (e2 _ ?_)))))))
        rw [xe_X3_rings_15]
        exact xn (n200 (by omega)) (xg rfl (xg rfl (xbi (v_isRinging rfl v2 (by omega)) (xn (ringsI_n hq) (rfl)))))
      · have P2 : bd (nI k) (u2.1 9 1 0 - 1) := by rw [e9]; exact P
        rw [xe_X4_rings]
        refine xg rfl (xbi (m_isPlank _ _) (xg (bI_ne P2) (xg rfl (xg rfl (xbv (m_save _) (?_))))))
        rw [e9]
        refine e3 _ ?_
        rw [xe_X4_rings_15]
        by_cases c : n < 200
        · exact xn (g200 c) (xg rfl (xbi (sv_ring s3 (by omega)) (xg (ringsI_n hq) (xg rfl (xbi (sv_ring s3 (by omega)) (xg rfl (xg rfl (xbv (sv_back s3) (xn (ringsI_n hq) (rfl))))))))))
        · exact xg (nI_le (a := 200) (by omega) (by omega)) (xg rfl (xbi (sv_ring s3 (by omega)) (xg rfl (xg rfl (xbv (sv_back s3) (xn (ringsI_n hq) (rfl)))))))
    · obtain ⟨u2, e2, v2, o2⟩ := x_rings_lp hd (p := k) (by omega) q2 201 (by omega) (fun j hj => hl j (by omega))
      have ho := oth_tr q3 o2
      have hR := Rel_t h ho
      have e9 : u2.1 9 1 = u.1 9 1 := by rw [ho.1 9 (by decide)]
      have hs := sv_save (xm_us u2 0 7 3 (u2.1 0 7 3 + 1))
      rw [us_obj (i := 0) (i' := 9) _ (by decide), e9] at hs
      obtain ⟨z, e3, s3⟩ := m_rings_lp hd (p := k) (by omega) hs 200 (by omega) (fun j hj => hl j (by omega))
      refine ⟨xv_i (-1000004), xm_us u2 0 7 3 (u2.1 0 7 3 + 1), _, ?_, ?_, sv_Rf hR rfl s3⟩
      · rw [xe_X3_rings]
        refine xg rfl (xbi (x_isPlank _ _ hv) (xg (bI_ne P) (xg rfl (xg rfl (xg rfl (xbv q1 (e2 _ ?_)))))))
        rw [xe_X3_rings_15]
        exact xg ((by decide)) (xg rfl (xbi (x_f3 _) (rfl)))
      · have P2 : bd (nI k) ((xm_us u2 0 7 3 (u2.1 0 7 3 + 1)).1 9 1 0 - 1) := by rw [us_obj (i := 0) (i' := 9) _ (by decide), e9]; exact P
        rw [xe_X4_rings]
        refine xg rfl (xbi (m_isPlank _ _) (xg (bI_ne P2) (xg rfl (xg rfl (xbv (m_save _) (?_))))))
        rw [us_obj (i := 0) (i' := 9) _ (by decide), e9]
        refine e3 _ ?_
        rw [xe_X4_rings_15]
        exact xg (nI_le (a := 200) (b := 200) (by omega) (by omega)) (xg rfl (xbi (sv_ring s3 (by omega)) (xg rfl (xg rfl (xbv (sv_back s3) (xg (ringsI_f (hl 200 (by omega))) (xg rfl (xbi (m_f3 _) (rfl)))))))))
  · refine S_fail h 0 (r := xv_i (-1000001)) ?_ ?_
    · rw [xe_X3_rings]
      exact xg rfl (xbi (x_isPlank _ _ hv) (xn (bI_nn P) (xg rfl (xbi (x_f0 _) (rfl)))))
    · rw [xe_X4_rings]
      exact xg rfl (xbi (m_isPlank _ _) (xn (bI_nn P) (xg rfl (xbi (m_f0 _) (rfl)))))
