/-! NUMBERS, AND WORDS WITH ONE BEHIND, both sides in step -/
theorem wf_self (u : xm_U) : wf u (u.1 4 0) = u := by
  obtain ⟨u1, u2⟩ := u
  unfold wf xm_ua
  congr 1
  funext i p
  split
  · rename_i z; rw [z.1, z.2]
  · rfl
theorem zf_self (u : xm_U) : zf u (u.1 9 0) u.2.1 = u := by
  obtain ⟨u1, u2, u3⟩ := u
  show ((fun i' p' => if i' = 9 ∧ p' = 0 then u1 9 0 else u1 i' p'), u2, u3) = (u1, u2, u3)
  congr 1
  funext i p
  split
  · rename_i z; rw [z.1, z.2]
  · rfl
def gC (u u' : xm_U) : Prop := (∀ i, i ≠ 4 → i ≠ 2 → u'.1 i = u.1 i) ∧ ∀ p, p ≠ 0 → u'.1 4 p = u.1 4 p
def gR (z z' : xm_U) : Prop := (∀ i, i ≠ 9 → z'.1 i = z.1 i) ∧ (∀ p, p ≠ 0 → p ≠ 1 → z'.1 9 p = z.1 9 p) ∧ z'.1 9 0 4 = z.1 9 0 4
theorem gC_rf (u : xm_U) : gC u u := ⟨fun _ _ _ => rfl, fun _ _ => rfl⟩
theorem gR_rf (u : xm_U) : gR u u := ⟨fun _ _ => rfl, fun _ _ _ => rfl, rfl⟩
theorem gC_tr {u v w : xm_U} (h1 : gC u v) (h2 : gC v w) : gC u w := ⟨fun i a b => (h2.1 i a b).trans (h1.1 i a b), fun p a => (h2.2 p a).trans (h1.2 p a)⟩
theorem gR_tr {u v w : xm_U} (h1 : gR u v) (h2 : gR v w) : gR u w := ⟨fun i a => (h2.1 i a).trans (h1.1 i a), fun p a b => (h2.2.1 p a b).trans (h1.2.1 p a b), h2.2.2.trans h1.2.2⟩
/-- a state of both sides: the class's u (as it was u0, its trial holds what it held), the reference's z (z0; its row is d); the token t from s to e -/
def st (n : Nat) (b : Nat → Nat) (u0 z0 u z : xm_U) (d : Nat → Int32) (t s e : Nat) : Prop := byt n b u z ∧ tok n b (u.1 4 0) (z.1 9 0) z.2.1 t s e ∧ z.1 9 0 12 = -1 ∧ u.1 2 = u0.1 2 ∧ z.1 9 1 = d ∧ gC u0 u ∧ gR z0 z
/-- a fault -/
def bd2 (u0 z0 u z : xm_U) : Prop := (∃ s, s ≤ 120 ∧ u.1 4 0 3 = nI s ∧ z.1 9 0 12 = nI s) ∧ gC u0 u ∧ gR z0 z
section SS
variable {n : Nat} {b : Nat → Nat} {u0 z0 u z : xm_U} {d : Nat → Int32} {t s e : Nat}
theorem st_nx (h : st n b u0 z0 u z d t s e) (ht : t ≠ 4) : ∃ u' z' t' s' e', xm_C 15 [xv_r 4 0] u = some (none, u') ∧ xm_C 173 [xv_r 9 0] z = some (none, z') ∧ st n b u0 z0 u' z' d t' s' e' ∧ e ≤ s' ∧ u'.1 4 0 5 = u.1 4 0 5 := by
  obtain ⟨hb, tk, hf, h2, hd, hC, hR⟩ := h
  obtain ⟨k1, k2, k0, ⟨k3, k4⟩, -, -, k5, k6, -⟩ := tk
  obtain ⟨f', g', v', e1, e2, ⟨q1, q2, q3⟩, t', s', e', tk', hs⟩ := tk_nx hb (e := e) z.2.1 k2 k3 k5 k4 (k6 ht)
  rw [wf_self] at e1
  rw [zf_self] at e2
  have w0 : (wf u f').1 4 0 = f' := by funext k; exact wf_rd _ _ _
  have z0' : (zf z g' v').1 9 0 = g' := by funext k; exact zf_rd _ _ _ _
  have w1 : ∀ p, p ≠ 0 → (wf u f').1 4 p = u.1 4 p := fun p hp => ua_arr _ (fun q => hp q.2)
  refine ⟨wf u f', zf z g' v', t', s', e', e1, e2, ⟨⟨hb.1, fun k hk => ?_⟩, ?_, ?_, ?_, ?_, gC_tr hC ⟨fun i a _ => wf_o _ _ a, w1⟩, gR_tr hR ⟨fun i a => zf_i _ _ _ a, fun p a _ => zf_o _ _ _ a, ?_⟩⟩, hs, ?_⟩
  · obtain ⟨a1, a2, a3⟩ := hb.2 k hk
    exact ⟨a1, by rw [wf_b]; exact a2, by rw [zf_o _ _ _ (by decide)]; exact a3⟩
  · rw [w0, z0', zf_v]; exact tk'
  · rw [zf_rd, q3]; exact hf
  · rw [wf_o _ _ (by decide)]; exact h2
  · rw [zf_o _ _ _ (by decide)]; exact hd
  · rw [zf_rd, q2]
  · rw [wf_rd, q1]
theorem st_wrong (h : st n b u0 z0 u z d t s e) : ∃ z', xm_C 174 [xv_r 9 0] z = some (none, z') ∧ bd2 u0 z0 u z' ∧ z'.1 9 1 = z.1 9 1 := by
  obtain ⟨hb, tk, hf, h2, hd, hC, hR⟩ := h
  obtain ⟨k1, k2, k0, -, -, ⟨k3, k4⟩, -⟩ := tk
  have := hb.1
  refine ⟨xm_us z 9 0 12 (nI s), ?_, ⟨⟨s, by omega, k3, us_same _ _ _ _ _⟩, hC, gR_tr hR ⟨fun i a => us_obj _ a, fun p a _ => us_arr _ (fun q => a q.2), by rw [us_row, upd_ne (by decide)]⟩⟩, us_arr _ (by decide)⟩
  rw [xe_X4_wrongHere, hf, k4]
  exact xg rfl (xn ((by decide)) (xg rfl (xg rfl (xlt (rfl)))))
theorem st_num (h : st n b u0 z0 u z d t s e) {lo hi : Nat} (hlo : lo ≤ 999) (hh : hi ≤ 999) : (∃ x u' z' t' s' e', lo ≤ x ∧ x ≤ hi ∧ xm_C 13 [xv_r 4 0, xv_i (nI lo), xv_i (nI hi)] u = some (some (xv_i 1), u') ∧ xm_C 177 [xv_r 9 0, xv_i (nI lo), xv_i (nI hi)] z = some (some (xv_i (nI x)), z') ∧ u'.1 4 0 5 = nI x ∧ st n b u0 z0 u' z' d t' s' e' ∧ s < s') ∨ (∃ z', xm_C 13 [xv_r 4 0, xv_i (nI lo), xv_i (nI hi)] u = some (some (xv_i 0), u) ∧ xm_C 177 [xv_r 9 0, xv_i (nI lo), xv_i (nI hi)] z = some (some (xv_i 0), z') ∧ bd2 u0 z0 u z' ∧ z'.1 9 1 = z.1 9 1) := by
  have h' := h
  obtain ⟨hb, tk, hf, h2, hd, hC, hR⟩ := h
  obtain ⟨k1, k2, k0, ⟨k31, k37⟩, ⟨k3, k4⟩, ⟨ks, ks'⟩, k5, k6, kl, kw, k7⟩ := tk
  obtain ⟨zw, ew, bw, rw'⟩ := st_wrong h'
  by_cases c : t = 2
  · obtain ⟨⟨x, hx, ev, ef⟩, hD⟩ := k7 c
    have t2 : nI t = 2 := by rw [c]; rfl
    have c17 := x_told hb (f := u.1 4 0) ks k5 k1 k2 hD
    rw [wf_self, ← ef] at c17
    have inv : xm_C 111 [xv_l (lN x), xv_l (lN lo), xv_l (lN hi)] z = some (some (xv_i (bI (lo ≤ x ∧ x ≤ hi))), z) := by
      rw [m_in, bI_ite]
      congr 3
      apply congrArg
      apply congrArg
      apply propext
      rw [pk_lLE (by omega) (by omega), pk_lLE (by omega) (by omega)]
    by_cases r : lo ≤ x ∧ x ≤ hi
    · obtain ⟨r1, r2⟩ := r
      have mx : min x 1000 = x := by omega
      rw [mx] at c17
      have h6 : st n b u0 z0 (xm_us u 4 0 5 (nI x)) z d t s e := by
        have row : (xm_us u 4 0 5 (nI x)).1 4 0 = upd (u.1 4 0) 5 (nI x) := us_row _ _ _ _ _
        refine ⟨⟨hb.1, fun k hk => ?_⟩, ?_, hf, by rw [us_obj _ (by decide)]; exact h2, hd, gC_tr hC ⟨fun i a _ => us_obj _ a, fun p a => us_arr _ (fun q => a q.2)⟩, hR⟩
        · obtain ⟨a1, a2, a3⟩ := hb.2 k hk
          exact ⟨a1, by rw [us_arr _ (by decide)]; exact a2, a3⟩
        · rw [row]
          refine ⟨k1, k2, k0, ⟨?_, k37⟩, ⟨?_, k4⟩, ⟨?_, ks'⟩, ?_, k6, kl, kw, k7⟩
          · rw [upd_ne (by decide)]; exact k31
          · rw [upd_ne (by decide)]; exact k3
          · rw [upd_ne (by decide)]; exact ks
          · rw [upd_ne (by decide)]; exact k5
      obtain ⟨u', z', t', s', e', e1, e2, h3, hs, h6'⟩ := st_nx h6 (by omega)
      have := kl (by omega)
      refine Or.inl ⟨x, u', z', t', s', e', r1, r2, ?_, ?_, h6'.trans (us_same _ _ _ _ _), h3, by omega⟩
      · rw [xe_X1_takeNumber, k3]
        exact xg rfl (xg t2 (xg rfl (xbi c17 (xn (nI_nlt r1 (by omega)) (xg (nI_le r2 (by omega)) (xg rfl (xlt (xg rfl (xbv e1 (xg nb1 (rfl)))))))))))
      · rw [xe_X4_numberHere, k4, ev, lN_i, nI_l (by omega), nI_l (by omega)]
        exact xg rfl (xlt (xg rfl (xn ((fun q => q t2)) (xg rfl (xbi inv (xg (bI_ne ⟨r1, r2⟩) (xg rfl (xbv e2 (rfl)))))))))
    · refine Or.inr ⟨zw, ?_, ?_, bw, rw'⟩
      · rw [xe_X1_takeNumber, k3]
        by_cases r1 : x < lo
        · exact xg rfl (xg t2 (xg rfl (xbi c17 (xg (nI_lt (by omega) (by omega)) (xg nb0 (rfl))))))
        · exact xg rfl (xg t2 (xg rfl (xbi c17 (xn (nI_nlt (by omega) (by omega)) (xn (nI_ge (by omega) (by omega)) (xg nb0 (rfl)))))))
      · rw [xe_X4_numberHere, k4, ev, lN_i, nI_l (by omega), nI_l (by omega)]
        exact xg rfl (xlt (xg rfl (xn ((fun q => q t2)) (xg rfl (xbi inv (xn (bI_nn r) (xg rfl (xbv ew (rfl)))))))))
  · have t2 : ¬ nI t = 2 := fun q => c ((nI_eq (b := 2) (by omega) (by decide)).mp q)
    refine Or.inr ⟨zw, ?_, ?_, bw, rw'⟩
    · rw [xe_X1_takeNumber, k3]
      exact xg rfl (xn t2 (xg nb0 (rfl)))
    · rw [xe_X4_numberHere, k4]
      exact xg rfl (xlt (xg rfl (xg t2 (xg rfl (xbv ew (rfl))))))
theorem m_per_bad {z : xm_U} {s : Nat} (hs : s ≤ 120) (h : z.1 9 0 12 = nI s) (v : Int64) (a c : Int32) : xm_C 178 [xv_r 9 0, xv_l v, xv_i a, xv_i c] z = some (none, z) := by
  rw [xe_X4_perhaps, h]
  exact xg rfl (xg (nI_pos' (by omega)) (rfl))
theorem st_row (h : st n b u0 z0 u z d t s e) (d' : Nat → Int32) : st n b u0 z0 u (dU z d') d' t s e := by
  obtain ⟨hb, tk, hf, h2, hd, hC, hR⟩ := h
  refine ⟨⟨hb.1, fun k hk => ?_⟩, ?_, ?_, h2, dU_d _ _, hC, gR_tr hR ⟨fun i a => ua_obj _ a, fun p _ a => dU_o _ _ (fun q => a q.2), by rw [dU_o _ _ (by decide)]⟩⟩
  · obtain ⟨a1, a2, a3⟩ := hb.2 k hk
    exact ⟨a1, a2, by rw [dU_o _ _ (by decide)]; exact a3⟩
  · rw [dU_o _ _ (by decide)]; exact tk
  · rw [dU_o _ _ (by decide)]; exact hf
theorem st_per (h : st n b u0 z0 u z d t s e) {q hi j : Nat} (hq : q < 15) (hh : hi ≤ 999) (hj : j < 89) (hw : ¬ d j = -1) : (∃ x u' z' t' s' e', (x = d j ∨ bd x (nI hi)) ∧ ¬ x = -1 ∧ xm_C 12 [xv_r 4 0, xv_o 1 q, xv_i (nI hi), xv_i (d j)] u = some (some (xv_i x), u') ∧ xm_C 178 [xv_r 9 0, xv_l (lN (wqN q)), xv_i (nI j), xv_i (nI hi)] z = some (none, z') ∧ st n b u0 z0 u' z' (upd d j x) t' s' e' ∧ s ≤ s') ∨ (∃ u' z', xm_C 12 [xv_r 4 0, xv_o 1 q, xv_i (nI hi), xv_i (d j)] u = some (some (xv_i (-1)), u') ∧ xm_C 178 [xv_r 9 0, xv_l (lN (wqN q)), xv_i (nI j), xv_i (nI hi)] z = some (none, z') ∧ bd2 u0 z0 u' z') := by
  have h' := h
  obtain ⟨hb, tk, hf, h2, hd, hC, hR⟩ := h
  have x1 := x_isWord (w := u) (z := z) hb tk hq
  rw [wf_self] at x1
  have m1 := m_isWord (z := z) tk hq
  rw [zf_self] at m1
  by_cases c : t = 1 ∧ wEq b s e q
  · obtain ⟨u1, z1, t1, s1, e1, a1, a2, h1, hs1, -⟩ := st_nx h' (by omega)
    have kl := tk.2.2.2.2.2.2.2.2.1 (by omega)
    rcases st_num h1 (lo := 0) (hi := hi) (by decide) hh with ⟨x, u2, z2, t2, s2, e2, r1, r2, b1, b2, b3, h3, hs2⟩ | ⟨z2, b1, b2, b3, b4⟩
    · have e9 : z2.1 9 1 = d := h3.2.2.2.2.1
      have ef := h3.2.2.1
      refine Or.inl ⟨nI x, u2, _, t2, s2, e2, Or.inr (bd_of r2 (by omega)), fun z => nI_nle1 (n := x) (by omega) (z ▸ Int32.le_refl _), ?_, ?_, st_row h3 (upd d j (nI x)), by omega⟩
      · rw [xe_X1_perhaps]
        refine xg rfl (xbi x1 (xg (bI_ne c) (xg rfl (xbv a1 (xg rfl (xbi b1 (xn ((by decide)) (xg rfl (?_)))))))))
        rw [b3]
      · rw [xe_X4_perhaps, hf, nI_clamp (by omega)]
        refine xg rfl (xn ((by decide)) (xg rfl (xbi m1 (xn (bI_ne c) (xg rfl (xbv a2 (xg rfl (xbi b2 (xg rfl (xn ((by rw [ef]; decide)) (xg rfl (xg (in9n hj) (xlt (?_))))))))))))))
        rw [us_dU, e9]
    · obtain ⟨⟨s', hs', -, f2⟩, -⟩ := id b3
      refine Or.inr ⟨u1, z2, ?_, ?_, b3⟩
      · rw [xe_X1_perhaps]
        exact xg rfl (xbi x1 (xg (bI_ne c) (xg rfl (xbv a1 (xg rfl (xbi b1 (xg rfl (rfl))))))))
      · rw [xe_X4_perhaps, hf]
        exact xg rfl (xn ((by decide)) (xg rfl (xbi m1 (xn (bI_ne c) (xg rfl (xbv a2 (xg rfl (xbi b2 (xg rfl (xg ((by rw [f2]; exact nI_pos' (by omega))) (rfl)))))))))))
  · refine Or.inl ⟨d j, u, z, t, s, e, Or.inl rfl, hw, ?_, ?_, ?_, Nat.le_refl _⟩
    · rw [xe_X1_perhaps]
      exact xg rfl (xbi x1 (xn (bI_nn c) (rfl)))
    · rw [xe_X4_perhaps, hf]
      exact xg rfl (xn ((by decide)) (xg rfl (xbi m1 (xg (bI_f c) (rfl)))))
    · rw [upd_self]; exact h'
end SS
