/-! THE NEXT TOKEN, both sides in step -/
/-- a token t from s to e -/
def tok (n : Nat) (b : Nat → Nat) (f g : Nat → Int32) (v : Int64) (t s e : Nat) : Prop :=
  s ≤ e ∧ e ≤ n ∧ t ≤ 4 ∧ (f 1 = nI n ∧ g 7 = nI n) ∧ (f 2 = nI t ∧ g 9 = nI t) ∧ (f 3 = nI s ∧ g 10 = nI s) ∧ f 4 = nI e ∧ (t ≠ 4 → g 8 = nI e) ∧ (t ≠ 0 → s < e) ∧
  (t = 1 → v = lN (vW b s (e - s)) ∧ ∀ k, s ≤ k → k < e → isL (b k)) ∧ (t = 2 → (∃ x, x ≤ 10000 ∧ v = lN x ∧ min x 1000 = nV b s (e - s)) ∧ ∀ k, s ≤ k → k < e → isD (b k))
def keep (f f' g g' : Nat → Int32) : Prop := f' 5 = f 5 ∧ g' 4 = g 4 ∧ g' 12 = g 12
/-- the class, behind the blanks: what stands at p, and where it is over -/
theorem x_tk23 {n : Nat} {b : Nat → Nat} {w z : xm_U} (h : byt n b w z) {p : Nat} (hp : p ≤ n) {f : Nat → Int32} (h1 : f 1 = nI n) (h3 : f 3 = nI p) : ∃ t e, xm_E 15 (xc_X1_nextToken.drop 23, [some (xv_r 4 0), none, none], [], wf w f) = some (none, wf w (upd (upd f 2 (nI t)) 4 (nI e))) ∧
    ((p = n ∧ t = 0 ∧ e = p) ∨ (p < n ∧ isL (b p) ∧ t = 1 ∧ p < e ∧ e ≤ n ∧ (∀ k, p ≤ k → k < e → isL (b k)) ∧ (e < n → ¬ isL (b e))) ∨
     (p < n ∧ ¬ isL (b p) ∧ isD (b p) ∧ t = 2 ∧ p < e ∧ e ≤ n ∧ (∀ k, p ≤ k → k < e → isD (b k)) ∧ (e < n → ¬ isD (b e))) ∨
     (p < n ∧ ¬ isL (b p) ∧ ¬ isD (b p) ∧ b p = 59 ∧ t = 3 ∧ e = p + 1) ∨ (p < n ∧ ¬ isL (b p) ∧ ¬ isD (b p) ∧ ¬ b p = 59 ∧ t = 4 ∧ e = p + 1)) := by
  have n120 := h.1
  obtain ⟨e1, a1, a2, a3, a4, a5⟩ := x_those h (lo := 97) (hi := 122) (by decide) (by decide) h1 h3 hp
  obtain ⟨e2, c1, c2, c3, c4, c5⟩ := x_those h (lo := 48) (hi := 57) (by decide) (by decide) h1 h3 hp
  have f23 : ∀ x, upd f 2 x 3 = nI p := fun x => (upd_ne (by decide)).trans h3
  by_cases q : p = n
  · refine ⟨0, p, ?_, Or.inl ⟨q, rfl, rfl⟩⟩
    rw [xe_X1_nextToken_23]
    refine xg rfl (xbi a5 (xg rfl (xbi c5 (?_))))
    rw [wf_rd, wf_rd, h1, h3]
    refine xg rfl (xg rfl (xn (nI_nlt (by omega) (by omega)) (xg rfl (xlt (xg rfl (xg rfl (xlt (?_))))))))
    rw [wf_us, wf_rd, f23, wf_us]
    rfl
  have hpn : p < n := by omega
  have lt : nI p < nI n := nI_lt hpn (by omega)
  by_cases L : isL (b p)
  · have pe : p < e1 := Nat.lt_of_le_of_ne a1 (fun y => a4 (by omega) (by rw [← y]; exact L))
    refine ⟨1, e1, ?_, Or.inr (Or.inl ⟨hpn, L, rfl, pe, a2, a3, a4⟩)⟩
    rw [xe_X1_nextToken_23]
    refine xg rfl (xbi a5 (xg rfl (xbi c5 (?_))))
    rw [wf_rd, wf_rd, h1, h3]
    refine xg rfl (xg rfl (xg lt (xg rfl (xn (nI_ge pe (by omega)) (xg rfl (xlt (xg rfl (xlt (?_)))))))))
    rw [wf_us, wf_us]
    rfl
  have p1 : e1 = p := (Nat.lt_or_ge p e1).elim (fun y => absurd (a3 p (Nat.le_refl _) y) L) (fun y => by omega)
  rw [p1] at a5
  by_cases D : isD (b p)
  · have pe : p < e2 := Nat.lt_of_le_of_ne c1 (fun y => c4 (by omega) (by rw [← y]; exact D))
    refine ⟨2, e2, ?_, Or.inr (Or.inr (Or.inl ⟨hpn, L, D, rfl, pe, c2, c3, c4⟩))⟩
    rw [xe_X1_nextToken_23]
    refine xg rfl (xbi a5 (xg rfl (xbi c5 (?_))))
    rw [wf_rd, wf_rd, h1, h3]
    refine xg rfl (xg rfl (xg lt (xg rfl (xg (nI_le (Nat.le_refl _) (by omega)) (xg rfl (xn (nI_ge pe (by omega)) (xg rfl (xlt (xg rfl (xlt (?_)))))))))))
    rw [wf_us, wf_us]
    rfl
  have p2 : e2 = p := (Nat.lt_or_ge p e2).elim (fun y => absurd (c3 p (Nat.le_refl _) y) D) (fun y => by omega)
  rw [p2] at c5
  have hb := h.2 p hpn
  have i4 : xm_in 4 1 (nI p) := xin (vp_in_nI (n := p) (N := 120) (by omega) (by decide)) rfl
  by_cases S : b p = 59
  · refine ⟨3, p + 1, ?_, Or.inr (Or.inr (Or.inr (Or.inl ⟨hpn, L, D, S, rfl, rfl⟩)))⟩
    rw [xe_X1_nextToken_23]
    refine xg rfl (xbi a5 (xg rfl (xbi c5 (?_))))
    rw [wf_rd, wf_rd, h1, h3, nI_clamp (n := p) (by omega), wf_b, hb.2.1]
    refine xg rfl (xg rfl (xg lt (xg rfl (xg (nI_le (Nat.le_refl _) (by omega)) (xg rfl (xg (nI_le (Nat.le_refl _) (by omega)) (xg rfl (xg rfl (xg i4 (xn ((fun q => q (by rw [S]; rfl))) (xg rfl (xlt (xg rfl (xg rfl (xlt (?_))))))))))))))))
    rw [wf_us, wf_rd, f23, nI_1, wf_us]
    rfl
  · have c59 : ¬ nI (b p) = 59 := fun q => S ((nI_eq (b := 59) (by omega) (by decide)).mp q)
    refine ⟨4, p + 1, ?_, Or.inr (Or.inr (Or.inr (Or.inr ⟨hpn, L, D, S, rfl, rfl⟩)))⟩
    rw [xe_X1_nextToken_23]
    refine xg rfl (xbi a5 (xg rfl (xbi c5 (?_))))
    rw [wf_rd, wf_rd, h1, h3, nI_clamp (n := p) (by omega), wf_b, hb.2.1]
    refine xg rfl (xg rfl (xg lt (xg rfl (xg (nI_le (Nat.le_refl _) (by omega)) (xg rfl (xg (nI_le (Nat.le_refl _) (by omega)) (xg rfl (xg rfl (xg i4 (xg c59 (xg rfl (xlt (xg rfl (xg rfl (xlt (?_))))))))))))))))
    rw [wf_us, wf_rd, f23, nI_1, wf_us]
    rfl
theorem tk_next {n : Nat} {b : Nat → Nat} {w z : xm_U} (h : byt n b w z) : ∀ (m p : Nat) (f g : Nat → Int32) (v : Int64), p + m = n → f 1 = nI n → f 3 = nI p → g 7 = nI n → g 8 = nI p → ∃ f' g' v', xm_E 15 (xc_X1_nextToken.drop 4, [some (xv_r 4 0), none, none], [], wf w f) = some (none, wf w f') ∧ xm_E 173 (xc_X4_next.drop 0, [some (xv_r 9 0), none], [], zf z g v) = some (none, zf z g' v') ∧ keep f f' g g' ∧ ∃ t s e, tok n b f' g' v' t s e ∧ p ≤ s := by
  have n120 := h.1
  intro m
  induction m with
  | zero =>
    intro p f g v hp h1 h3 h7 h8
    have : p = n := by omega
    subst this
    have g18 : upd g 10 (nI p) 8 = nI p := (upd_ne (by decide)).trans h8
    have g17 : upd g 10 (nI p) 7 = nI p := (upd_ne (by decide)).trans h7
    obtain ⟨t, e, a1, hc⟩ := x_tk23 h (Nat.le_refl _) h1 h3
    rcases hc with ⟨-, rfl, rfl⟩ | ⟨q, -⟩ | ⟨q, -⟩ | ⟨q, -⟩ | ⟨q, -⟩
    · refine ⟨upd (upd f 2 (nI 0)) 4 (nI e), upd (upd g 10 (nI e)) 9 0, 0, ?_, ?_, ⟨?_, ?_, ?_⟩, 0, e, e, ⟨Nat.le_refl _, Nat.le_refl _, by decide, ⟨?_, ?_⟩, ⟨?_, upd_eq⟩, ⟨?_, ?_⟩, upd_eq, fun _ => ?_, fun q => absurd rfl q, fun q => absurd q (by decide), fun q => absurd q (by decide)⟩, Nat.le_refl _⟩
      · rw [xe_X1_nextToken_4, wf_rd, wf_rd, h1, h3]
        exact xg rfl (xg rfl (xg (nI_le (Nat.le_refl _) (by omega)) (a1)))
      · rw [xe_X4_next_0, zf_rd, h8]
        refine xg rfl (xg rfl (xbi (m_at_e _ h7 (by omega) (Nat.le_refl _) (by omega)) (xg ((by decide)) (?_))))
        refine xg rfl (xg rfl (xlt (xg rfl (xlt ?_))))
        rw [zf_rd, h8, zf_us, zf_ul, zf_rd, g18]
        refine xg rfl (xg rfl (xbi (m_at_e _ g17 (by omega) (Nat.le_refl _) (by omega)) ?_))
        rw [zf_rd, zf_rd, g18, g17]
        refine xg rfl (xg rfl (xn (fun q => q rfl) (xg rfl (xlt ?_))))
        rw [zf_us]
      · rw [upd_ne (by decide), upd_ne (by decide)]
      · rw [upd_ne (by decide), upd_ne (by decide)]
      · rw [upd_ne (by decide), upd_ne (by decide)]
      · rw [upd_ne (by decide), upd_ne (by decide)]; exact h1
      · rw [upd_ne (by decide), g17]
      · rw [upd_ne (by decide), upd_eq]
      · rw [upd_ne (by decide), upd_ne (by decide)]; exact h3
      · rw [upd_ne (by decide), upd_eq]
      · rw [upd_ne (by decide), g18]
    all_goals exact absurd q (Nat.lt_irrefl _)
  | succ m ih =>
    intro p f g v hp h1 h3 h7 h8
    have hpn : p < n := by omega
    have hb := h.2 p hpn
    have n1 : ¬ nI n ≤ nI p := nI_ge hpn (by omega)
    have ne : ¬ nI p = nI n := fun q => by have := (nI_eq (by omega) (by omega)).mp q; omega
    have i4 : xm_in 4 1 (nI p) := xin (vp_in_nI (n := p) (N := 120) (by omega) (by decide)) rfl
    have g18 : upd g 10 (nI p) 8 = nI p := (upd_ne (by decide)).trans h8
    have g17 : upd g 10 (nI p) 7 = nI n := (upd_ne (by decide)).trans h7
    by_cases B : b p = 32
    · obtain ⟨f', g', v', e1, e2, k1, t, s, e, tk, hs⟩ := ih (p + 1) (upd f 3 (nI (p + 1))) (upd g 8 (nI (p + 1))) v (by omega) ((upd_ne (by decide)).trans h1) upd_eq ((upd_ne (by decide)).trans h7) upd_eq
      refine ⟨f', g', v', ?_, ?_, ⟨k1.1.trans (upd_ne (by decide)), k1.2.1.trans (upd_ne (by decide)), k1.2.2.trans (upd_ne (by decide))⟩, t, s, e, tk, by omega⟩
      · rw [xe_X1_nextToken_4, wf_rd, wf_rd, h1, h3, nI_clamp (n := p) (by omega), wf_b, hb.2.1]
        refine xg rfl (xg rfl (xn n1 (xg rfl (xg rfl (xg i4 (xn ((fun q => q (by rw [B]; rfl))) (xg rfl (xg rfl (xlt (?_))))))))))
        rw [nI_1, wf_us]
        exact e1
      · rw [xe_X4_next_0, zf_rd, h8]
        refine xg rfl (xg rfl (xbi (m_at h _ h7 hpn) (xn ((fun q => q ((sb_32 _ hb.1).mpr B))) (xg rfl (xg rfl (xlt (?_)))))))
        rw [zf_rd, h8, nI_1, zf_us]
        exact e2
    · have c32 : ¬ nI (b p) = 32 := fun q => B ((nI_eq (b := 32) (by omega) (by decide)).mp q)
      have s32 : ¬ sb (b p) = 32 := fun q => B ((sb_32 _ hb.1).mp q)
      obtain ⟨t, e, a1, hc⟩ := x_tk23 h (Nat.le_of_lt hpn) h1 h3
      have cl : xm_E 15 (xc_X1_nextToken.drop 4, [some (xv_r 4 0), none, none], [], wf w f) = some (none, wf w (upd (upd f 2 (nI t)) 4 (nI e))) := by
        rw [xe_X1_nextToken_4, wf_rd, wf_rd, h1, h3, nI_clamp (n := p) (by omega), wf_b, hb.2.1]
        exact xg rfl (xg rfl (xn n1 (xg rfl (xg rfl (xg i4 (xg c32 (a1)))))))
      have rf : ∀ r, xm_if (¬ sb (b p) = 59) (xm_bi (xm_C 170 [xv_i (sb (b p))] (zf z (upd g 10 (nI p)) 0)) (fun r8 u7 => xm_if (r8 ≤ 0) (xm_bi (xm_C 171 [xv_i (sb (b p))] u7) (fun r10 u9 => xm_if (r10 = 0) (xm_if (xm_cls 9 = 4) (xm_let (xm_us u9 9 0 9 4) (fun u11 => some (none, u11))) none) (xm_if (xm_cls 9 = 4) (xm_let (xm_us u9 9 0 9 2) (fun u12 => xm_E 173 (xc_X4_next.drop 93, [some (xv_r 9 0), some (xv_i (sb (b p)))], [], u12))) none))) (xm_if (xm_cls 9 = 4) (xm_let (xm_us u7 9 0 9 1) (fun u13 => xm_E 173 (xc_X4_next.drop 53, [some (xv_r 9 0), some (xv_i (sb (b p)))], [], u13))) none))) (xm_if (xm_cls 9 = 4) (xm_let (xm_us (zf z (upd g 10 (nI p)) 0) 9 0 9 3) (fun u14 => xm_if (xm_cls 9 = 4) (xm_if (xm_cls 9 = 4) (xm_let (xm_us u14 9 0 8 ((u14.1 9 0 8) + 1)) (fun u15 => some (none, u15))) none) none)) none) = r → xm_E 173 (xc_X4_next.drop 0, [some (xv_r 9 0), none], [], zf z g v) = r := by
        intro r q
        rw [xe_X4_next_0, zf_rd, h8]
        refine xg rfl (xg rfl (xbi (m_at h _ h7 hpn) (xg s32 (?_))))
        refine xg rfl (xg rfl (xlt (xg rfl (xlt ?_))))
        rw [zf_rd, h8, zf_us, zf_ul, zf_rd, g18]
        refine xg rfl (xg rfl (xbi (m_at h _ g17 hpn) ?_))
        rw [zf_rd, zf_rd, g18, g17]
        exact xg rfl (xg rfl (xg ne q))
      -- the class's fields
      have k1 : upd (upd f 2 (nI t)) 4 (nI e) 1 = nI n := by rw [upd_ne (by decide), upd_ne (by decide)]; exact h1
      have k2 : upd (upd f 2 (nI t)) 4 (nI e) 2 = nI t := by rw [upd_ne (by decide), upd_eq]
      have k3 : upd (upd f 2 (nI t)) 4 (nI e) 3 = nI p := by rw [upd_ne (by decide), upd_ne (by decide)]; exact h3
      have k5 : upd (upd f 2 (nI t)) 4 (nI e) 5 = f 5 := by rw [upd_ne (by decide), upd_ne (by decide)]
      have k4 : upd (upd f 2 (nI t)) 4 (nI e) 4 = nI e := upd_eq
      rcases hc with ⟨q, -⟩ | ⟨-, L, rfl, pe, en, hL, hN⟩ | ⟨-, L, D, rfl, pe, en, hD, hN⟩ | ⟨-, L, D, S, rfl, rfl⟩ | ⟨-, L, D, S, rfl, rfl⟩
      · exact absurd hpn (by omega)
      · have l1 := L.1
        have l2 := L.2
        have s59 : ¬ sb (b p) = 59 := fun q => by have := (sb_59 _ hb.1).mp q; omega
        obtain ⟨g', a5, a7, a9⟩ := m_word h p (sb (b p)) en hL hN (e - p) p (upd (upd g 10 (nI p)) 9 1) (by omega) (Nat.le_refl _) ((upd_ne (by decide)).trans g17) ((upd_ne (by decide)).trans g18)
        rw [Nat.sub_self] at a5
        refine ⟨_, g', lN (vW b p (e - p)), cl, rf _ ?_, ⟨k5, ?_, ?_⟩, 1, p, e, ⟨by omega, en, by decide, ⟨k1, ?_⟩, ⟨k2, ?_⟩, ⟨k3, ?_⟩, k4, fun _ => a7, fun _ => pe, fun _ => ⟨rfl, hL⟩, fun q => absurd q (by decide)⟩, Nat.le_refl _⟩
        · refine xg s59 (xbi (m_letter _ hb.1) (xn (nI_nle (by rw [lv_t L]; omega) (by have := lv_le (b p); omega)) (xg rfl (xlt ?_))))
          rw [zf_us]
          exact a5
        · rw [a9 4 (by decide), upd_ne (by decide), upd_ne (by decide)]
        · rw [a9 12 (by decide), upd_ne (by decide), upd_ne (by decide)]
        · rw [a9 7 (by decide), upd_ne (by decide), g17]
        · rw [a9 9 (by decide), upd_eq]; rfl
        · rw [a9 10 (by decide), upd_ne (by decide), upd_eq]
      · have lv0 : nI (lv (b p)) ≤ 0 := by rw [lv_f L]; decide
        have l1 := D.1
        have l2 := D.2
        have s59 : ¬ sb (b p) = 59 := fun q => by have := (sb_59 _ hb.1).mp q; omega
        obtain ⟨x', g', a3, a8, a5, a7, a10⟩ := m_num h p (sb (b p)) en hD hN (e - p) p 0 (upd (upd g 10 (nI p)) 9 2) (by omega) (Nat.le_refl _) (by decide) (by rw [Nat.sub_self]; rfl) ((upd_ne (by decide)).trans g17) ((upd_ne (by decide)).trans g18)
        refine ⟨_, g', lN x', cl, rf _ ?_, ⟨k5, ?_, ?_⟩, 2, p, e, ⟨by omega, en, by decide, ⟨k1, ?_⟩, ⟨k2, ?_⟩, ⟨k3, ?_⟩, k4, fun _ => a7, fun _ => pe, fun q => absurd q (by decide), fun _ => ⟨⟨x', a3, rfl, a8⟩, hD⟩⟩, Nat.le_refl _⟩
        · refine xg s59 (xbi (m_letter _ hb.1) (xg lv0 (xbi (m_digit _ hb.1) (xn (bI_ne D) (xg rfl (xlt ?_))))))
          rw [zf_us]
          exact a5
        · rw [a10 4 (by decide), upd_ne (by decide), upd_ne (by decide)]
        · rw [a10 12 (by decide), upd_ne (by decide), upd_ne (by decide)]
        · rw [a10 7 (by decide), upd_ne (by decide), g17]
        · rw [a10 9 (by decide), upd_eq]; rfl
        · rw [a10 10 (by decide), upd_ne (by decide), upd_eq]
      · refine ⟨_, upd (upd (upd g 10 (nI p)) 9 3) 8 (nI (p + 1)), 0, cl, rf _ ?_, ⟨k5, ?_, ?_⟩, 3, p, p + 1, ⟨by omega, by omega, by decide, ⟨k1, ?_⟩, ⟨k2, ?_⟩, ⟨k3, ?_⟩, k4, fun _ => upd_eq, fun _ => by omega, fun q => absurd q (by decide), fun q => absurd q (by decide)⟩, Nat.le_refl _⟩
        · refine xn (fun q => q ((sb_59 _ hb.1).mpr S)) (xg rfl (xlt (xg rfl (xg rfl (xlt ?_)))))
          rw [zf_us, zf_rd, upd_ne (by decide), g18, nI_1, zf_us]
        · rw [upd_ne (by decide), upd_ne (by decide), upd_ne (by decide)]
        · rw [upd_ne (by decide), upd_ne (by decide), upd_ne (by decide)]
        · rw [upd_ne (by decide), upd_ne (by decide), g17]
        · rw [upd_ne (by decide), upd_eq]; rfl
        · rw [upd_ne (by decide), upd_ne (by decide), upd_eq]
      · have lv0 : nI (lv (b p)) ≤ 0 := by rw [lv_f L]; decide
        have s59 : ¬ sb (b p) = 59 := fun q => S ((sb_59 _ hb.1).mp q)
        refine ⟨_, upd (upd g 10 (nI p)) 9 4, 0, cl, rf _ ?_, ⟨k5, ?_, ?_⟩, 4, p, p + 1, ⟨by omega, by omega, by decide, ⟨k1, ?_⟩, ⟨k2, ?_⟩, ⟨k3, ?_⟩, k4, fun q => absurd rfl q, fun _ => by omega, fun q => absurd q (by decide), fun q => absurd q (by decide)⟩, Nat.le_refl _⟩
        · refine xg s59 (xbi (m_letter _ hb.1) (xg lv0 (xbi (m_digit _ hb.1) (xg (bI_f D) (xg rfl (xlt ?_))))))
          rw [zf_us]
        · rw [upd_ne (by decide), upd_ne (by decide)]
        · rw [upd_ne (by decide), upd_ne (by decide)]
        · rw [upd_ne (by decide), g17]
        · rw [upd_eq]; rfl
        · rw [upd_ne (by decide), upd_eq]
/-- the methods: the next token behind e -/
theorem tk_nx {n : Nat} {b : Nat → Nat} {w z : xm_U} (h : byt n b w z) {e : Nat} {f g : Nat → Int32} (v : Int64) (he : e ≤ n) (h1 : f 1 = nI n) (h4 : f 4 = nI e) (h7 : g 7 = nI n) (h8 : g 8 = nI e) : ∃ f' g' v', xm_C 15 [xv_r 4 0] (wf w f) = some (none, wf w f') ∧ xm_C 173 [xv_r 9 0] (zf z g v) = some (none, zf z g' v') ∧ keep f f' g g' ∧ ∃ t s e', tok n b f' g' v' t s e' ∧ e ≤ s := by
  obtain ⟨f', g', v', e1, e2, k, q⟩ := tk_next h (n - e) e (upd f 3 (nI e)) g v (by omega) ((upd_ne (by decide)).trans h1) upd_eq h7 h8
  refine ⟨f', g', v', ?_, ?_, ⟨k.1.trans (upd_ne (by decide)), k.2⟩, q⟩
  · rw [xe_X1_nextToken]
    refine xg rfl (xg rfl (xlt (?_)))
    rw [wf_rd, h4, wf_us]
    exact e1
  · rw [xe_X4_next]
    exact e2
