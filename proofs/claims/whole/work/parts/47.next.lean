/-! THE NEXT TOKEN, both sides in step -/
/-- a token t from s to e -/
def tok (n : Nat) (b : Nat → Nat) (f g : Nat → Int32) (v : Int64) (t s e : Nat) : Prop :=
  s ≤ e ∧ e ≤ n ∧ t ≤ 4 ∧ (f 1 = nI n ∧ g 7 = nI n) ∧ (f 2 = nI t ∧ g 9 = nI t) ∧ (f 3 = nI s ∧ g 10 = nI s) ∧ f 4 = nI e ∧ (t ≠ 4 → g 8 = nI e) ∧ (t ≠ 0 → s < e) ∧
  (t = 1 → v = lN (vW b s (e - s)) ∧ ∀ k, s ≤ k → k < e → isL (b k)) ∧ (t = 2 → ∃ x, x ≤ 10000 ∧ v = lN x ∧ f 5 = nI (min x 1000))
def keep (f f' g g' : Nat → Int32) : Prop := f' 6 = f 6 ∧ g' 4 = g 4 ∧ g' 12 = g 12
theorem tk_next {n : Nat} {b : Nat → Nat} {w z : xm_U} (h : byt n b w z) : ∀ (m p : Nat) (f g : Nat → Int32) (v : Int64), p + m = n → f 1 = nI n → f 3 = nI p → g 7 = nI n → g 8 = nI p → ∃ f' g' v', xm_E 15 (xc_X1_nextToken.drop 4, [some (xv_r 4 0)], [], wf w f) = some (none, wf w f') ∧ xm_E 173 (xc_X4_next.drop 0, [some (xv_r 9 0), none], [], zf z g v) = some (none, zf z g' v') ∧ keep f f' g g' ∧ ∃ t s e, tok n b f' g' v' t s e ∧ p ≤ s := by
  have n120 := h.1
  intro m
  induction m with
  | zero =>
    intro p f g v hp h1 h3 h7 h8
    have : p = n := by omega
    subst this
    have f13 : upd f 4 (nI p) 3 = nI p := (upd_ne (by decide)).trans h3
    have f11 : upd f 4 (nI p) 1 = nI p := (upd_ne (by decide)).trans h1
    have g18 : upd g 10 (nI p) 8 = nI p := (upd_ne (by decide)).trans h8
    have g17 : upd g 10 (nI p) 7 = nI p := (upd_ne (by decide)).trans h7
    refine ⟨upd (upd f 4 (nI p)) 2 0, upd (upd g 10 (nI p)) 9 0, 0, ?_, ?_, ⟨?_, ?_, ?_⟩, 0, p, p, ⟨Nat.le_refl _, Nat.le_refl _, by decide, ⟨?_, ?_⟩, ⟨upd_eq, upd_eq⟩, ⟨?_, ?_⟩, ?_, fun _ => ?_, fun q => absurd rfl q, fun q => absurd q (by decide), fun q => absurd q (by decide)⟩, Nat.le_refl _⟩
    · rw [xe_X1_nextToken_4, wf_rd, wf_rd, h1, h3]
      refine xg rfl (xg rfl (xg (nI_le (Nat.le_refl _) (by omega)) (?_)))
      refine xg rfl (xg rfl (xlt ?_))
      rw [wf_us, wf_rd, wf_rd, f13, f11]
      refine xg rfl (xg rfl (xn (nI_nlt (Nat.le_refl _) (by omega)) (xg rfl (xlt ?_))))
      rw [wf_us]
    · rw [xe_X4_next_0, zf_rd, h8]
      refine xg rfl (xg rfl (xbi (m_at_e _ h7 (by omega) (Nat.le_refl _) (by omega)) (xg ((by decide)) (?_))))
      refine xg rfl (xg rfl (xlt (xg rfl (xlt ?_))))
      rw [zf_rd, h8, zf_us, zf_ul, zf_rd, g18]
      refine xg rfl (xg rfl (xbi (m_at_e _ g17 (by omega) (Nat.le_refl _) (by omega)) ?_))
      rw [zf_rd, zf_rd, g18, g17]
      refine xg rfl (xg rfl (xn (fun q => q rfl) (xg rfl (xlt ?_))))
      rw [zf_us]
    · rw [upd_ne (by decide), upd_ne (by decide)]
    · rw [upd_ne (by decide), upd_ne (by decide)]
    · rw [upd_ne (by decide), upd_ne (by decide)]
    · rw [upd_ne (by decide), f11]
    · rw [upd_ne (by decide), g17]
    · rw [upd_ne (by decide), f13]
    · rw [upd_ne (by decide), upd_eq]
    · rw [upd_ne (by decide), upd_eq]
    · rw [upd_ne (by decide), g18]
  | succ m ih =>
    intro p f g v hp h1 h3 h7 h8
    have hpn : p < n := by omega
    have hb := h.2 p hpn
    have n1 : ¬ nI n ≤ nI p := nI_ge hpn (by omega)
    have lt : nI p < nI n := nI_lt hpn (by omega)
    have ne : ¬ nI p = nI n := fun q => by have := (nI_eq (by omega) (by omega)).mp q; omega
    have i4 : xm_in 4 1 (nI p) := xin (vp_in_nI (n := p) (N := 120) (by omega) (by decide)) rfl
    have f13 : upd f 4 (nI p) 3 = nI p := (upd_ne (by decide)).trans h3
    have f11 : upd f 4 (nI p) 1 = nI n := (upd_ne (by decide)).trans h1
    have g18 : upd g 10 (nI p) 8 = nI p := (upd_ne (by decide)).trans h8
    have g17 : upd g 10 (nI p) 7 = nI n := (upd_ne (by decide)).trans h7
    by_cases B : b p = 32
    · obtain ⟨f', g', v', e1, e2, k1, t, s, e, tk, hs⟩ := ih (p + 1) (upd f 3 (nI (p + 1))) (upd g 8 (nI (p + 1))) v (by omega) ((upd_ne (by decide)).trans h1) upd_eq ((upd_ne (by decide)).trans h7) upd_eq
      refine ⟨f', g', v', ?_, ?_, ⟨k1.1.trans (upd_ne (by decide)), k1.2.1.trans (upd_ne (by decide)), k1.2.2.trans (upd_ne (by decide))⟩, t, s, e, tk, by omega⟩
      · rw [xe_X1_nextToken_4, wf_rd, wf_rd, h1, h3, nI_clamp (n := p) (by omega), wf_b, hb.2.1]
        refine xg rfl (xg rfl (xn n1 (xg rfl (xg rfl (xg i4 (xn ((fun q => q (by rw [B]; rfl))) (xg rfl (xg rfl (xlt (?_))))))))))
        rw [nI_1, wf_us]
        exact e1
      · rw [xe_X4_next_0, zf_rd, h8]
        refine xg rfl (xg rfl (xbi (m_at h _ h7 hpn) (xn ((fun q => q ((sb_32 _ hb.1).mpr B))) (xg rfl (xg rfl (xlt (?_)))))))
        rw [zf_rd, h8, nI_1, zf_us]
        exact e2
    · have c32 : ¬ nI (b p) = 32 := fun q => B ((nI_eq (b := 32) (by omega) (by decide)).mp q)
      have s32 : ¬ sb (b p) = 32 := fun q => B ((sb_32 _ hb.1).mp q)
      -- the class as far as the letter
      have cl : ∀ r, xm_bi (xm_C 18 [xv_i (nI (b p))] (wf w (upd f 4 (nI p)))) (fun r17 u16 => xm_if (r17 = 0) (xm_if (xm_cls 4 = 1) (xm_if (xm_cls 4 = 1) (xm_if (xm_in 4 1 (u16.1 4 0 3)) (xm_bi (xm_C 19 [xv_i (u16.1 4 1 ((u16.1 4 0 3).toNatClampNeg))] u16) (fun r19 u18 => xm_if (r19 = 0) (xm_if (xm_cls 4 = 1) (xm_if (xm_cls 4 = 1) (xm_if (xm_in 4 1 (u18.1 4 0 3)) (xm_if (¬ (u18.1 4 1 ((u18.1 4 0 3).toNatClampNeg)) = 59) (xm_if (xm_cls 4 = 1) (xm_let (xm_us u18 4 0 2 4) (fun u20 => xm_if (xm_cls 4 = 1) (xm_if (xm_cls 4 = 1) (xm_let (xm_us u20 4 0 4 ((u20.1 4 0 3) + 1)) (fun u21 => some (none, u21))) none) none)) none) (xm_if (xm_cls 4 = 1) (xm_let (xm_us u18 4 0 2 3) (fun u22 => xm_if (xm_cls 4 = 1) (xm_if (xm_cls 4 = 1) (xm_let (xm_us u22 4 0 4 ((u22.1 4 0 3) + 1)) (fun u23 => some (none, u23))) none) none)) none)) none) none) none) (xm_if (xm_cls 4 = 1) (xm_let (xm_us u18 4 0 2 2) (fun u24 => xm_if (xm_cls 4 = 1) (xm_bv (xm_C 17 [xv_r 4 0] u24) (fun u25 => some (none, u25))) none)) none))) none) none) none) (xm_if (xm_cls 4 = 1) (xm_let (xm_us u16 4 0 2 1) (fun u26 => xm_if (xm_cls 4 = 1) (xm_bv (xm_C 16 [xv_r 4 0] u26) (fun u27 => some (none, u27))) none)) none)) = r → xm_E 15 (xc_X1_nextToken.drop 4, [some (xv_r 4 0)], [], wf w f) = r := by
        intro r q
        rw [xe_X1_nextToken_4, wf_rd, wf_rd, h1, h3, nI_clamp (n := p) (by omega), wf_b, hb.2.1]
        refine xg rfl (xg rfl (xn n1 (xg rfl (xg rfl (xg i4 (xg c32 (?_)))))))
        refine xg rfl (xg rfl (xlt ?_))
        rw [wf_us, wf_rd, wf_rd, f13, f11, nI_clamp (n := p) (by omega), wf_b, hb.2.1]
        exact xg rfl (xg rfl (xg lt (xg rfl (xg rfl (xg i4 q)))))
      have rf : ∀ r, xm_if (¬ sb (b p) = 59) (xm_bi (xm_C 170 [xv_i (sb (b p))] (zf z (upd g 10 (nI p)) 0)) (fun r8 u7 => xm_if (r8 ≤ 0) (xm_bi (xm_C 171 [xv_i (sb (b p))] u7) (fun r10 u9 => xm_if (r10 = 0) (xm_if (xm_cls 9 = 4) (xm_let (xm_us u9 9 0 9 4) (fun u11 => some (none, u11))) none) (xm_if (xm_cls 9 = 4) (xm_let (xm_us u9 9 0 9 2) (fun u12 => xm_E 173 (xc_X4_next.drop 93, [some (xv_r 9 0), some (xv_i (sb (b p)))], [], u12))) none))) (xm_if (xm_cls 9 = 4) (xm_let (xm_us u7 9 0 9 1) (fun u13 => xm_E 173 (xc_X4_next.drop 53, [some (xv_r 9 0), some (xv_i (sb (b p)))], [], u13))) none))) (xm_if (xm_cls 9 = 4) (xm_let (xm_us (zf z (upd g 10 (nI p)) 0) 9 0 9 3) (fun u14 => xm_if (xm_cls 9 = 4) (xm_if (xm_cls 9 = 4) (xm_let (xm_us u14 9 0 8 ((u14.1 9 0 8) + 1)) (fun u15 => some (none, u15))) none) none)) none) = r → xm_E 173 (xc_X4_next.drop 0, [some (xv_r 9 0), none], [], zf z g v) = r := by
        intro r q
        rw [xe_X4_next_0, zf_rd, h8]
        refine xg rfl (xg rfl (xbi (m_at h _ h7 hpn) (xg s32 (?_))))
        refine xg rfl (xg rfl (xlt (xg rfl (xlt ?_))))
        rw [zf_rd, h8, zf_us, zf_ul, zf_rd, g18]
        refine xg rfl (xg rfl (xbi (m_at h _ g17 hpn) ?_))
        rw [zf_rd, zf_rd, g18, g17]
        exact xg rfl (xg rfl (xg ne q))
      by_cases L : isL (b p)
      · have l1 := L.1
        have l2 := L.2
        have s59 : ¬ sb (b p) = 59 := fun q => by have := (sb_59 _ hb.1).mp q; omega
        obtain ⟨e', f', g', a1, a2, a0, a3, a4, a5, a6, a7, a8, a9⟩ := tk_word h p (sb (b p)) (m + 1) p (upd (upd f 4 (nI p)) 2 1) (upd (upd g 10 (nI p)) 9 1) hp (Nat.le_refl _) ((upd_ne (by decide)).trans f11) ((upd_ne (by decide)).trans upd_eq) ((upd_ne (by decide)).trans g17) ((upd_ne (by decide)).trans g18)
        rw [Nat.sub_self] at a5
        have pe := a0 L hpn
        refine ⟨f', g', lN (vW b p (e' - p)), cl _ ?_, rf _ ?_, ⟨?_, ?_, ?_⟩, 1, p, e', ⟨by omega, a2, by decide, ⟨?_, ?_⟩, ⟨?_, ?_⟩, ⟨?_, ?_⟩, a6, fun _ => a7, fun _ => pe, fun _ => ⟨rfl, a3⟩, fun q => absurd q (by decide)⟩, Nat.le_refl _⟩
        · refine xbi (x_letter _ hb.1) (xn (bI_ne L) (xg rfl (xlt (xg rfl ?_))))
          rw [wf_us, xe_X1_endWord]
          exact xbv a4 rfl
        · refine xg s59 (xbi (m_letter _ hb.1) (xn (nI_nle (by rw [lv_t L]; omega) (by have := lv_le (b p); omega)) (xg rfl (xlt ?_))))
          rw [zf_us]
          exact a5
        · rw [a8 6 (by decide), upd_ne (by decide), upd_ne (by decide)]
        · rw [a9 4 (by decide), upd_ne (by decide), upd_ne (by decide)]
        · rw [a9 12 (by decide), upd_ne (by decide), upd_ne (by decide)]
        · rw [a8 1 (by decide), upd_ne (by decide), f11]
        · rw [a9 7 (by decide), upd_ne (by decide), g17]
        · rw [a8 2 (by decide), upd_eq]; rfl
        · rw [a9 9 (by decide), upd_eq]; rfl
        · rw [a8 3 (by decide), upd_ne (by decide), f13]
        · rw [a9 10 (by decide), upd_ne (by decide), upd_eq]
      have lv0 : nI (lv (b p)) ≤ 0 := by rw [lv_f L]; decide
      by_cases D : isD (b p)
      · have l1 := D.1
        have l2 := D.2
        have s59 : ¬ sb (b p) = 59 := fun q => by have := (sb_59 _ hb.1).mp q; omega
        obtain ⟨e', x', f', g', a1, a2, a0, a3, a4, a5, a6, a7, a8, a9, a10⟩ := tk_num h (sb (b p)) (m + 1) p 0 (upd (upd (upd f 4 (nI p)) 2 2) 5 0) (upd (upd g 10 (nI p)) 9 2) hp (by decide) ((upd_ne (by decide)).trans ((upd_ne (by decide)).trans f11)) ((upd_ne (by decide)).trans ((upd_ne (by decide)).trans upd_eq)) upd_eq ((upd_ne (by decide)).trans g17) ((upd_ne (by decide)).trans g18)
        have pe := a0 D hpn
        refine ⟨f', g', lN x', cl _ ?_, rf _ ?_, ⟨?_, ?_, ?_⟩, 2, p, e', ⟨by omega, a2, by decide, ⟨?_, ?_⟩, ⟨?_, ?_⟩, ⟨?_, ?_⟩, a6, fun _ => a7, fun _ => pe, fun q => absurd q (by decide), fun _ => ⟨x', a3, rfl, a8⟩⟩, Nat.le_refl _⟩
        · refine xbi (x_letter _ hb.1) (xg (bI_f L) ?_)
          rw [wf_rd, f13, nI_clamp (n := p) (by omega), wf_b, hb.2.1]
          refine xg rfl (xg rfl (xg i4 (xbi (x_digit _ hb.1) (xn (bI_ne D) (xg rfl (xlt (xg rfl ?_)))))))
          have c17 : xm_C 17 [xv_r 4 0] (wf w (upd (upd f 4 (nI p)) 2 2)) = some (none, wf w f') := by
            rw [xe_X1_endNumber]
            refine xg rfl (xlt ?_)
            rw [wf_us]
            exact a4
          rw [wf_us]
          exact xbv c17 rfl
        · refine xg s59 (xbi (m_letter _ hb.1) (xg lv0 (xbi (m_digit _ hb.1) (xn (bI_ne D) (xg rfl (xlt ?_))))))
          rw [zf_us]
          exact a5
        · rw [a9 6 (by decide) (by decide), upd_ne (by decide), upd_ne (by decide), upd_ne (by decide)]
        · rw [a10 4 (by decide), upd_ne (by decide), upd_ne (by decide)]
        · rw [a10 12 (by decide), upd_ne (by decide), upd_ne (by decide)]
        · rw [a9 1 (by decide) (by decide), upd_ne (by decide), upd_ne (by decide), f11]
        · rw [a10 7 (by decide), upd_ne (by decide), g17]
        · rw [a9 2 (by decide) (by decide), upd_ne (by decide), upd_eq]; rfl
        · rw [a10 9 (by decide), upd_eq]; rfl
        · rw [a9 3 (by decide) (by decide), upd_ne (by decide), upd_ne (by decide), f13]
        · rw [a10 10 (by decide), upd_ne (by decide), upd_eq]
      by_cases S : b p = 59
      · refine ⟨upd (upd (upd f 4 (nI p)) 2 3) 4 (nI (p + 1)), upd (upd (upd g 10 (nI p)) 9 3) 8 (nI (p + 1)), 0, cl _ ?_, rf _ ?_, ⟨?_, ?_, ?_⟩, 3, p, p + 1, ⟨by omega, by omega, by decide, ⟨?_, ?_⟩, ⟨?_, ?_⟩, ⟨?_, ?_⟩, upd_eq, fun _ => upd_eq, fun _ => by omega, fun q => absurd q (by decide), fun q => absurd q (by decide)⟩, Nat.le_refl _⟩
        · refine xbi (x_letter _ hb.1) (xg (bI_f L) ?_)
          rw [wf_rd, f13, nI_clamp (n := p) (by omega), wf_b, hb.2.1]
          refine xg rfl (xg rfl (xg i4 (xbi (x_digit _ hb.1) (xg (bI_f D) ?_))))
          rw [wf_rd, f13, nI_clamp (n := p) (by omega), wf_b, hb.2.1]
          refine xg rfl (xg rfl (xg i4 (xn (fun q => q (by rw [S]; rfl)) (xg rfl (xlt (xg rfl (xg rfl (xlt ?_))))))))
          rw [wf_us, wf_rd, upd_ne (by decide), f13, nI_1, wf_us]
        · refine xn (fun q => q ((sb_59 _ hb.1).mpr S)) (xg rfl (xlt (xg rfl (xg rfl (xlt ?_)))))
          rw [zf_us, zf_rd, upd_ne (by decide), g18, nI_1, zf_us]
        · rw [upd_ne (by decide), upd_ne (by decide), upd_ne (by decide)]
        · rw [upd_ne (by decide), upd_ne (by decide), upd_ne (by decide)]
        · rw [upd_ne (by decide), upd_ne (by decide), upd_ne (by decide)]
        · rw [upd_ne (by decide), upd_ne (by decide), f11]
        · rw [upd_ne (by decide), upd_ne (by decide), g17]
        · rw [upd_ne (by decide), upd_eq]; rfl
        · rw [upd_ne (by decide), upd_eq]; rfl
        · rw [upd_ne (by decide), upd_ne (by decide), f13]
        · rw [upd_ne (by decide), upd_ne (by decide), upd_eq]
      · have c59 : ¬ nI (b p) = 59 := fun q => S ((nI_eq (b := 59) (by omega) (by decide)).mp q)
        have s59 : ¬ sb (b p) = 59 := fun q => S ((sb_59 _ hb.1).mp q)
        refine ⟨upd (upd (upd f 4 (nI p)) 2 4) 4 (nI (p + 1)), upd (upd g 10 (nI p)) 9 4, 0, cl _ ?_, rf _ ?_, ⟨?_, ?_, ?_⟩, 4, p, p + 1, ⟨by omega, by omega, by decide, ⟨?_, ?_⟩, ⟨?_, ?_⟩, ⟨?_, ?_⟩, upd_eq, fun q => absurd rfl q, fun _ => by omega, fun q => absurd q (by decide), fun q => absurd q (by decide)⟩, Nat.le_refl _⟩
        · refine xbi (x_letter _ hb.1) (xg (bI_f L) ?_)
          rw [wf_rd, f13, nI_clamp (n := p) (by omega), wf_b, hb.2.1]
          refine xg rfl (xg rfl (xg i4 (xbi (x_digit _ hb.1) (xg (bI_f D) ?_))))
          rw [wf_rd, f13, nI_clamp (n := p) (by omega), wf_b, hb.2.1]
          refine xg rfl (xg rfl (xg i4 (xg c59 (xg rfl (xlt (xg rfl (xg rfl (xlt ?_))))))))
          rw [wf_us, wf_rd, upd_ne (by decide), f13, nI_1, wf_us]
        · refine xg s59 (xbi (m_letter _ hb.1) (xg lv0 (xbi (m_digit _ hb.1) (xg (bI_f D) (xg rfl (xlt ?_))))))
          rw [zf_us]
        · rw [upd_ne (by decide), upd_ne (by decide), upd_ne (by decide)]
        · rw [upd_ne (by decide), upd_ne (by decide)]
        · rw [upd_ne (by decide), upd_ne (by decide)]
        · rw [upd_ne (by decide), upd_ne (by decide), f11]
        · rw [upd_ne (by decide), g17]
        · rw [upd_ne (by decide), upd_eq]; rfl
        · rw [upd_eq]; rfl
        · rw [upd_ne (by decide), upd_ne (by decide), f13]
        · rw [upd_ne (by decide), upd_eq]
/-- the methods: the next token behind e -/
theorem tk_nx {n : Nat} {b : Nat → Nat} {w z : xm_U} (h : byt n b w z) {e : Nat} {f g : Nat → Int32} (v : Int64) (he : e ≤ n) (h1 : f 1 = nI n) (h4 : f 4 = nI e) (h7 : g 7 = nI n) (h8 : g 8 = nI e) : ∃ f' g' v', xm_C 15 [xv_r 4 0] (wf w f) = some (none, wf w f') ∧ xm_C 173 [xv_r 9 0] (zf z g v) = some (none, zf z g' v') ∧ keep f f' g g' ∧ ∃ t s e', tok n b f' g' v' t s e' ∧ e ≤ s := by
  obtain ⟨f', g', v', e1, e2, k, q⟩ := tk_next h (n - e) e (upd f 3 (nI e)) g v (by omega) ((upd_ne (by decide)).trans h1) upd_eq h7 h8
  refine ⟨f', g', v', ?_, ?_, ⟨k.1.trans (upd_ne (by decide)), k.2⟩, q⟩
  · rw [xe_X1_nextToken]
    refine xg rfl (xg rfl (xlt (?_)))
    rw [wf_rd, h4, wf_us]
    exact e1
  · rw [xe_X4_next]
    exact e2
