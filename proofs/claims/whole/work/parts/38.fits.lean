/-! sheets: what is wrong -/
theorem cls_s {s : Nat} (h : s < 4) : xm_cls (5 + s) = 0 := by
  match s, h with
  | 0, _ => rfl
  | 1, _ => rfl
  | 2, _ => rfl
  | 3, _ => rfl
theorem s_in {s p n k : Nat} (h : s < 4) (hl : xm_ln 0 p = some n) (hk : k < n) (hn : n < 2 ^ 31) : xm_in (5 + s) p (nI k) := xin (vp_in_nI hk hn) (by rw [cls_s h]; exact hl)
theorem bd_s {s : Nat} (h : s < 4) : bd (nI s) 3 := bd_of (n := 3) (by omega) (by decide)
theorem x_miss (u : xm_U) {s : Nat} (h : s < 4) : xm_C 0 [xv_r (5 + s) 0] u = some (some (xv_i (bI (u.1 (5 + s) 0 0 = 0))), u) := by
  have hc := cls_s h
  rw [xe_X0_isMissing]
  by_cases c : u.1 (5 + s) 0 0 = 0
  · rw [bI_t c]; exact xg hc (xn (fun q => q c) (xg nb1 rfl))
  · rw [bI_f c]; exact xg hc (xg c (xg nb0 rfl))
theorem x_ws_b (u : xm_U) {a : Int32} (H : ¬ bd a 3) : xm_C 98 [xv_r 0 0, xv_i a] u = some (some (xv_i (-1000001)), u) := by
  rw [xe_X3_wrongSheet]
  exact xbi (x_isSheet _ _) (xn (bI_nn H) (rfl))
theorem x_ws_m {u : xm_U} {s : Nat} (h : s < 4) (h0 : u.1 (5 + s) 0 0 = 0) : xm_C 98 [xv_r 0 0, xv_i (nI s)] u = some (some (xv_i (-1000006)), u) := by
  rw [xe_X3_wrongSheet, nI_clamp (by omega)]
  exact xbi (x_isSheet _ _) (xg (bI_ne (bd_s h)) (xg rfl (xg (vp_in_nI h (by decide)) (xg (cls_s h) (xbi (x_miss _ h) (xn (bI_ne h0) (rfl)))))))
theorem x_ws_k {u : xm_U} {s : Nat} (h : s < 4) (h0 : ¬ u.1 (5 + s) 0 0 = 0) : xm_C 98 [xv_r 0 0, xv_i (nI s)] u = some (some (xv_i 0), u) := by
  rw [xe_X3_wrongSheet, nI_clamp (by omega)]
  exact xbi (x_isSheet _ _) (xg (bI_ne (bd_s h)) (xg rfl (xg (vp_in_nI h (by decide)) (xg (cls_s h) (xbi (x_miss _ h) (xg (bI_f h0) (rfl)))))))
theorem m_wn_b (u : xm_U) {a : Int32} (H : ¬ bd a 3) : xm_C 190 [xv_r 9 0, xv_i a] u = some (some (xv_i 0), u) := by
  rw [xe_X4_whyNone]
  exact xbi (m_isSheet _ _) (xn (bI_nn H) (rfl))
theorem m_wn_m {u : xm_U} {s : Nat} (h : s < 4) (h0 : u.1 9 14 s = 0) : xm_C 190 [xv_r 9 0, xv_i (nI s)] u = some (some (xv_i 5), u) := by
  rw [xe_X4_whyNone, nI_clamp (by omega)]
  exact xbi (m_isSheet _ _) (xg (bI_ne (bd_s h)) (xg rfl (xg (xin (vp_in_nI h (by decide)) rfl) (xn ((fun q => q h0)) (rfl)))))
theorem m_wn_k {u : xm_U} {s : Nat} (h : s < 4) (h0 : ¬ u.1 9 14 s = 0) : xm_C 190 [xv_r 9 0, xv_i (nI s)] u = some (some (xv_i (-1)), u) := by
  rw [xe_X4_whyNone, nI_clamp (by omega)]
  exact xbi (m_isSheet _ _) (xg (bI_ne (bd_s h)) (xg rfl (xg (xin (vp_in_nI h (by decide)) rfl) (xg h0 (rfl)))))
theorem x_wsp_f {u : xm_U} {a b r : Int32} (q : xm_C 98 [xv_r 0 0, xv_i a] u = some (some (xv_i r), u)) (h : ¬ r = 0) : xm_C 99 [xv_r 0 0, xv_i a, xv_i b] u = some (some (xv_i r), u) := by
  rw [xe_X3_wrongSheetOrPlank]
  exact xg rfl (xbi q (xn h (rfl)))
theorem x_wsp_t {u : xm_U} {d : Nat → Int32} (hv : vd u 1 d) {a b : Int32} (q : xm_C 98 [xv_r 0 0, xv_i a] u = some (some (xv_i 0), u)) (P : bd b (d 0 - 1)) : xm_C 99 [xv_r 0 0, xv_i a, xv_i b] u = some (some (xv_i 0), u) := by
  rw [xe_X3_wrongSheetOrPlank]
  exact xg rfl (xbi q (xg rfl (xg rfl (xbi (x_isPlank _ _ hv) (xn (bI_ne P) (rfl))))))
theorem x_wsp_n {u : xm_U} {d : Nat → Int32} (hv : vd u 1 d) {a b : Int32} (q : xm_C 98 [xv_r 0 0, xv_i a] u = some (some (xv_i 0), u)) (P : ¬ bd b (d 0 - 1)) : xm_C 99 [xv_r 0 0, xv_i a, xv_i b] u = some (some (xv_i (-1000001)), u) := by
  rw [xe_X3_wrongSheetOrPlank]
  exact xg rfl (xbi q (xg rfl (xg rfl (xbi (x_isPlank _ _ hv) (xg (bI_f P) (rfl))))))
theorem m_wnp_f {u : xm_U} {a b r : Int32} (q : xm_C 190 [xv_r 9 0, xv_i a] u = some (some (xv_i r), u)) (h : ¬ r < 0) : xm_C 159 [xv_r 9 0, xv_i a, xv_i b] u = some (some (xv_i r), u) := by
  rw [xe_X4_whyNot]
  exact xg rfl (xbi q (xn h (rfl)))
theorem m_wnp_t {u : xm_U} {a b : Int32} (q : xm_C 190 [xv_r 9 0, xv_i a] u = some (some (xv_i (-1)), u)) (P : bd b (u.1 9 1 0 - 1)) : xm_C 159 [xv_r 9 0, xv_i a, xv_i b] u = some (some (xv_i (-1)), u) := by
  rw [xe_X4_whyNot]
  exact xg rfl (xbi q (xg ((by decide)) (xg rfl (xbi (m_isPlank _ _) (xn (bI_ne P) (rfl))))))
theorem m_wnp_n {u : xm_U} {a b : Int32} (q : xm_C 190 [xv_r 9 0, xv_i a] u = some (some (xv_i (-1)), u)) (P : ¬ bd b (u.1 9 1 0 - 1)) : xm_C 159 [xv_r 9 0, xv_i a, xv_i b] u = some (some (xv_i 0), u) := by
  rw [xe_X4_whyNot]
  exact xg rfl (xbi q (xg ((by decide)) (xg rfl (xbi (m_isPlank _ _) (xg (bI_f P) (rfl))))))
/-! as a sheet tells -/
def toldP (d nm : Nat → Int32) (q i : Nat) : Prop := nm i = -1 ∨ nm i = yearsG d i q
theorem ix40 (s k : Nat) : (40 : Int32) * nI s + nI k = nI (40 * s + k) := by
  rw [show (40 : Int32) = nI 40 from rfl, pk_mul, nI_add]
theorem x_goes_loop {u0 : xm_U} {d nm : Nat → Int32} {sz s p w : Nat} (hd : inv d) (hs4 : s < 4) (hp : p < 8) (hw : w < 7) (hsz : sz ≤ 40) (h1 : u0.1 (5 + s) 0 1 = nI sz) (h3 : ∀ k, k < 40 → u0.1 (5 + s) 3 k = nm k) : ∀ (m i : Nat) (u : xm_U), i + m = sz → vd u 2 (yearsG d (i - 1)) → oth u0 u 2 → (∀ j, j < i → toldP d nm (23 + 8 * w + p) j) → ∃ u', xm_E 105 (xc_X3_goesAsTold.drop 2, [some (xv_r 0 0), some (xv_r (5 + s) 0), some (xv_r 2 (9 + w)), some (xv_i (nI p)), some (xv_i (nI i)), none], [], u) = some (some (xv_i (bI (∀ j, j < sz → toldP d nm (23 + 8 * w + p) j))), u') ∧ oth u0 u' 2 := by
  have hc := cls_s hs4
  intro m
  induction m with
  | zero =>
    intro i u hi hv ho ht
    have : i = sz := by omega
    subst this
    refine ⟨u, ?_, ho⟩
    rw [xe_X3_goesAsTold_2, ho.1 (5 + s) (by omega), h1, bI_t ht]
    exact xg hc (xg (nI_le (Nat.le_refl _) (by omega)) (xg nb1 (rfl)))
  | succ m ih =>
    intro i u hi hv ho ht
    have es : ∀ u', oth u0 u' 2 → u'.1 (5 + s) = u0.1 (5 + s) := fun u' q => q.1 (5 + s) (by omega)
    have hst : ∀ u1, vd u1 2 (yearsG d i) → oth u0 u1 2 → ∃ u', oth u0 u' 2 ∧ ∀ x : Int32, x = nm i → (x = -1 → xm_E 105 (xc_X3_goesAsTold.drop 2, [some (xv_r 0 0), some (xv_r (5 + s) 0), some (xv_r 2 (9 + w)), some (xv_i (nI p)), some (xv_i (nI i + 1)), some (xv_i x)], [], u1) = some (some (xv_i (bI (∀ j, j < sz → toldP d nm (23 + 8 * w + p) j))), u')) ∧ (¬ x = -1 → x = yearsG d i (23 + 8 * w + p) → xm_E 105 (xc_X3_goesAsTold.drop 2, [some (xv_r 0 0), some (xv_r (5 + s) 0), some (xv_r 2 (9 + w)), some (xv_i (nI p)), some (xv_i (nI i + 1)), some (xv_i x)], [], u1) = some (some (xv_i (bI (∀ j, j < sz → toldP d nm (23 + 8 * w + p) j))), u')) ∧ (¬ x = -1 → ¬ x = yearsG d i (23 + 8 * w + p) → some (some (xv_i 0), u1) = some (some (xv_i (bI (∀ j, j < sz → toldP d nm (23 + 8 * w + p) j))), u')) := by
      intro u1 hv1 ho1
      by_cases t : toldP d nm (23 + 8 * w + p) i
      · obtain ⟨u', e, o⟩ := ih (i + 1) u1 (by omega) hv1 ho1 (fun j hj => by
          by_cases c : j = i
          · subst c; exact t
          · exact ht j (by omega))
        refine ⟨u', o, fun x hx => ⟨fun _ => ?_, fun _ _ => ?_, fun a b => ?_⟩⟩
        · rw [nI_1]; exact xm_E_mono (by repeat (first | exact lq_rf _ | apply lq_r | apply lq_n)) e
        · rw [nI_1]; exact xm_E_mono (by repeat (first | exact lq_rf _ | apply lq_r | apply lq_n)) e
        · subst hx; exact (t.elim a b).elim
      · refine ⟨u1, ho1, fun x hx => ⟨fun a => ?_, fun _ b => ?_, fun _ _ => ?_⟩⟩
        · subst hx; exact (t (Or.inl a)).elim
        · subst hx; exact (t (Or.inr b)).elim
        · rw [bI_f (fun q => t (q i (by omega)))]
    cases i with
    | zero =>
      obtain ⟨u', o, hu⟩ := hst u hv ho
      refine ⟨u', ?_, o⟩
      obtain ⟨a1, a2, a3⟩ := hu (nm 0) rfl
      rw [xe_X3_goesAsTold_2, es u ho, h1]
      refine xg hc (xn (nI_ge (by omega) (by omega)) (xg ((by decide)) (xg hc (xg (s_in hs4 (n := 40) rfl (by omega) (by decide)) (xlt (?_))))))
      rw [nI_clamp (n := 0) (by decide), h3 0 (by omega), nI_clamp (n := p) (by omega), vd_row hv hp hw]
      by_cases c : nm 0 = -1
      · exact xg c (a1 c)
      · refine xn c (xg (v_in rfl (ln_row hw) hp (by decide)) ?_)
        by_cases e : nm 0 = yearsG d (0 - 1) (23 + 8 * w + p)
        · exact xg e (a2 c e)
        · exact xn e (xg nb0 (a3 c e))
    | succ i =>
      obtain ⟨u1, q1, q2, q3⟩ := v_passYear (i := 2) rfl hv (inv_yearsG hd i)
      obtain ⟨u', o, hu⟩ := hst u1 q2 (oth_tr ho q3)
      refine ⟨u', ?_, o⟩
      obtain ⟨a1, a2, a3⟩ := hu (nm (i + 1)) rfl
      rw [xe_X3_goesAsTold_2, es u ho, h1]
      refine xg hc (xn (nI_ge (by omega) (by omega)) (xn (nI_nle (by omega) (by omega)) (xg rfl (xg rfl (xbv q1 (xg hc (xg (s_in hs4 (n := 40) rfl (by omega) (by decide)) (xlt (?_)))))))))
      rw [es u1 (oth_tr ho q3), nI_clamp (n := i + 1) (by omega), h3 (i + 1) (by omega), nI_clamp (n := p) (by omega), vd_row q2 hp hw]
      by_cases c : nm (i + 1) = -1
      · exact xg c (a1 c)
      · refine xn c (xg (v_in rfl (ln_row hw) hp (by decide)) ?_)
        by_cases e : nm (i + 1) = yearG (yearsG d i) (23 + 8 * w + p)
        · exact xg e (a2 c e)
        · exact xn e (xg nb0 (a3 c e))
noncomputable def setN (T : Nat → Prop) : Nat → Int32
  | 0 => 0
  | c + 1 => @ite _ (T c) (Classical.propDecidable _) (setN T c ||| (1 <<< (nI c &&& 31))) (setN T c)
theorem setN_t {T : Nat → Prop} {c : Nat} (h : T c) : setN T (c + 1) = setN T c ||| (1 <<< (nI c &&& 31)) := if_pos h
theorem setN_f {T : Nat → Prop} {c : Nat} (h : ¬ T c) : setN T (c + 1) = setN T c := if_neg h
def fitP (d nm : Nat → Int32) (q q2 sz c : Nat) : Prop := ∀ j, j < sz → toldP (upd d q (nI c)) nm q2 j
theorem x_choice_loop {u0 : xm_U} {d nm : Nat → Int32} {sz s p w v K : Nat} (hd : inv d) (hv0 : vd u0 1 d) (hs4 : s < 4) (hp : p < 8) (hw : w < 7) (hv7 : v < 7) (hsz : sz ≤ 40) (h31 : K < 2 ^ 31) (hok : ∀ c, c < K → okb (23 + 8 * v + p) (nI c)) (h1 : u0.1 (5 + s) 0 1 = nI sz) (h3 : ∀ k, k < 40 → u0.1 (5 + s) 3 k = nm k) : ∀ (m c : Nat) (u : xm_U), c + m = K → oth u0 u 2 → ∃ u', xm_E 104 (xc_X3_choicesAsTold.drop 4, [some (xv_r 0 0), some (xv_r 2 (9 + v)), some (xv_i (nI K)), some (xv_i (nI p)), some (xv_r (5 + s) 0), some (xv_r 2 (9 + w)), some (xv_i (setN (fitP d nm (23 + 8 * v + p) (23 + 8 * w + p) sz) c)), some (xv_i (nI c))], [], u) = some (some (xv_i (setN (fitP d nm (23 + 8 * v + p) (23 + 8 * w + p) sz) K)), u') ∧ oth u0 u' 2 := by
  intro m
  induction m with
  | zero =>
    intro c u hc ho
    have : c = K := by omega
    subst this
    refine ⟨u, ?_, ho⟩
    rw [xe_X3_choicesAsTold_4]
    exact xg (nI_le (Nat.le_refl _) (by omega)) (rfl)
  | succ m ih =>
    intro c u hc ho
    have hi2 : inv (upd d (23 + 8 * v + p) (nI c)) := inv_upd hd (by omega) (by omega) (hok c (by omega))
    obtain ⟨u1, q1, q2, q3⟩ := v_become (i := 2) (i1 := 1) rfl rfl (by decide) (vd_of (ho.1 1 (by decide)) hv0)
    have w1 := vw_row q2 hp hv7 (nI c)
    have o1 := oth_tr ho (oth_tr q3 (oth_us u1 2 (9 + v) p (nI c)))
    obtain ⟨u2, e2, o2⟩ := x_goes_loop hi2 hs4 hp hw hsz h1 h3 sz 0 _ (by omega) w1 o1 (fun j hj => absurd hj (Nat.not_lt_zero j))
    obtain ⟨u', e, o'⟩ := ih (c + 1) u2 (by omega) o2
    refine ⟨u', ?_, o'⟩
    have e3 : xm_C 105 [xv_r 0 0, xv_r (5 + s) 0, xv_r 2 (9 + w), xv_i (nI p)] (xm_us u1 2 (9 + v) p (nI c)) = some (some (xv_i (bI (fitP d nm (23 + 8 * v + p) (23 + 8 * w + p) sz c))), u2) := by
      rw [xe_X3_goesAsTold]
      exact e2
    rw [xe_X3_choicesAsTold_4]
    refine xn (nI_ge (by omega) (by omega)) (xg rfl (xg rfl (xg rfl (xbv q1 (xg (v_in rfl (ln_row hv7) hp (by decide)) (xlt (xg rfl (?_))))))))
    rw [nI_clamp (by omega)]
    refine xbi e3 ?_
    rw [nI_1]
    by_cases t : fitP d nm (23 + 8 * v + p) (23 + 8 * w + p) sz c
    · rw [setN_t t] at e
      exact xn (bI_ne t) (xlt e)
    · rw [setN_f t] at e
      exact xg (bI_f t) e
/-! the reference -/
theorem m_fit_loop {w0 : xm_U} {d dc nm : Nat → Int32} {sz s p w v hi c : Nat} {S : Int32} (hd : inv d) (hd0 : w0.1 9 1 = dc) (hdc : ∀ j, 89 ≤ j → d j = dc j) (hs4 : s < 4) (hp : p < 8) (hw : w < 7) (hsz : sz ≤ 40) (h1 : w0.1 9 15 s = nI sz) (h3 : ∀ k, k < 40 → w0.1 9 16 (40 * s + k) = nm k) : ∀ (m i : Nat) (z : xm_U), i + m = sz → sv w0 (yearsG d i) z → (∀ j, j < i → toldP d nm (23 + 8 * w + p) j) → ∃ z', (∀ r, xm_E 160 (xc_X4_fitting.drop 9, [some (xv_r 9 0), some (xv_i (nI s)), some (xv_i (nI p)), some (xv_i (nI v)), some (xv_i (nI hi)), some (xv_i (nI w)), some (xv_i (@ite _ (∀ j, j < sz → toldP d nm (23 + 8 * w + p) j) (Classical.propDecidable _) (S ||| (1 <<< (nI c &&& 31))) S)), some (xv_i (nI (c + 1))), none, none, none], [], z') = some r → xm_E 160 (xc_X4_fitting.drop 21, [some (xv_r 9 0), some (xv_i (nI s)), some (xv_i (nI p)), some (xv_i (nI v)), some (xv_i (nI hi)), some (xv_i (nI w)), some (xv_i S), some (xv_i (nI c)), some (xv_i 1), some (xv_i (nI i)), none], [], z) = some r) ∧ sv w0 dc z' := by
  have bk : ∀ i z, sv w0 (yearsG d i) z → sv w0 dc (dU z (cop (z.1 9 3) (yearsG d i) 89)) := fun i z hs => by
    have := sv_again hs (e := yearsG d i) (fun j hj => by rw [yearsG_hi hd (by omega), hdc j hj, hd0])
    rwa [hd0] at this
  have e15 : ∀ i z, sv w0 (yearsG d i) z → z.1 9 15 s = nI sz := fun i z hs => by rw [hs.2.2.2 15 (by decide) (by decide), h1]
  have i15 : xm_in 9 15 (nI s) := xin (vp_in_nI hs4 (by decide)) rfl
  intro m
  induction m with
  | zero =>
    intro i z hik hs ht
    have : i = sz := by omega
    subst this
    refine ⟨_, fun r e => ?_, bk i z hs⟩
    rw [if_pos ht] at e
    rw [xe_X4_fitting_21, nI_clamp (n := s) (by omega), e15 i z hs]
    refine xg rfl (xg i15 (xg (nI_le (Nat.le_refl _) (by omega)) (xg rfl (xg rfl (xbv (sv_back hs) (xn ((by decide)) (xlt (?_))))))))
    rw [nI_1 c]
    exact xm_E_mono (by repeat (first | exact lq_rf _ | apply lq_r | apply lq_n)) e
  | succ m ih =>
    intro i z hik hs ht
    have hy := sv_year hs (inv_yearsG hd i)
    have hs2 := sv_dU hs (yearsG d (i + 1))
    have e16 : z.1 9 16 (40 * s + i) = nm i := by rw [hs.2.2.2 16 (by decide) (by decide), h3 i (by omega)]
    have i16 : xm_in 9 16 (nI (40 * s + i)) := xin (vp_in_nI (n := 40 * s + i) (N := 160) (by omega) (by decide)) rfl
    have its : xm_C 117 [xv_r 9 0, xv_i (nI p), xv_i (nI w)] z = some (some (xv_i (yearsG d i (23 + 8 * w + p))), z) := by rw [m_itsN z hp hw, hs.2.1]
    by_cases t : toldP d nm (23 + 8 * w + p) i
    · obtain ⟨z', e, s'⟩ := ih (i + 1) _ (by omega) hs2 (fun j hj => by
        by_cases q : j = i
        · subst q; exact t
        · exact ht j (by omega))
      refine ⟨z', fun r q => ?_, s'⟩
      have e2 := e r q
      rw [xe_X4_fitting_21, ix40, nI_clamp (n := s) (by omega), nI_clamp (n := 40 * s + i) (by omega), e15 i z hs, e16]
      refine xg rfl (xg i15 (xn (nI_ge (by omega) (by omega)) (xn ((by decide)) (xg rfl (xg i16 (xlt (?_)))))))
      rw [nI_1 i]
      by_cases c1 : nm i = -1
      · exact xg c1 (xg rfl (xbv hy (xm_E_mono (by repeat (first | exact lq_rf _ | apply lq_r | apply lq_n)) e2)))
      · have c2 : nm i = yearsG d i (23 + 8 * w + p) := t.resolve_left c1
        exact xn c1 (xg rfl (xbi its (xn (fun q => q c2) (xg rfl (xbv hy (xm_E_mono (by repeat (first | exact lq_rf _ | apply lq_r | apply lq_n)) e2))))))
    · have c1 : ¬ nm i = -1 := fun q => t (Or.inl q)
      have c2 : ¬ nm i = yearsG d i (23 + 8 * w + p) := fun q => t (Or.inr q)
      refine ⟨_, fun r q => ?_, bk (i + 1) _ hs2⟩
      rw [if_neg (fun q => t (q i (by omega)))] at q
      rw [xe_X4_fitting_21, ix40, nI_clamp (n := s) (by omega), nI_clamp (n := 40 * s + i) (by omega), e15 i z hs, e16]
      refine xg rfl (xg i15 (xn (nI_ge (by omega) (by omega)) (xn ((by decide)) (xg rfl (xg i16 (xlt (?_)))))))
      refine xn c1 (xg rfl (xbi its (xg c2 (xg rfl (xbv hy ?_)))))
      rw [nI_1 i]
      refine xm_E_mono (ls := [some (xv_r 9 0), some (xv_i (nI s)), some (xv_i (nI p)), some (xv_i (nI v)), some (xv_i (nI hi)), some (xv_i (nI w)), some (xv_i S), some (xv_i (nI c)), some (xv_i 0), some (xv_i (nI (i + 1))), none]) (by repeat (first | exact lq_rf _ | apply lq_r | apply lq_n)) ?_
      rw [xe_X4_fitting_21, nI_clamp (n := s) (by omega), show (dU z (yearG (yearsG d i))).1 9 15 s = nI sz from e15 (i + 1) _ hs2, or_z, nI_1 c]
      by_cases l : nI sz ≤ nI (i + 1)
      · exact xg rfl (xg i15 (xg l (xg rfl (xg rfl (xbv (sv_back hs2) (xg rfl (xlt (xm_E_mono (by repeat (first | exact lq_rf _ | apply lq_r | apply lq_n)) q))))))))
      · exact xg rfl (xg i15 (xn l (xg rfl (xg rfl (xg rfl (xbv (sv_back hs2) (xg rfl (xlt (xm_E_mono (by repeat (first | exact lq_rf _ | apply lq_r | apply lq_n)) q)))))))))
theorem m_fitting_loop {w0 : xm_U} {d nm : Nat → Int32} {sz s p w v hi K : Nat} (hd : inv d) (hd0 : w0.1 9 1 = d) (hs4 : s < 4) (hp : p < 8) (hw : w < 7) (hv7 : v < 7) (hsz : sz ≤ 40) (hK : hi + 1 = K) (h31 : K < 2 ^ 31) (hok : ∀ c, c < K → okb (23 + 8 * v + p) (nI c)) (h1 : w0.1 9 15 s = nI sz) (h3 : ∀ k, k < 40 → w0.1 9 16 (40 * s + k) = nm k) : ∀ (m c : Nat) (z : xm_U), c + m = K → sv w0 d z → ∃ z', xm_E 160 (xc_X4_fitting.drop 9, [some (xv_r 9 0), some (xv_i (nI s)), some (xv_i (nI p)), some (xv_i (nI v)), some (xv_i (nI hi)), some (xv_i (nI w)), some (xv_i (setN (fitP d nm (23 + 8 * v + p) (23 + 8 * w + p) sz) c)), some (xv_i (nI c)), none, none, none], [], z) = some (some (xv_i (setN (fitP d nm (23 + 8 * v + p) (23 + 8 * w + p) sz) K)), z') ∧ sv w0 d z' := by
  intro m
  induction m with
  | zero =>
    intro c z hc hs
    have : c = K := by omega
    subst this
    refine ⟨z, ?_, hs⟩
    rw [xe_X4_fitting_9]
    exact xg (nI_lt (by omega) (by omega)) (rfl)
  | succ m ih =>
    intro c z hc hs
    have hi2 : inv (upd d (23 + 8 * v + p) (nI c)) := inv_upd hd (by omega) (by omega) (hok c (by omega))
    have hs2 := sv_dU hs (upd d (23 + 8 * v + p) (nI c))
    have e1 : xm_C 118 [xv_r 9 0, xv_i (nI p), xv_i (nI v), xv_i (nI c)] z = some (none, dU z (upd d (23 + 8 * v + p) (nI c))) := by
      rw [m_setsN z hp hv7, us_dU, hs.2.1]
    obtain ⟨z1, e2, s1⟩ := m_fit_loop (v := v) (hi := hi) (c := c) (S := setN (fitP d nm (23 + 8 * v + p) (23 + 8 * w + p) sz) c) hi2 hd0 (fun j hj => upd_ne (by omega)) hs4 hp hw hsz h1 h3 sz 0 _ (by omega) hs2 (fun j hj => absurd hj (Nat.not_lt_zero j))
    obtain ⟨z', e, s'⟩ := ih (c + 1) z1 (by omega) s1
    refine ⟨z', ?_, s'⟩
    rw [xe_X4_fitting_9]
    refine xn (nI_nlt (by omega) (by omega)) (xg rfl (xbv e1 (e2 _ ?_)))
    exact e

theorem S_fits (a b : Int32) : Same 72 161 [xv_i a, xv_i b] := by
  intro u h
  have hv := h.1
  have hd := h.2.1
  have hS := h.2.2.2.2.2
  by_cases H : bd a 3
  · obtain ⟨s, hs, rfl⟩ := bd_nI (n := 3) (by decide) H
    have hs4 : s < 4 := by omega
    obtain ⟨g0, g1, g2, ⟨sz, hsz, g3⟩, g4⟩ := hS s hs4
    by_cases M : u.1 9 14 s = 0
    · refine S_fail h 5 (r := xv_i (-1000006)) ?_ ?_
      · rw [xe_X3_fits]
        exact xg rfl (xbi (x_wsp_f (x_ws_m hs4 (g0.trans M)) (by decide)) (xn ((by decide)) (xg rfl (xbi (x_f5 _) (rfl)))))
      · rw [xe_X4_fits]
        exact xg rfl (xbi (m_wnp_f (m_wn_m hs4 (by rw [us_obj (i := 0) (i' := 9) _ (by decide)]; exact M)) (by decide)) (xn ((by decide)) (xg rfl (xbi (m_f5 _) (rfl)))))
    · by_cases P : bd b (u.1 9 1 0 - 1)
      · obtain ⟨k, hk, rfl⟩ := plank_nI hd P
        obtain ⟨h8, hN⟩ := inv_nN hd
        have hok : ∀ c, c < 6 → okb (23 + 8 * 1 + k) (nI c) := fun c hc => (okb_31 (by omega) _).mpr (bd_of (n := 5) (by omega) (by decide))
        obtain ⟨u2, e2, o2⟩ := x_choice_loop (nm := fun k => u.1 9 16 (40 * s + k)) (p := k) (w := 2) (v := 1) (K := 6) hd hv hs4 (by omega) (by decide) (by decide) hsz (by decide) hok (g1.trans g3) g4 6 0 u (by decide) (oth_rf _ _)
        have e9 : u2.1 9 = u.1 9 := o2.1 9 (by decide)
        have hs2 := sv_save u2
        rw [show u2.1 9 1 = u.1 9 1 by rw [e9]] at hs2
        obtain ⟨z, e3, s3⟩ := m_fitting_loop (w0 := u2) (nm := fun k => u.1 9 16 (40 * s + k)) (p := k) (w := 2) (v := 1) (hi := 5) (K := 6) hd (by rw [e9]) hs4 (by omega) (by decide) (by decide) hsz rfl (by decide) hok (by rw [e9]; exact g3) (fun i hi => by rw [e9]) 6 0 _ (by decide) hs2
        rw [show u.1 9 1 = u2.1 9 1 by rw [e9]] at s3
        have M2 : ¬ u2.1 9 14 s = 0 := by rw [e9]; exact M
        have P2 : bd (nI k) (u2.1 9 1 0 - 1) := by rw [e9]; exact P
        have M1 : ¬ u.1 (5 + s) 0 0 = 0 := fun q => M (g0.symm.trans q)
        refine ⟨xv_i (setN (fitP (u.1 9 1) (fun k => u.1 9 16 (40 * s + k)) (23 + 8 * 1 + k) (23 + 8 * 2 + k) sz) 6), u2, z, ?_, ?_, sv_R0 (Rel_t h o2) s3⟩
        · have q1 := x_wsp_t (b := nI k) hv (x_ws_k hs4 M1) P
          have q2 : xm_C 104 [xv_r 0 0, xv_r 2 (9 + 1), xv_i (nI 6), xv_i (nI k), xv_r (5 + s) 0, xv_r 2 (9 + 2)] u = some (some (xv_i (setN (fitP (u.1 9 1) (fun k => u.1 9 16 (40 * s + k)) (23 + 8 * 1 + k) (23 + 8 * 2 + k) sz) 6)), u2) := by
            rw [xe_X3_choicesAsTold]
            exact e2
          rw [xe_X3_fits, nI_clamp (n := s) (by omega)]
          exact xg rfl (xbi q1 (xg rfl (xg rfl (xg rfl (xg rfl (xg (vp_in_nI hs4 (by decide)) (xg rfl (xg rfl (xg rfl (xbi q2 (rfl)))))))))))
        · have q1 := m_wnp_t (b := nI k) (m_wn_k hs4 M2) P2
          have q2 : xm_C 160 [xv_r 9 0, xv_i (nI s), xv_i (nI k), xv_i (nI 1), xv_i (nI 5), xv_i (nI 2)] u2 = some (some (xv_i (setN (fitP (u.1 9 1) (fun k => u.1 9 16 (40 * s + k)) (23 + 8 * 1 + k) (23 + 8 * 2 + k) sz) 6)), z) := by
            rw [xe_X4_fitting]
            refine xg rfl (xg rfl (xbv (m_save _) (?_)))
            rw [show u2.1 9 1 = u.1 9 1 by rw [e9]]
            exact e3
          rw [xe_X4_fits]
          exact xg rfl (xbi q1 (xg ((by decide)) (xg rfl (xbi q2 (rfl)))))
      · have M1 : ¬ u.1 (5 + s) 0 0 = 0 := fun q => M (g0.symm.trans q)
        refine S_fail h 0 (r := xv_i (-1000001)) ?_ ?_
        · have q1 := x_wsp_n (b := b) hv (x_ws_k hs4 M1) P
          rw [xe_X3_fits]
          exact xg rfl (xbi q1 (xn ((by decide)) (xg rfl (xbi (x_f0 _) (rfl)))))
        · have q1 := m_wnp_n (u := xm_us u 0 7 0 (u.1 0 7 0 + 1)) (b := b) (m_wn_k hs4 (by rw [us_obj (i := 0) (i' := 9) _ (by decide)]; exact M)) (by rw [us_obj (i := 0) (i' := 9) _ (by decide)]; exact P)
          rw [xe_X4_fits]
          exact xg rfl (xbi q1 (xn ((by decide)) (xg rfl (xbi (m_f0 _) (rfl)))))
  · refine S_fail h 0 (r := xv_i (-1000001)) ?_ ?_
    · rw [xe_X3_fits]
      exact xg rfl (xbi (x_wsp_f (x_ws_b _ H) (by decide)) (xn ((by decide)) (xg rfl (xbi (x_f0 _) (rfl)))))
    · rw [xe_X4_fits]
      exact xg rfl (xbi (m_wnp_f (m_wn_b _ H) (by decide)) (xn ((by decide)) (xg rfl (xbi (m_f0 _) (rfl)))))

theorem S_kinds (a b : Int32) : Same 73 162 [xv_i a, xv_i b] := by
  intro u h
  have hv := h.1
  have hd := h.2.1
  have hS := h.2.2.2.2.2
  by_cases H : bd a 3
  · obtain ⟨s, hs, rfl⟩ := bd_nI (n := 3) (by decide) H
    have hs4 : s < 4 := by omega
    obtain ⟨g0, g1, g2, ⟨sz, hsz, g3⟩, g4⟩ := hS s hs4
    by_cases M : u.1 9 14 s = 0
    · refine S_fail h 5 (r := xv_i (-1000006)) ?_ ?_
      · rw [xe_X3_kinds]
        exact xg rfl (xbi (x_wsp_f (x_ws_m hs4 (g0.trans M)) (by decide)) (xn ((by decide)) (xg rfl (xbi (x_f5 _) (rfl)))))
      · rw [xe_X4_kinds]
        exact xg rfl (xbi (m_wnp_f (m_wn_m hs4 (by rw [us_obj (i := 0) (i' := 9) _ (by decide)]; exact M)) (by decide)) (xn ((by decide)) (xg rfl (xbi (m_f5 _) (rfl)))))
    · by_cases P : bd b (u.1 9 1 0 - 1)
      · obtain ⟨k, hk, rfl⟩ := plank_nI hd P
        obtain ⟨h8, hN⟩ := inv_nN hd
        have hok : ∀ c, c < 7 → okb (23 + 8 * 0 + k) (nI c) := fun c hc => (okb_23 (by omega) _).mpr (bd_of (n := 6) (by omega) (by decide))
        obtain ⟨u2, e2, o2⟩ := x_choice_loop (nm := fun k => u.1 9 16 (40 * s + k)) (p := k) (w := 3) (v := 0) (K := 7) hd hv hs4 (by omega) (by decide) (by decide) hsz (by decide) hok (g1.trans g3) g4 7 0 u (by decide) (oth_rf _ _)
        have e9 : u2.1 9 = u.1 9 := o2.1 9 (by decide)
        have hs2 := sv_save u2
        rw [show u2.1 9 1 = u.1 9 1 by rw [e9]] at hs2
        obtain ⟨z, e3, s3⟩ := m_fitting_loop (w0 := u2) (nm := fun k => u.1 9 16 (40 * s + k)) (p := k) (w := 3) (v := 0) (hi := 6) (K := 7) hd (by rw [e9]) hs4 (by omega) (by decide) (by decide) hsz rfl (by decide) hok (by rw [e9]; exact g3) (fun i hi => by rw [e9]) 7 0 _ (by decide) hs2
        rw [show u.1 9 1 = u2.1 9 1 by rw [e9]] at s3
        have M2 : ¬ u2.1 9 14 s = 0 := by rw [e9]; exact M
        have P2 : bd (nI k) (u2.1 9 1 0 - 1) := by rw [e9]; exact P
        have M1 : ¬ u.1 (5 + s) 0 0 = 0 := fun q => M (g0.symm.trans q)
        refine ⟨xv_i (setN (fitP (u.1 9 1) (fun k => u.1 9 16 (40 * s + k)) (23 + 8 * 0 + k) (23 + 8 * 3 + k) sz) 7), u2, z, ?_, ?_, sv_R0 (Rel_t h o2) s3⟩
        · have q1 := x_wsp_t (b := nI k) hv (x_ws_k hs4 M1) P
          have q2 : xm_C 104 [xv_r 0 0, xv_r 2 (9 + 0), xv_i (nI 7), xv_i (nI k), xv_r (5 + s) 0, xv_r 2 (9 + 3)] u = some (some (xv_i (setN (fitP (u.1 9 1) (fun k => u.1 9 16 (40 * s + k)) (23 + 8 * 0 + k) (23 + 8 * 3 + k) sz) 7)), u2) := by
            rw [xe_X3_choicesAsTold]
            exact e2
          rw [xe_X3_kinds, nI_clamp (n := s) (by omega)]
          exact xg rfl (xbi q1 (xg rfl (xg rfl (xg rfl (xg rfl (xg (vp_in_nI hs4 (by decide)) (xg rfl (xg rfl (xg rfl (xbi q2 (rfl)))))))))))
        · have q1 := m_wnp_t (b := nI k) (m_wn_k hs4 M2) P2
          have q2 : xm_C 160 [xv_r 9 0, xv_i (nI s), xv_i (nI k), xv_i (nI 0), xv_i (nI 6), xv_i (nI 3)] u2 = some (some (xv_i (setN (fitP (u.1 9 1) (fun k => u.1 9 16 (40 * s + k)) (23 + 8 * 0 + k) (23 + 8 * 3 + k) sz) 7)), z) := by
            rw [xe_X4_fitting]
            refine xg rfl (xg rfl (xbv (m_save _) (?_)))
            rw [show u2.1 9 1 = u.1 9 1 by rw [e9]]
            exact e3
          rw [xe_X4_kinds]
          exact xg rfl (xbi q1 (xg ((by decide)) (xg rfl (xbi q2 (rfl)))))
      · have M1 : ¬ u.1 (5 + s) 0 0 = 0 := fun q => M (g0.symm.trans q)
        refine S_fail h 0 (r := xv_i (-1000001)) ?_ ?_
        · have q1 := x_wsp_n (b := b) hv (x_ws_k hs4 M1) P
          rw [xe_X3_kinds]
          exact xg rfl (xbi q1 (xn ((by decide)) (xg rfl (xbi (x_f0 _) (rfl)))))
        · have q1 := m_wnp_n (u := xm_us u 0 7 0 (u.1 0 7 0 + 1)) (b := b) (m_wn_k hs4 (by rw [us_obj (i := 0) (i' := 9) _ (by decide)]; exact M)) (by rw [us_obj (i := 0) (i' := 9) _ (by decide)]; exact P)
          rw [xe_X4_kinds]
          exact xg rfl (xbi q1 (xn ((by decide)) (xg rfl (xbi (m_f0 _) (rfl)))))
  · refine S_fail h 0 (r := xv_i (-1000001)) ?_ ?_
    · rw [xe_X3_kinds]
      exact xg rfl (xbi (x_wsp_f (x_ws_b _ H) (by decide)) (xn ((by decide)) (xg rfl (xbi (x_f0 _) (rfl)))))
    · rw [xe_X4_kinds]
      exact xg rfl (xbi (m_wnp_f (m_wn_b _ H) (by decide)) (xn ((by decide)) (xg rfl (xbi (m_f0 _) (rfl)))))
