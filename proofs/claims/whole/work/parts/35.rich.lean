/-! the reference's row comes back whole -/
theorem grow_hi {d : Nat → Int32} {k j : Nat} (hk : k < 8) (hj : 79 ≤ j) : grow d k j = d j := by
  unfold grow ad1
  rw [upd_ne (by omega), upd_ne (by omega), upd_ne (by omega), upd_ne (by omega)]
theorem growN_hi {d : Nat → Int32} {j : Nat} (hj : 79 ≤ j) : ∀ n, n ≤ 8 → growN d n j = d j
  | 0, _ => rfl
  | n + 1, h => (grow_hi (by omega) hj).trans (growN_hi hj n (by omega))
theorem offer_hi {d : Nat → Int32} {k j : Nat} (hk : k < 8) (hj : 79 ≤ j) : offer d k j = d j := by
  unfold offer ad1
  split
  · rw [upd_ne (by omega), upd_ne (by omega), upd_ne (by omega), upd_ne (by omega), upd_ne (by omega), upd_ne (by omega)]
  · rfl
theorem offerN_hi {d : Nat → Int32} {j : Nat} (hj : 79 ≤ j) : ∀ n, n ≤ 8 → offerN d n j = d j
  | 0, _ => rfl
  | n + 1, h => (offer_hi (by omega) hj).trans (offerN_hi hj n (by omega))
theorem event_hi {d : Nat → Int32} (h : inv d) {j : Nat} (hj : 79 ≤ j) : event d j = d j := by
  obtain ⟨j', e, hj', he, -, ev⟩ := event_at h
  rw [ev, upd_ne (by omega)]
theorem yearB_hi {d : Nat → Int32} (h : inv d) {j : Nat} (hj : 79 ≤ j) : yearB d j = d j := by
  unfold yearB
  split
  · exact offerN_hi hj _ (inv_nN h).1
  · rfl
theorem yearG_hi {d : Nat → Int32} (h : inv d) {j : Nat} (hj : 79 ≤ j) : yearG d j = d j := by
  unfold yearG
  rw [upd_ne (by omega), yearB_hi (inv_growN (inv_event h) _ (inv_nN h).1) hj, growN_hi hj _ (inv_nN h).1, event_hi h hj]
theorem yearsG_hi {d : Nat → Int32} (h : inv d) {j : Nat} (hj : 79 ≤ j) : ∀ n, yearsG d n j = d j
  | 0 => rfl
  | n + 1 => (yearG_hi (inv_yearsG h n) hj).trans (yearsG_hi h hj n)
theorem sv_again {w0 z : xm_U} {d e : Nat → Int32} (hs : sv w0 d z) (he : ∀ j, 89 ≤ j → e j = w0.1 9 1 j) : sv w0 (w0.1 9 1) (dU z (cop (z.1 9 3) e 89)) := by
  have e1 : cop (z.1 9 3) e 89 = w0.1 9 1 := by
    funext j
    unfold cop
    by_cases hj : j < 89
    · rw [if_pos hj]; exact hs.2.2.1 j hj
    · rw [if_neg hj]; exact he j (by omega)
  rw [e1]
  exact sv_dU hs _
theorem sv_R0 {w z : xm_U} (h : Rel w) (hs : sv w (w.1 9 1) z) : Rel z := Rel_fr h (fun i _ h9 => hs.1 i h9) (fun k _ => by rw [hs.2.1]) (by rw [hs.2.2.2 0 (by decide) (by decide)]) (by rw [hs.2.2.2 0 (by decide) (by decide)]) (fun p hp => hs.2.2.2 p (by omega) (by omega))
theorem sv_Rf0 {u w z : xm_U} {f : Nat} (h : Rel u) (hw : w = xm_us u 0 7 f (u.1 0 7 f + 1)) (hs : sv w (w.1 9 1) z) : Rel (xm_us z 9 6 f (z.1 9 6 f + 1)) := Rel_ff h hw (fun i _ h9 => hs.1 i h9) (fun k _ => by rw [hs.2.1]) (fun p h1 h3 => hs.2.2.2 p h1 h3)
/-! what is richest -/
def richB (g : Nat → Int32) (lo : Nat) : Nat → Int32 × Int32
  | 0 => (nI lo, -1)
  | k + 1 => if g (lo + k) ≤ (richB g lo k).2 then richB g lo k else (nI (lo + k), g (lo + k))
theorem richB_s {g : Nat → Int32} {lo k : Nat} (h : g (lo + k) ≤ (richB g lo k).2) : richB g lo (k + 1) = richB g lo k := if_pos h
theorem richB_t {g : Nat → Int32} {lo k : Nat} (h : ¬ g (lo + k) ≤ (richB g lo k).2) : richB g lo (k + 1) = (nI (lo + k), g (lo + k)) := if_neg h
noncomputable def gv (d : Nat → Int32) (q n c : Nat) : Int32 := yearsG (upd d q (nI c)) n 3
theorem m_rich_loop {w0 : xm_U} {d : Nat → Int32} (hw0 : w0.1 9 1 = d) (hd : inv d) {q lo hi K n : Nat} (hq1 : 1 ≤ q) (hq : q < 79) (hK : hi + 1 = lo + K) (h31 : lo + K < 2 ^ 31) (hok : ∀ c, c < K → okb q (nI (lo + c))) (hn : n < 2 ^ 31) : ∀ (m k : Nat) (z : xm_U), k + m = K → sv w0 d z → ∃ z', xm_E 153 (xc_X4_richest.drop 11, [some (xv_r 9 0), some (xv_i (nI q)), some (xv_i (nI lo)), some (xv_i (nI hi)), some (xv_i (nI n)), some (xv_i (richB (gv d q n) lo k).1), some (xv_i (richB (gv d q n) lo k).2), some (xv_i (nI (lo + k))), none], [], z) = some (some (xv_i (richB (gv d q n) lo K).1), z') ∧ sv w0 d z' := by
  intro m
  induction m with
  | zero =>
    intro k z hk hs
    have : k = K := by omega
    subst this
    refine ⟨z, ?_, hs⟩
    rw [xe_X4_richest_11]
    exact xg (nI_lt (a := hi) (by omega) (by omega)) (rfl)
  | succ m ih =>
    intro k z hk hs
    have hi2 : inv (upd d q (nI (lo + k))) := inv_upd hd hq1 hq (hok k (by omega))
    have hs2 := sv_dU hs (upd d q (nI (lo + k)))
    have hb := m_behind hs2 hi2 (n := n) (k := 3) hn (by decide)
    have hs3 := sv_again hs2 (e := yearsG (upd d q (nI (lo + k))) n) (fun j hj => by rw [yearsG_hi hi2 (by omega), upd_ne (by omega), hw0])
    rw [hw0] at hs3
    obtain ⟨z', e, s'⟩ := ih (k + 1) _ (by omega) hs3
    refine ⟨z', ?_, s'⟩
    rw [xe_X4_richest_11]
    refine xn (nI_nlt (a := hi) (by omega) (by omega)) (xg rfl (xg (in9n (by omega)) (xlt (xg rfl (?_)))))
    rw [nI_clamp (by omega), us_dU, hs.2.1]
    refine xbi hb ?_
    rw [nI_1]
    by_cases c : gv d q n (lo + k) ≤ (richB (gv d q n) lo k).2
    · rw [richB_s c] at e
      exact xg c (xm_E_mono (by repeat (first | exact lq_rf _ | apply lq_r | apply lq_n)) e)
    · rw [richB_t c] at e
      exact xn c (xm_E_mono (by repeat (first | exact lq_rf _ | apply lq_r | apply lq_n)) e)
theorem m_richest {w0 : xm_U} {d : Nat → Int32} (hw0 : w0.1 9 1 = d) (hd : inv d) {q lo hi K n : Nat} (hq1 : 1 ≤ q) (hq : q < 79) (hK : hi + 1 = lo + K) (h31 : lo + K < 2 ^ 31) (hok : ∀ c, c < K → okb q (nI (lo + c))) (hn : n < 2 ^ 31) : ∃ z, xm_C 153 [xv_r 9 0, xv_i (nI q), xv_i (nI lo), xv_i (nI hi), xv_i (nI n)] w0 = some (some (xv_i (richB (gv d q n) lo K).1), z) ∧ sv w0 d z := by
  have hs := sv_save w0
  have hs2 := hs
  rw [hw0] at hs2
  obtain ⟨z, e, s⟩ := m_rich_loop hw0 hd hq1 hq hK h31 hok hn K 0 _ (by omega) hs2
  refine ⟨z, ?_, s⟩
  rw [xe_X4_richest]
  refine xg rfl (xg rfl (xbv (m_save _) (?_)))
  rw [hw0]
  exact e
theorem x_dear_loop {d : Nat → Int32} (hd : inv d) {p w K n : Nat} (hp : p < 8) (hw : w < 7) (h31 : K < 2 ^ 31) (hok : ∀ c, c < K → okb (23 + 8 * w + p) (nI (0 + c))) (hn : n < 2 ^ 31) {u0 : xm_U} (hv0 : vd u0 1 d) : ∀ (m k : Nat) (u : xm_U), k + m = K → oth u0 u 2 → ∃ u', xm_E 102 (xc_X3_dearestChoice.drop 6, [some (xv_r 0 0), some (xv_r 2 (9 + w)), some (xv_i (nI K)), some (xv_i (nI p)), some (xv_i (nI n)), some (xv_i (richB (gv d (23 + 8 * w + p) n) 0 k).1), some (xv_i (richB (gv d (23 + 8 * w + p) n) 0 k).2), some (xv_i (nI (0 + k)))], [], u) = some (some (xv_i (richB (gv d (23 + 8 * w + p) n) 0 K).1), u') ∧ oth u0 u' 2 := by
  intro m
  induction m with
  | zero =>
    intro k u hk ho
    have : k = K := by omega
    subst this
    refine ⟨u, ?_, ho⟩
    rw [xe_X3_dearestChoice_6]
    exact xg (nI_le (by omega) (by omega)) (rfl)
  | succ m ih =>
    intro k u hk ho
    have hi2 : inv (upd d (23 + 8 * w + p) (nI (0 + k))) := inv_upd hd (by omega) (by omega) (hok k (by omega))
    obtain ⟨u1, q1, q2, q3⟩ := v_become (i := 2) (i1 := 1) rfl rfl (by decide) (vd_of (ho.1 1 (by decide)) hv0)
    have w1 := vw_row q2 hp hw (nI (0 + k))
    obtain ⟨u2, p1, p2, p3⟩ := v_passYears (i := 2) rfl w1 hi2 hn
    obtain ⟨u', e, o'⟩ := ih (k + 1) u2 (by omega) (oth_tr ho (oth_tr q3 (oth_tr (oth_us _ _ _ _ _) p3)))
    refine ⟨u', ?_, o'⟩
    rw [xe_X3_dearestChoice_6]
    refine xn (nI_ge (by omega) (by omega)) (xg rfl (xg rfl (xg rfl (xbv q1 (xg (v_in rfl (ln_row hw) (by omega) (by decide)) (xlt (xg rfl (xg rfl (?_)))))))))
    rw [nI_clamp (by omega)]
    refine xbv p1 (xg rfl (xg rfl ?_))
    rw [p2.2.2.2.1.2.1, nI_1]
    by_cases c : gv d (23 + 8 * w + p) n (0 + k) ≤ (richB (gv d (23 + 8 * w + p) n) 0 k).2
    · rw [richB_s c] at e
      exact xg c e
    · rw [richB_t c] at e
      exact xn c (xg rfl (xg rfl (xlt e)))
theorem x_dear {d : Nat → Int32} (hd : inv d) {p w K n : Nat} (hp : p < 8) (hw : w < 7) (h31 : K < 2 ^ 31) (hok : ∀ c, c < K → okb (23 + 8 * w + p) (nI (0 + c))) (hn : n < 2 ^ 31) {u0 : xm_U} (hv0 : vd u0 1 d) : ∃ u', xm_C 102 [xv_r 0 0, xv_r 2 (9 + w), xv_i (nI K), xv_i (nI p), xv_i (nI n)] u0 = some (some (xv_i (richB (gv d (23 + 8 * w + p) n) 0 K).1), u') ∧ oth u0 u' 2 := by
  obtain ⟨u', e, o⟩ := x_dear_loop hd hp hw h31 hok hn hv0 K 0 u0 (by omega) (oth_rf _ _)
  refine ⟨u', ?_, o⟩
  rw [xe_X3_dearestChoice]
  exact e
theorem x_each_loop {d : Nat → Int32} (hd : inv d) {n : Nat} (hn : n < 2 ^ 31) {u0 : xm_U} (hv0 : vd u0 1 d) : ∀ (m k : Nat) (u : xm_U), k + m = 59 → oth u0 u 2 → ∃ u', xm_E 70 (xc_X3_eachFor.drop 15, [some (xv_r 0 0), some (xv_i (nI n)), some (xv_i (richB (gv d 4 n) 2 k).1), some (xv_i (richB (gv d 4 n) 2 k).2), some (xv_i (nI (2 + k)))], [], u) = some (some (xv_i (richB (gv d 4 n) 2 59).1), u') ∧ oth u0 u' 2 := by
  intro m
  induction m with
  | zero =>
    intro k u hk ho
    have : k = 59 := by omega
    subst this
    refine ⟨u, ?_, ho⟩
    rw [xe_X3_eachFor_15]
    exact xg (nI_lt (a := 60) (by omega) (by omega)) (rfl)
  | succ m ih =>
    intro k u hk ho
    have hi2 : inv (upd d 4 (nI (2 + k))) := inv_upd hd (by omega) (by omega) ((okb_4 _).mpr ⟨nI_le (a := 2) (by omega) (by omega), nI_le (b := 60) (by omega) (by omega)⟩)
    obtain ⟨u1, q1, q2, q3⟩ := v_become (i := 2) (i1 := 1) rfl rfl (by decide) (vd_of (ho.1 1 (by decide)) hv0)
    have w1 := vw_f3 q2 (nI (2 + k))
    obtain ⟨u2, p1, p2, p3⟩ := v_passYears (i := 2) rfl w1 hi2 hn
    obtain ⟨u', e, o'⟩ := ih (k + 1) u2 (by omega) (oth_tr ho (oth_tr q3 (oth_tr (oth_us _ _ _ _ _) p3)))
    refine ⟨u', ?_, o'⟩
    rw [xe_X3_eachFor_15]
    refine xn (nI_nlt (a := 60) (by omega) (by omega)) (xg rfl (xg rfl (xg rfl (xbv q1 (xg rfl (xg rfl (xlt (xg rfl (xg rfl (xbv p1 (?_)))))))))))
    refine xg rfl (xg rfl ?_)
    rw [p2.2.2.2.1.2.1, nI_1]
    by_cases c : gv d 4 n (2 + k) ≤ (richB (gv d 4 n) 2 k).2
    · rw [richB_s c] at e
      exact xg c e
    · rw [richB_t c] at e
      exact xn c (xg rfl (xg rfl (xlt e)))
theorem S_eachFor (a : Int32) : Same 70 157 [xv_i a] := by
  intro u h
  have hv := h.1
  have hd := h.2.1
  by_cases A : bd a 60
  · obtain ⟨n, hn, rfl⟩ := bd_nI (n := 60) (by decide) A
    obtain ⟨u2, e2, o2⟩ := x_each_loop hd (n := n) (by omega) hv 59 0 u rfl (oth_rf _ _)
    have e9 : u2.1 9 1 = u.1 9 1 := by rw [o2.1 9 (by decide)]
    obtain ⟨z, e3, s3⟩ := m_richest e9 hd (q := 4) (lo := 2) (hi := 60) (K := 59) (n := n) (by decide) (by decide) rfl (by decide) (fun c hc => (okb_4 _).mpr ⟨nI_le (a := 2) (by omega) (by omega), nI_le (b := 60) (by omega) (by omega)⟩) (by omega)
    rw [← e9] at s3
    refine ⟨xv_i (richB (gv (u.1 9 1) 4 n) 2 59).1, u2, z, ?_, ?_, sv_R0 (Rel_t h o2) s3⟩
    · rw [xe_X3_eachFor]
      exact xbi (x_within _ _ _ _) (xg (bI_ne A) (e2))
    · rw [xe_X4_eachFor]
      exact xbi (m_isShort _ _) (xn (bI_ne A) (xg rfl (xbi e3 (rfl))))
  · refine S_fail h 0 (r := xv_i (-1000001)) ?_ ?_
    · rw [xe_X3_eachFor]
      exact xbi (x_within _ _ _ _) (xn (bI_nn A) (xg rfl (xbi (x_f0 _) (rfl))))
    · rw [xe_X4_eachFor]
      exact xbi (m_isShort _ _) (xg (bI_f A) (xg rfl (xbi (m_f0 _) (rfl))))

theorem S_billet (a b : Int32) : Same 67 154 [xv_i a, xv_i b] := by
  intro u h
  have hv := h.1
  have hd := h.2.1
  by_cases P : bd a (u.1 9 1 0 - 1)
  · by_cases B : bd b 60
    · obtain ⟨k, hk, rfl⟩ := plank_nI hd P
      obtain ⟨h8, hN⟩ := inv_nN hd
      obtain ⟨n, hn, rfl⟩ := bd_nI (n := 60) (by decide) B
      have hok : ∀ c, c < 6 → okb (23 + 8 * 1 + k) (nI (0 + c)) := fun c hc => (okb_31 (by omega) _).mpr (bd_of (n := 5) (by omega) (by decide))
      obtain ⟨u2, e2, o2⟩ := x_dear hd (p := k) (w := 1) (K := 6) (n := n) (by omega) (by decide) (by decide) hok (by omega) hv
      have e9 : u2.1 9 1 = u.1 9 1 := by rw [o2.1 9 (by decide)]
      obtain ⟨z, e3, s3⟩ := m_richest e9 hd (q := 23 + 8 * 1 + k) (lo := 0) (hi := 5) (K := 6) (n := n) (by omega) (by omega) rfl (by decide) hok (by omega)
      rw [← e9] at s3
      have P2 : bd (nI k) (u2.1 9 1 0 - 1) := by rw [e9]; exact P
      refine ⟨xv_i (richB (gv (u.1 9 1) (23 + 8 * 1 + k) n) 0 6).1, u2, z, ?_, ?_, sv_R0 (Rel_t h o2) s3⟩
      · rw [xe_X3_billet]
        exact xg rfl (xbi (x_isPlank _ _ hv) (xn (bI_ne P) (xbi (x_within _ _ _ _) (xg (bI_ne B) (xg rfl (xg rfl (xg rfl (xbi e2 (rfl)))))))))
      · rw [xe_X4_billet, show (31 : Int32) = nI (23 + 8 * 1) from rfl, nI_add]
        exact xg rfl (xbi (m_isPlank _ _) (xn (bI_ne P2) (xbi (m_isShort _ _) (xn (bI_ne B) (xg rfl (xbi e3 (rfl)))))))
    · refine S_fail h 0 (r := xv_i (-1000001)) ?_ ?_
      · rw [xe_X3_billet]
        exact xg rfl (xbi (x_isPlank _ _ hv) (xn (bI_ne P) (xbi (x_within _ _ _ _) (xn (bI_nn B) (xg rfl (xbi (x_f0 _) (rfl)))))))
      · rw [xe_X4_billet]
        exact xg rfl (xbi (m_isPlank _ _) (xn (bI_ne P) (xbi (m_isShort _ _) (xg (bI_f B) (xg rfl (xbi (m_f0 _) (rfl)))))))
  · refine S_fail h 0 (r := xv_i (-1000001)) ?_ ?_
    · rw [xe_X3_billet]
      exact xg rfl (xbi (x_isPlank _ _ hv) (xg (bI_f P) (xg rfl (xbi (x_f0 _) (rfl)))))
    · rw [xe_X4_billet]
      exact xg rfl (xbi (m_isPlank _ _) (xg (bI_f P) (xg rfl (xbi (m_f0 _) (rfl)))))

theorem S_kindFor (a b : Int32) : Same 68 155 [xv_i a, xv_i b] := by
  intro u h
  have hv := h.1
  have hd := h.2.1
  by_cases P : bd a (u.1 9 1 0 - 1)
  · by_cases B : bd b 60
    · obtain ⟨k, hk, rfl⟩ := plank_nI hd P
      obtain ⟨h8, hN⟩ := inv_nN hd
      obtain ⟨n, hn, rfl⟩ := bd_nI (n := 60) (by decide) B
      have hok : ∀ c, c < 7 → okb (23 + 8 * 0 + k) (nI (0 + c)) := fun c hc => (okb_23 (by omega) _).mpr (bd_of (n := 6) (by omega) (by decide))
      obtain ⟨u2, e2, o2⟩ := x_dear hd (p := k) (w := 0) (K := 7) (n := n) (by omega) (by decide) (by decide) hok (by omega) hv
      have e9 : u2.1 9 1 = u.1 9 1 := by rw [o2.1 9 (by decide)]
      obtain ⟨z, e3, s3⟩ := m_richest e9 hd (q := 23 + 8 * 0 + k) (lo := 0) (hi := 6) (K := 7) (n := n) (by omega) (by omega) rfl (by decide) hok (by omega)
      rw [← e9] at s3
      have P2 : bd (nI k) (u2.1 9 1 0 - 1) := by rw [e9]; exact P
      refine ⟨xv_i (richB (gv (u.1 9 1) (23 + 8 * 0 + k) n) 0 7).1, u2, z, ?_, ?_, sv_R0 (Rel_t h o2) s3⟩
      · rw [xe_X3_kindFor]
        exact xg rfl (xbi (x_isPlank _ _ hv) (xn (bI_ne P) (xbi (x_within _ _ _ _) (xg (bI_ne B) (xg rfl (xg rfl (xg rfl (xbi e2 (rfl)))))))))
      · rw [xe_X4_kindFor, show (23 : Int32) = nI (23 + 8 * 0) from rfl, nI_add]
        exact xg rfl (xbi (m_isPlank _ _) (xn (bI_ne P2) (xbi (m_isShort _ _) (xn (bI_ne B) (xg rfl (xbi e3 (rfl)))))))
    · refine S_fail h 0 (r := xv_i (-1000001)) ?_ ?_
      · rw [xe_X3_kindFor]
        exact xg rfl (xbi (x_isPlank _ _ hv) (xn (bI_ne P) (xbi (x_within _ _ _ _) (xn (bI_nn B) (xg rfl (xbi (x_f0 _) (rfl)))))))
      · rw [xe_X4_kindFor]
        exact xg rfl (xbi (m_isPlank _ _) (xn (bI_ne P) (xbi (m_isShort _ _) (xg (bI_f B) (xg rfl (xbi (m_f0 _) (rfl)))))))
  · refine S_fail h 0 (r := xv_i (-1000001)) ?_ ?_
    · rw [xe_X3_kindFor]
      exact xg rfl (xbi (x_isPlank _ _ hv) (xg (bI_f P) (xg rfl (xbi (x_f0 _) (rfl)))))
    · rw [xe_X4_kindFor]
      exact xg rfl (xbi (m_isPlank _ _) (xg (bI_f P) (xg rfl (xbi (m_f0 _) (rfl)))))
