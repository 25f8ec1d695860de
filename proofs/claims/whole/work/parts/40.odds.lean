/-! odds -/
theorem upd_upd (d : Nat → Int32) (j : Nat) (x y : Int32) : upd (upd d j x) j y = upd d j y := by
  funext i
  unfold upd
  by_cases h : i = j
  · rw [if_pos h, if_pos h]
  · rw [if_neg h, if_neg h, if_neg h]
def cntN (d : Nat → Int32) (v : Int32) (p : Nat) : Nat → Nat
  | 0 => 0
  | h + 1 => if hears (upd d (31 + p) (nI h)) p < v then cntN d v p h else cntN d v p h + 1
theorem cntN_s {d : Nat → Int32} {v : Int32} {p h : Nat} (c : hears (upd d (31 + p) (nI h)) p < v) : cntN d v p (h + 1) = cntN d v p h := if_pos c
theorem cntN_t {d : Nat → Int32} {v : Int32} {p h : Nat} (c : ¬ hears (upd d (31 + p) (nI h)) p < v) : cntN d v p (h + 1) = cntN d v p h + 1 := if_neg c
theorem cntN_le (d : Nat → Int32) (v : Int32) (p : Nat) : ∀ h, cntN d v p h ≤ h
  | 0 => Nat.le_refl _
  | h + 1 => by
    have := cntN_le d v p h
    unfold cntN
    split <;> omega
theorem inv_ho {d : Nat → Int32} (hd : inv d) {p h : Nat} (hp : p < 8) (hh : h < 6) : inv (upd d (31 + p) (nI h)) := inv_upd hd (by omega) (by omega) ((okb_31 hp _).mpr (bd_of (n := 5) (by omega) (by decide)))
theorem x_hh_loop {d : Nat → Int32} (hd : inv d) {p : Nat} (hp : p < nN d) (v : Int32) : ∀ (m h : Nat) (u : xm_U) (e : Nat → Int32), h + m = 6 → vd u 2 e → (∀ y, upd e (31 + p) y = upd d (31 + p) y) → ∃ u', xm_E 106 (xc_X3_housesHearing.drop 9, [some (xv_r 0 0), some (xv_i (nI p)), some (xv_i v), some (xv_i (nI (cntN d v p h))), some (xv_i (nI h))], [], u) = some (some (xv_i (nI (cntN d v p 6))), u') ∧ oth u u' 2 := by
  have h8 := (inv_nN hd).1
  intro m
  induction m with
  | zero =>
    intro h u e hh hv he
    have : h = 6 := by omega
    subst this
    refine ⟨u, ?_, oth_rf _ _⟩
    rw [xe_X3_housesHearing_9]
    exact xg (nI_le (a := 6) (Nat.le_refl _) (by decide)) (rfl)
  | succ m ih =>
    intro h u e hh hv he
    have w := vw_10 hv (k := p) (by omega) (nI h)
    rw [he] at w
    have hi := inv_ho hd (p := p) (h := h) (by omega) (by omega)
    have hr := v_hearing (i := 2) rfl w hi (k := p) (by rw [nN_hi (by omega)]; exact hp)
    obtain ⟨u', e1, o1⟩ := ih (h + 1) _ _ (by omega) w (fun y => upd_upd _ _ _ _)
    refine ⟨u', ?_, oth_tr (oth_us _ _ _ _ _) o1⟩
    rw [xe_X3_housesHearing_9]
    refine xn (nI_ge (b := 6) (by omega) (by decide)) (xg rfl (xg rfl (xg (v_in rfl (n := 8) rfl (by omega) (by decide)) (xlt (xg rfl (xg rfl (?_)))))))
    rw [nI_clamp (by omega)]
    refine xbi hr ?_
    by_cases c : hears (upd d (31 + p) (nI h)) p < v
    · rw [cntN_s c] at e1
      refine xg c ?_
      rw [nI_1]
      exact e1
    · rw [cntN_t c] at e1
      refine xn c ?_
      rw [nI_1 h, nI_1]
      exact e1
theorem m_hh_loop {d : Nat → Int32} (hd : inv d) {p : Nat} (hp : p < nN d) (v n w : Int32) (z : xm_U) : ∀ (m h : Nat) (e : Nat → Int32), h + m = 6 → (∀ y, upd e (31 + p) y = upd d (31 + p) y) → ∀ r, xm_E 166 (xc_X4_odds.drop 36, [some (xv_r 9 0), some (xv_i (nI p)), some (xv_i v), some (xv_i n), some (xv_i w), some (xv_i (d (31 + p))), some (xv_i (nI (cntN d v p 6))), some (xv_i (nI 6)), none, none, none], [], dU z (if m = 0 then e else upd d (31 + p) (nI 5))) = some r → xm_E 166 (xc_X4_odds.drop 36, [some (xv_r 9 0), some (xv_i (nI p)), some (xv_i v), some (xv_i n), some (xv_i w), some (xv_i (d (31 + p))), some (xv_i (nI (cntN d v p h))), some (xv_i (nI h)), none, none, none], [], dU z e) = some r := by
  have h8 := (inv_nN hd).1
  intro m
  induction m with
  | zero =>
    intro h e hh he r q
    have : h = 6 := by omega
    subst this
    exact q
  | succ m ih =>
    intro h e hh he r q
    have hi := inv_ho hd (p := p) (h := h) (by omega) (by omega)
    have e1 : xm_C 118 [xv_r 9 0, xv_i (nI p), xv_i 1, xv_i (nI h)] (dU z e) = some (none, dU z (upd d (31 + p) (nI h))) := by
      rw [m_sets1 _ (by omega), dU_us, he]
    have e2 := m_hears (dU z (upd d (31 + p) (nI h))) (by rw [dU_d]; exact hi) (k := p) (by omega)
    rw [dU_d] at e2
    have e3 := ih (h + 1) (upd d (31 + p) (nI h)) (by omega) (fun y => upd_upd _ _ _ _) r (by
      by_cases c : m = 0
      · subst c
        have : h = 5 := by omega
        subst this
        rw [if_pos rfl]
        rw [if_neg (by omega)] at q
        exact q
      · rw [if_neg c]
        rw [if_neg (by omega)] at q
        exact q)
    rw [xe_X4_odds_36]
    refine xn (nI_ge (b := 6) (by omega) (by decide)) (xg rfl (xbv e1 (xg rfl (xbi e2 (?_)))))
    by_cases c : hears (upd d (31 + p) (nI h)) p < v
    · rw [cntN_s c] at e3
      refine xg c (xlt ?_)
      rw [Int32.add_zero, nI_1]
      exact e3
    · rw [cntN_t c] at e3
      refine xn c (xlt ?_)
      rw [nI_1 h, nI_1]
      exact e3
theorem m_common (v0 v1 : Int32) (u : xm_U) : ∀ (n y x : Nat), y ≤ n → y < 2 ^ 31 → x < 2 ^ 31 → xm_E 165 (xc_X4_common.drop 4, [some (xv_i v0), some (xv_i v1), some (xv_i (nI x)), some (xv_i (nI y)), none], [], u) = some (some (xv_i (nI (Nat.gcd y x))), u) := by
  intro n
  induction n with
  | zero =>
    intro y x hy _ _
    have : y = 0 := by omega
    subst this
    rw [xe_X4_common_4, Nat.gcd_zero_left]
    exact xg rfl (rfl)
  | succ n ih =>
    intro y x hy h1 h2
    by_cases c : y = 0
    · subst c
      rw [xe_X4_common_4, Nat.gcd_zero_left]
      exact xg rfl (rfl)
    · have h0 : ¬ nI y = 0 := nI_ne0 (by omega) h1
      have hm : x % y < y := Nat.mod_lt _ (by omega)
      rw [xe_X4_common_4, show nI x - nI x / nI y * nI y = nI (x % y) from pk_rem h2 (by omega) h1]
      refine xn h0 (xg h0 (xlt (xm_E_mono (by repeat (first | exact lq_rf _ | apply lq_r | apply lq_n)) ((ih (x % y) y (by omega) (by omega) h1).trans ?_))))
      rw [← Nat.gcd_rec]
theorem x_reduced_loop (part a2 : Int32) (u : xm_U) {s : Nat} (hs : s ≤ 6) : ∀ (m k : Nat), k = m + 1 → k ≤ 6 → (∀ j, k < j → j ≤ 6 → ¬ (j ∣ s ∧ j ∣ 6)) → xm_E 107 (xc_X3_reduced.drop 2, [some (xv_i part), some (xv_i (nI s)), some (xv_i (nI 6)), some (xv_i (nI k))], [], u) = some (some (xv_i (part / nI (Nat.gcd 6 s))), u) := by
  have g1 : Nat.gcd 6 s ∣ 6 := Nat.gcd_dvd_left _ _
  have g2 : Nat.gcd 6 s ∣ s := Nat.gcd_dvd_right _ _
  have g6 : Nat.gcd 6 s ≤ 6 := Nat.le_of_dvd (by decide) g1
  have gp : 0 < Nat.gcd 6 s := Nat.gcd_pos_of_pos_left _ (by decide)
  intro m
  induction m with
  | zero =>
    intro k hk hk6 hj
    subst hk
    have : Nat.gcd 6 s = 1 := by
      by_cases c : Nat.gcd 6 s ≤ 1
      · omega
      · exact absurd ⟨g2, g1⟩ (hj _ (by omega) g6)
    rw [this, xe_X3_reduced_2, show part / nI 1 = part from Int32.div_one]
    exact xg ((by decide)) (rfl)
  | succ m ih =>
    intro k hk hk6 hj
    have h0 : ¬ nI k = 0 := nI_ne0 (by omega) (by omega)
    have n1 : ¬ nI k ≤ 1 := nI_ge (a := 1) (by omega) (by omega)
    have em : nI k + -1 = nI (m + 1) := by rw [hk]; exact pk_m1 (m + 1)
    have nx : ¬ (k ∣ s ∧ k ∣ 6) → xm_E 107 (xc_X3_reduced.drop 2, [some (xv_i part), some (xv_i (nI s)), some (xv_i (nI 6)), some (xv_i (nI k + -1))], [], u) = some (some (xv_i (part / nI (Nat.gcd 6 s))), u) := fun q => by
      rw [em]
      refine ih (m + 1) rfl (by omega) (fun j h1 h2 => ?_)
      by_cases c : j = k
      · subst c; exact q
      · exact hj j (by omega) h2
    rw [xe_X3_reduced_2, show nI s - nI s / nI k * nI k = nI (s % k) from pk_rem (by omega) (by omega) (by omega), show nI 6 - nI 6 / nI k * nI k = nI (6 % k) from pk_rem (by omega) (by omega) (by omega)]
    by_cases c1 : s % k = 0
    · by_cases c2 : 6 % k = 0
      · have d1 : k ∣ s := Nat.dvd_of_mod_eq_zero c1
        have d2 : k ∣ 6 := Nat.dvd_of_mod_eq_zero c2
        have dk : k ∣ Nat.gcd 6 s := Nat.dvd_gcd d2 d1
        have lk : k ≤ Nat.gcd 6 s := Nat.le_of_dvd gp dk
        have ek : Nat.gcd 6 s = k := by
          by_cases c : k < Nat.gcd 6 s
          · exact absurd ⟨g2, g1⟩ (hj _ c g6)
          · omega
        rw [ek]
        exact xn n1 (xg h0 (xn ((by rw [c1]; exact fun q => q rfl)) (xg h0 (xn ((by rw [c2]; exact fun q => q rfl)) (xg h0 (rfl))))))
      · have hm : 6 % k < k := Nat.mod_lt _ (by omega)
        exact xn n1 (xg h0 (xn ((by rw [c1]; exact fun q => q rfl)) (xg h0 (xg (nI_ne0 (by omega) (by omega)) (nx (fun q => c2 (Nat.mod_eq_zero_of_dvd q.2)))))))
    · have hm : s % k < k := Nat.mod_lt _ (by omega)
      exact xn n1 (xg h0 (xg (nI_ne0 (by omega) (by omega)) (nx (fun q => c1 (Nat.mod_eq_zero_of_dvd q.1)))))
def powN (b : Int64) : Nat → Int64
  | 0 => 1
  | n + 1 => powN b n * b
theorem x_power_loop (b : Int32) {n : Nat} (hn : n < 2 ^ 31) (u : xm_U) : ∀ (m k : Nat), k + m = n → xm_E 108 (xc_X3_power.drop 4, [some (xv_i b), some (xv_i (nI n)), some (xv_l (powN b.toInt64 k)), none, some (xv_i (nI k))], [], u) = some (some (xv_l (powN b.toInt64 n)), u) := by
  intro m
  induction m with
  | zero =>
    intro k hk
    have : k = n := by omega
    subst this
    rw [xe_X3_power_4]
    exact xg (nI_le (Nat.le_refl _) hn) (rfl)
  | succ m ih =>
    intro k hk
    rw [xe_X3_power_4]
    refine xn (nI_ge (by omega) hn) (xlt (?_))
    rw [nI_1]
    exact ih (k + 1) (by omega)
theorem m_power_loop (v1 v2 v5 : Int32) (s g : Nat) (hg : ¬ nI g = 0) (w b : Int32) (hb : b = (if w = 0 then nI s else 6) / nI g) {n : Nat} (hn : n < 2 ^ 31) (u : xm_U) : ∀ (m k : Nat), k + m = n → xm_E 166 (xc_X4_odds.drop 70, [some (xv_r 9 0), some (xv_i v1), some (xv_i v2), some (xv_i (nI n)), some (xv_i w), some (xv_i v5), some (xv_i (nI s)), some (xv_i (nI g)), some (xv_l (powN b.toInt64 k)), none, some (xv_i (nI k))], [], u) = some (some (xv_l (powN b.toInt64 n)), u) := by
  intro m
  induction m with
  | zero =>
    intro k hk
    have : k = n := by omega
    subst this
    rw [xe_X4_odds_70]
    exact xg (nI_le (Nat.le_refl _) hn) (rfl)
  | succ m ih =>
    intro k hk
    have e := ih (k + 1) (by omega)
    rw [show powN b.toInt64 (k + 1) = powN b.toInt64 k * b.toInt64 from rfl] at e
    rw [xe_X4_odds_70, nI_1]
    by_cases c : w = 0
    · rw [if_pos c] at hb
      rw [hb] at e
      rw [hb]
      exact xn (nI_ge (by omega) hn) (xn ((fun q => q c)) (xg hg (xlt (e))))
    · rw [if_neg c] at hb
      rw [hb] at e
      rw [hb]
      exact xn (nI_ge (by omega) hn) (xg c (xg hg (xlt (e))))
theorem S_odds (a b c e : Int32) : Same 75 166 [xv_i a, xv_i b, xv_i c, xv_i e] := by
  intro u h
  have hv := h.1
  have hd := h.2.1
  by_cases P : bd a (u.1 9 1 0 - 1)
  · by_cases V : bd b 99
    · by_cases C : bd c 20
      · by_cases W : bd e 1
        · obtain ⟨p, hp, rfl⟩ := plank_nI hd P
          obtain ⟨n, hn, rfl⟩ := bd_nI (n := 20) (by decide) C
          obtain ⟨h8, hN⟩ := inv_nN hd
          obtain ⟨u1, q1, q2, q3⟩ := v_become (i := 2) (i1 := 1) rfl rfl (by decide) hv
          obtain ⟨u2, e2, o2⟩ := x_hh_loop hd hp b 6 0 u1 _ rfl q2 (fun _ => rfl)
          have ho := oth_tr q3 o2
          have e9 : u2.1 9 1 = u.1 9 1 := by rw [ho.1 9 (by decide)]
          have hh : xm_C 106 [xv_r 0 0, xv_i (nI p), xv_i b] u = some (some (xv_i (nI (cntN (u.1 9 1) b p 6))), u2) := by
            rw [xe_X3_housesHearing]
            exact xg rfl (xg rfl (xg rfl (xbv q1 (e2))))
          generalize hs : cntN (u.1 9 1) b p 6 = s at hh
          have hs6 : s ≤ 6 := hs ▸ cntN_le _ _ _ 6
          have gp : 0 < Nat.gcd 6 s := Nat.gcd_pos_of_pos_left _ (by decide)
          have g6 : Nat.gcd 6 s ≤ 6 := Nat.le_of_dvd (by decide) (Nat.gcd_dvd_left _ _)
          have hg : ¬ nI (Nat.gcd 6 s) = 0 := nI_ne0 gp (by omega)
          have red : ∀ part : Int32, xm_C 107 [xv_i part, xv_i (nI s), xv_i 6] u2 = some (some (xv_i (part / nI (Nat.gcd 6 s))), u2) := fun part => by
            rw [xe_X3_reduced]
            exact x_reduced_loop part 6 u2 hs6 5 6 rfl (by decide) (fun j h1 h2 => by omega)
          have pw : ∀ base : Int32, xm_C 108 [xv_i base, xv_i (nI n)] u2 = some (some (xv_l (powN base.toInt64 n)), u2) := fun base => by
            rw [xe_X3_power]
            exact x_power_loop base (by omega) u2 n 0 (by omega)
          have P2 : bd (nI p) (u2.1 9 1 0 - 1) := by rw [e9]; exact P
          refine ⟨xv_l (powN ((if e = 0 then nI s else 6) / nI (Nat.gcd 6 s)).toInt64 n), u2, u2, ?_, ?_, Rel_t h ho⟩
          · rw [xe_X3_odds]
            by_cases c0 : e = 0
            · rw [if_pos c0]
              exact xg rfl (xbi (x_isPlank _ _ hv) (xn (bI_ne P) (xbi (x_within _ _ _ _) (xn (bI_ne V) (xbi (x_within _ _ _ _) (xn (bI_ne C) (xbi (x_within _ _ _ _) (xg (bI_ne W) (xg rfl (xbi hh (xn ((fun q => q c0)) (xbi (red _) (xbl (pw _) (rfl))))))))))))))
            · rw [if_neg c0]
              exact xg rfl (xbi (x_isPlank _ _ hv) (xn (bI_ne P) (xbi (x_within _ _ _ _) (xn (bI_ne V) (xbi (x_within _ _ _ _) (xn (bI_ne C) (xbi (x_within _ _ _ _) (xg (bI_ne W) (xg rfl (xbi hh (xg c0 (xbi (red _) (xbl (pw _) (rfl))))))))))))))
          · have e3 := m_hh_loop hd hp b (nI n) e u2 6 0 (u.1 9 1) rfl (fun _ => rfl) (some (xv_l (powN ((if e = 0 then nI s else 6) / nI (Nat.gcd 6 s)).toInt64 n)), u2) (by
              rw [if_neg (by decide), hs, xe_X4_odds_36]
              have b1 : xm_C 118 [xv_r 9 0, xv_i (nI p), xv_i 1, xv_i (u.1 9 1 (31 + p))] (dU u2 (upd (u.1 9 1) (31 + p) (nI 5))) = some (none, u2) := by
                rw [m_sets1 _ (by omega), dU_us, upd_upd, upd_self, ← e9, dU_self]
              have b2 : xm_C 165 [xv_i (nI s), xv_i 6] u2 = some (some (xv_i (nI (Nat.gcd 6 s))), u2) := by
                rw [xe_X4_common]
                exact m_common _ _ u2 6 6 s (by decide) (by decide) (by omega)
              exact xg (nI_le (a := 6) (Nat.le_refl _) (by decide)) (xg rfl (xbv b1 (xbi b2 (m_power_loop _ _ _ s (Nat.gcd 6 s) hg e _ rfl (n := n) (by omega) u2 n 0 (by omega))))))
            rw [← e9, dU_self] at e3
            rw [xe_X4_odds]
            exact xg rfl (xbi (m_isPlank _ _) (xn (bI_ne P2) (xbi (m_inb _ _ 0 99 rfl rfl) (xn (bI_ne V) (xbi (m_inb _ _ 0 20 rfl rfl) (xn (bI_ne C) (xbi (m_inb _ _ 0 1 rfl rfl) (xg (bI_ne W) (xg rfl (xbi (m_its1 u2 (by omega)) (e3)))))))))))
        · refine S_fail h 0 (r := xv_l ((-1000001 : Int32).toInt64)) ?_ ?_
          · rw [xe_X3_odds]
            exact xg rfl (xbi (x_isPlank _ _ hv) (xn (bI_ne P) (xbi (x_within _ _ _ _) (xn (bI_ne V) (xbi (x_within _ _ _ _) (xn (bI_ne C) (xbi (x_within _ _ _ _) (xn (bI_nn W) (xg rfl (xbi (x_f0 _) (rfl)))))))))))
          · rw [xe_X4_odds]
            exact xg rfl (xbi (m_isPlank _ _) (xn (bI_ne P) (xbi (m_inb _ _ 0 99 rfl rfl) (xn (bI_ne V) (xbi (m_inb _ _ 0 20 rfl rfl) (xn (bI_ne C) (xbi (m_inb _ _ 0 1 rfl rfl) (xn (bI_nn W) (xg rfl (xbi (m_f0 _) (rfl)))))))))))
      · refine S_fail h 0 (r := xv_l ((-1000001 : Int32).toInt64)) ?_ ?_
        · rw [xe_X3_odds]
          exact xg rfl (xbi (x_isPlank _ _ hv) (xn (bI_ne P) (xbi (x_within _ _ _ _) (xn (bI_ne V) (xbi (x_within _ _ _ _) (xg (bI_f C) (xg rfl (xbi (x_f0 _) (rfl)))))))))
        · rw [xe_X4_odds]
          exact xg rfl (xbi (m_isPlank _ _) (xn (bI_ne P) (xbi (m_inb _ _ 0 99 rfl rfl) (xn (bI_ne V) (xbi (m_inb _ _ 0 20 rfl rfl) (xg (bI_f C) (xg rfl (xbi (m_f0 _) (rfl)))))))))
    · refine S_fail h 0 (r := xv_l ((-1000001 : Int32).toInt64)) ?_ ?_
      · rw [xe_X3_odds]
        exact xg rfl (xbi (x_isPlank _ _ hv) (xn (bI_ne P) (xbi (x_within _ _ _ _) (xg (bI_f V) (xg rfl (xbi (x_f0 _) (rfl)))))))
      · rw [xe_X4_odds]
        exact xg rfl (xbi (m_isPlank _ _) (xn (bI_ne P) (xbi (m_inb _ _ 0 99 rfl rfl) (xg (bI_f V) (xg rfl (xbi (m_f0 _) (rfl)))))))
  · refine S_fail h 0 (r := xv_l ((-1000001 : Int32).toInt64)) ?_ ?_
    · rw [xe_X3_odds]
      exact xg rfl (xbi (x_isPlank _ _ hv) (xg (bI_f P) (xg rfl (xbi (x_f0 _) (rfl)))))
    · rw [xe_X4_odds]
      exact xg rfl (xbi (m_isPlank _ _) (xg (bI_f P) (xg rfl (xbi (m_f0 _) (rfl)))))
