/-! TEXTS: the tape's fields of the class are f (wf w f), the reader's of the reference g and v (zf z g v) -/
def wf (w : xm_U) (f : Nat → Int32) : xm_U := xm_ua w 4 0 f
def zf (z : xm_U) (g : Nat → Int32) (v : Int64) : xm_U := xm_ul (xm_ua z 9 0 g) v
theorem wf_rd (w : xm_U) (f : Nat → Int32) (k : Nat) : (wf w f).1 4 0 k = f k := by unfold wf; rw [ua_row]
theorem wf_b (w : xm_U) (f : Nat → Int32) (k : Nat) : (wf w f).1 4 1 k = w.1 4 1 k := by unfold wf; rw [ua_arr _ (by decide)]
theorem wf_o (w : xm_U) (f : Nat → Int32) {i : Nat} (h : i ≠ 4) : (wf w f).1 i = w.1 i := ua_obj _ h
theorem ua_ua (w : xm_U) (i p : Nat) (f g : Nat → Int32) : xm_ua (xm_ua w i p f) i p g = xm_ua w i p g := by
  unfold xm_ua
  congr 1
  funext i' p'
  by_cases h : i' = i ∧ p' = p
  · simp [h]
  · simp [h]
theorem wf_us (w : xm_U) (f : Nat → Int32) (k : Nat) (x : Int32) : xm_us (wf w f) 4 0 k x = wf w (upd f k x) := by
  unfold xm_us wf
  rw [ua_row, ua_ua]
theorem zf_rd (z : xm_U) (g : Nat → Int32) (v : Int64) (k : Nat) : (zf z g v).1 9 0 k = g k := by
  show (xm_ua z 9 0 g).1 9 0 k = g k
  rw [ua_row]
theorem zf_o (z : xm_U) (g : Nat → Int32) (v : Int64) {p : Nat} (h : p ≠ 0) : (zf z g v).1 9 p = z.1 9 p := ua_arr _ (fun q => h q.2)
theorem zf_i (z : xm_U) (g : Nat → Int32) (v : Int64) {i : Nat} (h : i ≠ 9) : (zf z g v).1 i = z.1 i := ua_obj _ h
theorem zf_v (z : xm_U) (g : Nat → Int32) (v : Int64) : (zf z g v).2.1 = v := rfl
theorem zf_us (z : xm_U) (g : Nat → Int32) (v : Int64) (k : Nat) (x : Int32) : xm_us (zf z g v) 9 0 k x = zf z (upd g k x) v := by
  show xm_ul (xm_ua (xm_ua z 9 0 g) 9 0 (upd ((xm_ua z 9 0 g).1 9 0) k x)) v = _
  rw [ua_row, ua_ua]
  rfl
theorem zf_ul (z : xm_U) (g : Nat → Int32) (v v' : Int64) : xm_ul (zf z g v) v' = zf z g v' := rfl
/-! bytes -/
def sb (b : Nat) : Int32 := (nI b).toInt8.toInt32
def isL (b : Nat) : Prop := 97 ≤ b ∧ b ≤ 122
def isD (b : Nat) : Prop := 48 ≤ b ∧ b ≤ 57
theorem sb_32 : ∀ b, b < 256 → (sb b = 32 ↔ b = 32) := by decide +kernel
theorem sb_59 : ∀ b, b < 256 → (sb b = 59 ↔ b = 59) := by decide +kernel
theorem sb_L : ∀ b, b < 256 → (97 ≤ b ∧ b ≤ 122 ↔ ¬ sb b < 97 ∧ ¬ (122 : Int32) < sb b) := by decide +kernel
theorem sb_D : ∀ b, b < 256 → (48 ≤ b ∧ b ≤ 57 ↔ ¬ sb b < 48 ∧ ¬ (57 : Int32) < sb b) := by decide +kernel
theorem sb_v : ∀ b, b < 123 → sb b = nI b := by decide +kernel
/-- a letter's number, from 1; 0 else -/
noncomputable def lv (b : Nat) : Nat := @ite _ (isL b) (Classical.propDecidable _) (b - 96) 0
theorem lv_t {b : Nat} (h : isL b) : lv b = b - 96 := if_pos h
theorem lv_f {b : Nat} (h : ¬ isL b) : lv b = 0 := if_neg h
theorem m_letter (u : xm_U) {b : Nat} (hb : b < 256) : xm_C 170 [xv_i (sb b)] u = some (some (xv_i (nI (lv b))), u) := by
  rw [xe_X4_letter]
  have k := sb_L b hb
  by_cases L : isL b
  · obtain ⟨k1, k2⟩ := k.mp L
    rw [lv_t L]
    refine xn k1 (xn k2 (?_))
    have h1 := L.1
    have h2 := L.2
    rw [sb_v b (by omega), show (97 : Int32) = nI 97 from rfl, pk_sub h1, nI_1, show b - 97 + 1 = b - 96 by omega]
  · rw [lv_f L]
    by_cases c1 : sb b < 97
    · exact xg c1 (rfl)
    · by_cases c2 : (122 : Int32) < sb b
      · exact xn c1 (xg c2 (rfl))
      · exact absurd (k.mpr ⟨c1, c2⟩) L
theorem m_letter_e (u : xm_U) : xm_C 170 [xv_i (-1)] u = some (some (xv_i 0), u) := by
  rw [xe_X4_letter]
  exact xg ((by decide)) (rfl)
theorem m_digit (u : xm_U) {b : Nat} (hb : b < 256) : xm_C 171 [xv_i (sb b)] u = some (some (xv_i (bI (isD b))), u) := by
  rw [xe_X4_isDigit]
  have k := sb_D b hb
  by_cases L : isD b
  · obtain ⟨k1, k2⟩ := k.mp L
    rw [bI_t L]
    exact xn k1 (xn k2 (xg nb1 (rfl)))
  · rw [bI_f L]
    by_cases c1 : sb b < 48
    · exact xg c1 (xg nb0 (rfl))
    · by_cases c2 : (57 : Int32) < sb b
      · exact xn c1 (xg c2 (xg nb0 (rfl)))
      · exact absurd (k.mpr ⟨c1, c2⟩) L
theorem m_digit_e (u : xm_U) : xm_C 171 [xv_i (-1)] u = some (some (xv_i 0), u) := by
  rw [xe_X4_isDigit]
  exact xg ((by decide)) (xg nb0 (rfl))
/-- the bytes on both sides -/
def byt (n : Nat) (b : Nat → Nat) (w z : xm_U) : Prop := n ≤ 120 ∧ ∀ k, k < n → b k < 256 ∧ w.1 4 1 k = nI (b k) ∧ z.1 9 7 k = sb (b k)
section TT
variable {n : Nat} {b : Nat → Nat} {w z : xm_U}
theorem m_at (h : byt n b w z) {g : Nat → Int32} (v : Int64) (h7 : g 7 = nI n) {p : Nat} (hp : p < n) : xm_C 172 [xv_r 9 0, xv_i (nI p)] (zf z g v) = some (some (xv_i (sb (b p))), zf z g v) := by
  have := h.1
  rw [xe_X4_byteAt, zf_rd, h7, zf_o _ _ _ (by decide), nI_clamp (by omega), (h.2 p hp).2.2]
  exact xg rfl (xn (nI_ge hp (by omega)) (xg rfl (xg (vp_in_nI (by omega) (by decide)) (rfl))))
theorem m_at_e {g : Nat → Int32} (v : Int64) (h7 : g 7 = nI n) {p : Nat} (hn : n < 2 ^ 31) (hp : n ≤ p) (hp2 : p < 2 ^ 31) : xm_C 172 [xv_r 9 0, xv_i (nI p)] (zf z g v) = some (some (xv_i (-1)), zf z g v) := by
  rw [xe_X4_byteAt, zf_rd, h7]
  exact xg rfl (xg (nI_le hp hp2) (rfl))
/-- a word's number: base 27, held above 10^17 -/
noncomputable def vW (b : Nat → Nat) (s : Nat) : Nat → Nat
  | 0 => 0
  | k + 1 => if 100000000000000000 < vW b s k then vW b s k else vW b s k * 27 + lv (b (s + k))
theorem vW_s {b : Nat → Nat} {s k : Nat} (h : 100000000000000000 < vW b s k) : vW b s (k + 1) = vW b s k := if_pos h
theorem vW_t {b : Nat → Nat} {s k : Nat} (h : ¬ 100000000000000000 < vW b s k) : vW b s (k + 1) = vW b s k * 27 + lv (b (s + k)) := if_neg h
theorem lv_le (b : Nat) : lv b ≤ 26 := by
  by_cases h : isL b
  · rw [lv_t h]; have := h.2; omega
  · rw [lv_f h]; omega
theorem vW_le (b : Nat → Nat) (s : Nat) : ∀ k, vW b s k ≤ 3000000000000000000
  | 0 => by unfold vW; omega
  | k + 1 => by
    have h1 := vW_le b s k
    have h2 := lv_le (b (s + k))
    unfold vW
    split
    · exact h1
    · omega
/-- where the bytes from lo to hi, from e on, are over (the class) -/
theorem x_those_loop (h : byt n b w z) {lo hi : Nat} (hlo : lo < 2 ^ 31) (hhi : hi < 2 ^ 31) {f : Nat → Int32} (h1 : f 1 = nI n) : ∀ (m e : Nat), e + m = n → ∃ e', e ≤ e' ∧ e' ≤ n ∧ (∀ k, e ≤ k → k < e' → lo ≤ b k ∧ b k ≤ hi) ∧ (e' < n → ¬ (lo ≤ b e' ∧ b e' ≤ hi)) ∧ xm_E 16 (xc_X1_endOfThose.drop 3, [some (xv_r 4 0), some (xv_i (nI lo)), some (xv_i (nI hi)), some (xv_i (nI e))], [], wf w f) = some (some (xv_i (nI e')), wf w f) := by
  have n120 := h.1
  intro m
  induction m with
  | zero =>
    intro e he
    have : e = n := by omega
    subst this
    refine ⟨e, Nat.le_refl _, Nat.le_refl _, fun k a c => absurd a (by omega), fun q => absurd q (Nat.lt_irrefl _), ?_⟩
    rw [xe_X1_endOfThose_3, wf_rd, h1]
    exact xg rfl (xg (nI_le (Nat.le_refl _) (by omega)) (rfl))
  | succ m ih =>
    intro e he
    have hb := (h.2 e (by omega))
    have n1 : ¬ nI n ≤ nI e := nI_ge (by omega) (by omega)
    have i4 : xm_in 4 1 (nI e) := xin (vp_in_nI (n := e) (N := 120) (by omega) (by decide)) rfl
    by_cases c1 : b e < lo
    · refine ⟨e, Nat.le_refl _, by omega, fun k a c => absurd a (by omega), fun _ q => absurd q.1 (by omega), ?_⟩
      rw [xe_X1_endOfThose_3, wf_rd, h1, nI_clamp (n := e) (by omega), wf_b, hb.2.1]
      exact xg rfl (xn n1 (xg rfl (xg i4 (xg (nI_lt c1 hlo) (rfl)))))
    by_cases c2 : hi < b e
    · refine ⟨e, Nat.le_refl _, by omega, fun k a c => absurd a (by omega), fun _ q => absurd q.2 (by omega), ?_⟩
      rw [xe_X1_endOfThose_3, wf_rd, h1, nI_clamp (n := e) (by omega), wf_b, hb.2.1]
      exact xg rfl (xn n1 (xg rfl (xg i4 (xn (nI_nlt (by omega) (by omega)) (xg rfl (xg i4 (xg (nI_lt c2 (by omega)) (rfl))))))))
    obtain ⟨e', a1, a2, a3, a4, a5⟩ := ih (e + 1) (by omega)
    refine ⟨e', by omega, a2, fun k c3 c4 => ?_, a4, ?_⟩
    · by_cases q : k = e
      · subst q; exact ⟨by omega, by omega⟩
      · exact a3 k (by omega) c4
    · rw [xe_X1_endOfThose_3, wf_rd, h1, nI_clamp (n := e) (by omega), wf_b, hb.2.1, nI_1]
      exact xg rfl (xn n1 (xg rfl (xg i4 (xn (nI_nlt (by omega) (by omega)) (xg rfl (xg i4 (xn (nI_nlt (by omega) hhi) (a5))))))))
theorem x_those (h : byt n b w z) {lo hi : Nat} (hlo : lo < 2 ^ 31) (hhi : hi < 2 ^ 31) {f : Nat → Int32} (h1 : f 1 = nI n) {s : Nat} (h3 : f 3 = nI s) (hs : s ≤ n) : ∃ e', s ≤ e' ∧ e' ≤ n ∧ (∀ k, s ≤ k → k < e' → lo ≤ b k ∧ b k ≤ hi) ∧ (e' < n → ¬ (lo ≤ b e' ∧ b e' ≤ hi)) ∧ xm_C 16 [xv_r 4 0, xv_i (nI lo), xv_i (nI hi)] (wf w f) = some (some (xv_i (nI e')), wf w f) := by
  obtain ⟨e', a1, a2, a3, a4, a5⟩ := x_those_loop h hlo hhi h1 (n - s) s (by omega)
  refine ⟨e', a1, a2, a3, a4, ?_⟩
  rw [xe_X1_endOfThose, wf_rd, h3]
  exact xg rfl (xlt (a5))
/-- what digits tell, held at 1000 -/
def nV (b : Nat → Nat) (s : Nat) : Nat → Nat
  | 0 => 0
  | k + 1 => min 1000 (10 * nV b s k + b (s + k) - 48)
theorem nV_s (b : Nat → Nat) (s k : Nat) : nV b s (k + 1) = min 1000 (10 * nV b s k + b (s + k) - 48) := rfl
theorem nV_le (b : Nat → Nat) (s : Nat) : ∀ k, nV b s k ≤ 1000
  | 0 => by unfold nV; omega
  | k + 1 => by rw [nV_s]; omega
theorem x_told_loop (h : byt n b w z) {f : Nat → Int32} {s e : Nat} (h4 : f 4 = nI e) (hse : s ≤ e) (he : e ≤ n) (hD : ∀ k, s ≤ k → k < e → isD (b k)) : ∀ (m i : Nat), i + m = e - s → xm_E 17 (xc_X1_numberTold.drop 5, [some (xv_r 4 0), some (xv_i (nI (nV b s i))), some (xv_i (nI (s + i)))], [], wf w f) = some (some (xv_i (nI (nV b s (e - s)))), wf w f) := by
  have n120 := h.1
  intro m
  induction m with
  | zero =>
    intro i hi
    have : i = e - s := by omega
    subst this
    rw [xe_X1_numberTold_5, wf_rd, h4]
    exact xg rfl (xg (nI_le (by omega) (by omega)) (rfl))
  | succ m ih =>
    intro i hi
    have hb := (h.2 (s + i) (by omega))
    obtain ⟨d1, d2⟩ := hD (s + i) (by omega) (by omega)
    have vl := nV_le b s i
    have n1 : ¬ nI e ≤ nI (s + i) := nI_ge (by omega) (by omega)
    have i4 : xm_in 4 1 (nI (s + i)) := xin (vp_in_nI (n := s + i) (N := 120) (by omega) (by decide)) rfl
    have sm : ((10 * nI (nV b s i)) + nI (b (s + i))) - 48 = nI (10 * nV b s i + b (s + i) - 48) := by
      rw [show (10 : Int32) = nI 10 from rfl, pk_mul, nI_add, show (48 : Int32) = nI 48 from rfl, pk_sub (by omega)]
    have ev : (if ((10 * nI (nV b s i)) + nI (b (s + i))) - 48 < 1000 then ((10 * nI (nV b s i)) + nI (b (s + i))) - 48 else 1000) = nI (nV b s (i + 1)) := by
      rw [sm, nV_s]
      by_cases q : 10 * nV b s i + b (s + i) - 48 < 1000
      · rw [if_pos (show nI (10 * nV b s i + b (s + i) - 48) < 1000 from nI_lt (b := 1000) q (by decide)), show min 1000 (10 * nV b s i + b (s + i) - 48) = 10 * nV b s i + b (s + i) - 48 by omega]
      · rw [if_neg (show ¬ nI (10 * nV b s i + b (s + i) - 48) < 1000 from nI_nlt (b := 1000) (by omega) (by omega)), show min 1000 (10 * nV b s i + b (s + i) - 48) = 1000 by omega]; rfl
    have a := ih (i + 1) (by omega)
    rw [xe_X1_numberTold_5, wf_rd, h4, nI_clamp (n := s + i) (by omega), wf_b, hb.2.1, nI_1, ev]
    exact xg rfl (xn n1 (xg rfl (xg i4 (xlt (a)))))
theorem x_told (h : byt n b w z) {f : Nat → Int32} {s e : Nat} (h3 : f 3 = nI s) (h4 : f 4 = nI e) (hse : s ≤ e) (he : e ≤ n) (hD : ∀ k, s ≤ k → k < e → isD (b k)) : xm_C 17 [xv_r 4 0] (wf w f) = some (some (xv_i (nI (nV b s (e - s)))), wf w f) := by
  have a := x_told_loop h h4 hse he hD (e - s) 0 (by omega)
  rw [xe_X1_numberTold, wf_rd, h3]
  exact xg rfl (xlt (a))
/-- a word (the reference) -/
theorem m_word (h : byt n b w z) (s : Nat) (v1 : Int32) {e' : Nat} (he' : e' ≤ n) (hL : ∀ k, s ≤ k → k < e' → isL (b k)) (hN : e' < n → ¬ isL (b e')) : ∀ (m e : Nat) (g : Nat → Int32), e + m = e' → s ≤ e → g 7 = nI n → g 8 = nI e → ∃ g', xm_E 173 (xc_X4_next.drop 53, [some (xv_r 9 0), some (xv_i v1)], [], zf z g (lN (vW b s (e - s)))) = some (none, zf z g' (lN (vW b s (e' - s)))) ∧ g' 8 = nI e' ∧ ∀ k, k ≠ 8 → g' k = g k := by
  have n120 := h.1
  intro m
  induction m with
  | zero =>
    intro e g he hs h7 h8
    have : e = e' := by omega
    subst this
    refine ⟨g, ?_, h8, fun _ _ => rfl⟩
    rw [xe_X4_next_53, zf_rd, h8]
    by_cases q : e < n
    · exact xg rfl (xg rfl (xbi (m_at h _ h7 q) (xbi (m_letter _ (h.2 e q).1) (xg ((by rw [lv_f (hN q)]; decide)) (rfl)))))
    · exact xg rfl (xg rfl (xbi (m_at_e _ h7 (by omega) (by omega) (by omega)) (xbi (m_letter_e _) (xg ((by decide)) (rfl)))))
  | succ m ih =>
    intro e g he hs h7 h8
    have hb := (h.2 e (by omega))
    have L : isL (b e) := hL e hs (by omega)
    have hl := lv_t L
    have hl2 := L.2
    have hl1 := L.1
    have es : e + 1 - s = (e - s) + 1 := by omega
    have es2 : s + (e - s) = e := by omega
    have np : ¬ nI (lv (b e)) ≤ 0 := nI_nle (by omega) (by omega)
    have vl := vW_le b s (e - s)
    obtain ⟨g', a5, a6, a7⟩ := ih (e + 1) (upd g 8 (nI (e + 1))) (by omega) (by omega) (by rw [upd_ne (by decide)]; exact h7) upd_eq
    refine ⟨g', ?_, a6, fun k hk => (a7 k hk).trans (upd_ne hk)⟩
    rw [xe_X4_next_53, zf_rd, h8]
    refine xg rfl (xg rfl (xbi (m_at h _ h7 (by omega)) (xbi (m_letter _ hb.1) (xn np (?_)))))
    rw [zf_v, zf_rd, h8]
    have ci := (cmp_gt (lN (vW b s (e - s))) 100000000000000000).trans (pk_lLT (a := 100000000000000000) (b := vW b s (e - s)) (by decide) (by omega))
    rw [es] at a5
    by_cases c : 100000000000000000 < vW b s (e - s)
    · rw [vW_s c] at a5
      refine xg rfl (xn ((fun q => il_len q (ci.mpr c))) (xg rfl (xg rfl (xlt (xg rfl (xg rfl (xlt (?_))))))))
      rw [zf_ul, zf_rd, h8, nI_1, zf_us]
      exact a5
    · rw [vW_t c, es2] at a5
      refine xg rfl (xg (il_nlt (fun q => c (ci.mp q))) (xg rfl (xg rfl (xg rfl (xbi (m_at h _ h7 (by omega)) (xbi (m_letter _ hb.1) (xg rfl (xlt (xg rfl (xg rfl (xlt (?_))))))))))))
      rw [zf_ul, zf_rd, h8, nI_1, zf_us, nI_l (by omega), show (27 : Int64) = lN 27 from rfl, lN_mul, lN_add]
      exact a5
/-- a number (the reference, that holds it above 999) -/
theorem m_num (h : byt n b w z) (s : Nat) (v1 : Int32) {e' : Nat} (he' : e' ≤ n) (hD : ∀ k, s ≤ k → k < e' → isD (b k)) (hN : e' < n → ¬ isD (b e')) : ∀ (m e x : Nat) (g : Nat → Int32), e + m = e' → s ≤ e → x ≤ 10000 → min x 1000 = nV b s (e - s) → g 7 = nI n → g 8 = nI e → ∃ x' g', x' ≤ 10000 ∧ min x' 1000 = nV b s (e' - s) ∧ xm_E 173 (xc_X4_next.drop 93, [some (xv_r 9 0), some (xv_i v1)], [], zf z g (lN x)) = some (none, zf z g' (lN x')) ∧ g' 8 = nI e' ∧ ∀ k, k ≠ 8 → g' k = g k := by
  have n120 := h.1
  intro m
  induction m with
  | zero =>
    intro e x g he hs hx hv h7 h8
    have : e = e' := by omega
    subst this
    refine ⟨x, g, hx, hv, ?_, h8, fun _ _ => rfl⟩
    rw [xe_X4_next_93, zf_rd, h8]
    by_cases q : e < n
    · exact xg rfl (xg rfl (xbi (m_at h _ h7 q) (xbi (m_digit _ (h.2 e q).1) (xg (bI_f (hN q)) (rfl)))))
    · exact xg rfl (xg rfl (xbi (m_at_e _ h7 (by omega) (by omega) (by omega)) (xbi (m_digit_e _) (xg rfl (rfl)))))
  | succ m ih =>
    intro e x g he hs hx hv h7 h8
    have hb := (h.2 e (by omega))
    have D : isD (b e) := hD e hs (by omega)
    have d1 := D.1
    have d2 := D.2
    have es : e + 1 - s = (e - s) + 1 := by omega
    have es2 : s + (e - s) = e := by omega
    have ci := (cmp_gt (lN x) 999).trans (pk_lLT (a := 999) (b := x) (by decide) (by omega))
    have sbv : sb (b e) = nI (b e) := sb_v _ (by omega)
    have vs := nV_s b s (e - s)
    rw [es2] at vs
    have h7' : upd g 8 (nI (e + 1)) 7 = nI n := by rw [upd_ne (by decide)]; exact h7
    by_cases c : 999 < x
    · obtain ⟨x', g', a1, a2, a3, a4, a5⟩ := ih (e + 1) x (upd g 8 (nI (e + 1))) (by omega) (by omega) hx (by rw [es, vs]; omega) h7' upd_eq
      refine ⟨x', g', a1, a2, ?_, a4, fun k hk => (a5 k hk).trans (upd_ne hk)⟩
      rw [xe_X4_next_93, zf_rd, h8]
      refine xg rfl (xg rfl (xbi (m_at h _ h7 (by omega)) (xbi (m_digit _ hb.1) (xn (bI_ne D) (?_)))))
      rw [zf_v]
      refine xg rfl (xn ((fun q => il_len q (ci.mpr c))) (xg rfl (xg rfl (xlt (xg rfl (xg rfl (xlt (?_))))))))
      rw [zf_ul, zf_rd, h8, nI_1, zf_us]
      exact a3
    · obtain ⟨x', g', a1, a2, a3, a4, a5⟩ := ih (e + 1) (10 * x + b e - 48) (upd g 8 (nI (e + 1))) (by omega) (by omega) (by omega) (by rw [es, vs]; omega) h7' upd_eq
      refine ⟨x', g', a1, a2, ?_, a4, fun k hk => (a5 k hk).trans (upd_ne hk)⟩
      rw [xe_X4_next_93, zf_rd, h8]
      refine xg rfl (xg rfl (xbi (m_at h _ h7 (by omega)) (xbi (m_digit _ hb.1) (xn (bI_ne D) (?_)))))
      rw [zf_v, zf_rd, h8]
      refine xg rfl (xg (il_nlt (fun q => c (ci.mp q))) (xg rfl (xg rfl (xg rfl (xbi (m_at h _ h7 (by omega)) (xg rfl (xlt (xg rfl (xg rfl (xlt (?_)))))))))))
      rw [zf_ul, zf_rd, h8, nI_1, zf_us, sbv, nI_l (by omega), show (10 : Int64) = lN 10 from rfl, show (48 : Int64) = lN 48 from rfl, lN_mul, lN_add, lN_sub (by omega), Nat.mul_comm x 10]
      exact a3
end TT
