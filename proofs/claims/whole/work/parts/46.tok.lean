/-! TEXTS: the tape's fields of the class are f (wf w f), the reader's of the reference g and v (zf z g v) -/
def wf (w : xm_U) (f : Nat → Int32) : xm_U := xm_ua w 4 0 f
def zf (z : xm_U) (g : Nat → Int32) (v : Int64) : xm_U := xm_ul (xm_ua z 9 0 g) v
theorem wf_rd (w : xm_U) (f : Nat → Int32) (k : Nat) : (wf w f).1 4 0 k = f k := by unfold wf; rw [ua_row]
theorem wf_b (w : xm_U) (f : Nat → Int32) (k : Nat) : (wf w f).1 4 1 k = w.1 4 1 k := by unfold wf; rw [ua_arr _ (by decide)]
theorem wf_o (w : xm_U) (f : Nat → Int32) {i : Nat} (h : i ≠ 4) : (wf w f).1 i = w.1 i := ua_obj _ h
theorem ua_ua (w : xm_U) (i p : Nat) (f g : Nat → Int32) : xm_ua (xm_ua w i p f) i p g = xm_ua w i p g := by
  unfold xm_ua
  congr 1
  funext i' p'
  by_cases h : i' = i ∧ p' = p
  · simp [h]
  · simp [h]
theorem wf_us (w : xm_U) (f : Nat → Int32) (k : Nat) (x : Int32) : xm_us (wf w f) 4 0 k x = wf w (upd f k x) := by
  unfold xm_us wf
  rw [ua_row, ua_ua]
theorem zf_rd (z : xm_U) (g : Nat → Int32) (v : Int64) (k : Nat) : (zf z g v).1 9 0 k = g k := by
  show (xm_ua z 9 0 g).1 9 0 k = g k
  rw [ua_row]
theorem zf_o (z : xm_U) (g : Nat → Int32) (v : Int64) {p : Nat} (h : p ≠ 0) : (zf z g v).1 9 p = z.1 9 p := ua_arr _ (fun q => h q.2)
theorem zf_i (z : xm_U) (g : Nat → Int32) (v : Int64) {i : Nat} (h : i ≠ 9) : (zf z g v).1 i = z.1 i := ua_obj _ h
theorem zf_v (z : xm_U) (g : Nat → Int32) (v : Int64) : (zf z g v).2.1 = v := rfl
theorem zf_us (z : xm_U) (g : Nat → Int32) (v : Int64) (k : Nat) (x : Int32) : xm_us (zf z g v) 9 0 k x = zf z (upd g k x) v := by
  show xm_ul (xm_ua (xm_ua z 9 0 g) 9 0 (upd ((xm_ua z 9 0 g).1 9 0) k x)) v = _
  rw [ua_row, ua_ua]
  rfl
theorem zf_ul (z : xm_U) (g : Nat → Int32) (v v' : Int64) : xm_ul (zf z g v) v' = zf z g v' := rfl
/-! bytes -/
def sb (b : Nat) : Int32 := (nI b).toInt8.toInt32
def isL (b : Nat) : Prop := 97 ≤ b ∧ b ≤ 122
def isD (b : Nat) : Prop := 48 ≤ b ∧ b ≤ 57
theorem sb_32 : ∀ b, b < 256 → (sb b = 32 ↔ b = 32) := by decide +kernel
theorem sb_59 : ∀ b, b < 256 → (sb b = 59 ↔ b = 59) := by decide +kernel
theorem sb_L : ∀ b, b < 256 → (97 ≤ b ∧ b ≤ 122 ↔ ¬ sb b < 97 ∧ ¬ (122 : Int32) < sb b) := by decide +kernel
theorem sb_D : ∀ b, b < 256 → (48 ≤ b ∧ b ≤ 57 ↔ ¬ sb b < 48 ∧ ¬ (57 : Int32) < sb b) := by decide +kernel
theorem sb_v : ∀ b, b < 123 → sb b = nI b := by decide +kernel
theorem x_letter (u : xm_U) {b : Nat} (hb : b < 256) : xm_C 18 [xv_i (nI b)] u = some (some (xv_i (bI (isL b))), u) := by
  rw [xe_X1_isLetter]
  by_cases c1 : b < 97
  · rw [bI_f (fun q => by have := q.1; omega)]
    exact xg (nI_lt (b := 97) c1 (by decide)) (xg nb0 (rfl))
  by_cases c2 : 122 < b
  · rw [bI_f (fun q => by have := q.2; omega)]
    exact xn (nI_nlt (b := 97) (by omega) (by omega)) (xg (nI_lt (a := 122) c2 (by omega)) (xg nb0 (rfl)))
  · rw [bI_t ⟨by omega, by omega⟩]
    exact xn (nI_nlt (b := 97) (by omega) (by omega)) (xn (nI_nlt (a := 122) (by omega) (by decide)) (xg nb1 (rfl)))
theorem x_digit (u : xm_U) {b : Nat} (hb : b < 256) : xm_C 19 [xv_i (nI b)] u = some (some (xv_i (bI (isD b))), u) := by
  rw [xe_X1_isDigit]
  by_cases c1 : b < 48
  · rw [bI_f (fun q => by have := q.1; omega)]
    exact xg (nI_lt (b := 48) c1 (by decide)) (xg nb0 (rfl))
  by_cases c2 : 57 < b
  · rw [bI_f (fun q => by have := q.2; omega)]
    exact xn (nI_nlt (b := 48) (by omega) (by omega)) (xg (nI_lt (a := 57) c2 (by omega)) (xg nb0 (rfl)))
  · rw [bI_t ⟨by omega, by omega⟩]
    exact xn (nI_nlt (b := 48) (by omega) (by omega)) (xn (nI_nlt (a := 57) (by omega) (by decide)) (xg nb1 (rfl)))
/-- a letter's number, from 1; 0 else -/
noncomputable def lv (b : Nat) : Nat := @ite _ (isL b) (Classical.propDecidable _) (b - 96) 0
theorem lv_t {b : Nat} (h : isL b) : lv b = b - 96 := if_pos h
theorem lv_f {b : Nat} (h : ¬ isL b) : lv b = 0 := if_neg h
theorem m_letter (u : xm_U) {b : Nat} (hb : b < 256) : xm_C 170 [xv_i (sb b)] u = some (some (xv_i (nI (lv b))), u) := by
  rw [xe_X4_letter]
  have k := sb_L b hb
  by_cases L : isL b
  · obtain ⟨k1, k2⟩ := k.mp L
    rw [lv_t L]
    refine xn k1 (xn k2 (?_))
    have h1 := L.1
    have h2 := L.2
    rw [sb_v b (by omega), show (97 : Int32) = nI 97 from rfl, pk_sub h1, nI_1, show b - 97 + 1 = b - 96 by omega]
  · rw [lv_f L]
    by_cases c1 : sb b < 97
    · exact xg c1 (rfl)
    · by_cases c2 : (122 : Int32) < sb b
      · exact xn c1 (xg c2 (rfl))
      · exact absurd (k.mpr ⟨c1, c2⟩) L
theorem m_letter_e (u : xm_U) : xm_C 170 [xv_i (-1)] u = some (some (xv_i 0), u) := by
  rw [xe_X4_letter]
  exact xg ((by decide)) (rfl)
theorem m_digit (u : xm_U) {b : Nat} (hb : b < 256) : xm_C 171 [xv_i (sb b)] u = some (some (xv_i (bI (isD b))), u) := by
  rw [xe_X4_isDigit]
  have k := sb_D b hb
  by_cases L : isD b
  · obtain ⟨k1, k2⟩ := k.mp L
    rw [bI_t L]
    exact xn k1 (xn k2 (xg nb1 (rfl)))
  · rw [bI_f L]
    by_cases c1 : sb b < 48
    · exact xg c1 (xg nb0 (rfl))
    · by_cases c2 : (57 : Int32) < sb b
      · exact xn c1 (xg c2 (xg nb0 (rfl)))
      · exact absurd (k.mpr ⟨c1, c2⟩) L
theorem m_digit_e (u : xm_U) : xm_C 171 [xv_i (-1)] u = some (some (xv_i 0), u) := by
  rw [xe_X4_isDigit]
  exact xg ((by decide)) (xg nb0 (rfl))
/-- the bytes on both sides -/
def byt (n : Nat) (b : Nat → Nat) (w z : xm_U) : Prop := n ≤ 120 ∧ ∀ k, k < n → b k < 256 ∧ w.1 4 1 k = nI (b k) ∧ z.1 9 7 k = sb (b k)
section TT
variable {n : Nat} {b : Nat → Nat} {w z : xm_U}
theorem m_at (h : byt n b w z) {g : Nat → Int32} (v : Int64) (h7 : g 7 = nI n) {p : Nat} (hp : p < n) : xm_C 172 [xv_r 9 0, xv_i (nI p)] (zf z g v) = some (some (xv_i (sb (b p))), zf z g v) := by
  have := h.1
  rw [xe_X4_byteAt, zf_rd, h7, zf_o _ _ _ (by decide), nI_clamp (by omega), (h.2 p hp).2.2]
  exact xg rfl (xn (nI_ge hp (by omega)) (xg rfl (xg (vp_in_nI (by omega) (by decide)) (rfl))))
theorem m_at_e {g : Nat → Int32} (v : Int64) (h7 : g 7 = nI n) {p : Nat} (hn : n < 2 ^ 31) (hp : n ≤ p) (hp2 : p < 2 ^ 31) : xm_C 172 [xv_r 9 0, xv_i (nI p)] (zf z g v) = some (some (xv_i (-1)), zf z g v) := by
  rw [xe_X4_byteAt, zf_rd, h7]
  exact xg rfl (xg (nI_le hp hp2) (rfl))
/-- a word's number: base 27, held above 10^17 -/
noncomputable def vW (b : Nat → Nat) (s : Nat) : Nat → Nat
  | 0 => 0
  | k + 1 => if 100000000000000000 < vW b s k then vW b s k else vW b s k * 27 + lv (b (s + k))
theorem vW_s {b : Nat → Nat} {s k : Nat} (h : 100000000000000000 < vW b s k) : vW b s (k + 1) = vW b s k := if_pos h
theorem vW_t {b : Nat → Nat} {s k : Nat} (h : ¬ 100000000000000000 < vW b s k) : vW b s (k + 1) = vW b s k * 27 + lv (b (s + k)) := if_neg h
theorem lv_le (b : Nat) : lv b ≤ 26 := by
  by_cases h : isL b
  · rw [lv_t h]; have := h.2; omega
  · rw [lv_f h]; omega
theorem vW_le (b : Nat → Nat) (s : Nat) : ∀ k, vW b s k ≤ 3000000000000000000
  | 0 => by unfold vW; omega
  | k + 1 => by
    have h1 := vW_le b s k
    have h2 := lv_le (b (s + k))
    unfold vW
    split
    · exact h1
    · omega
theorem tk_word (h : byt n b w z) (s : Nat) (v1 : Int32) : ∀ (m e : Nat) (f g : Nat → Int32), e + m = n → s ≤ e → f 1 = nI n → f 4 = nI e → g 7 = nI n → g 8 = nI e → ∃ e' f' g', e ≤ e' ∧ e' ≤ n ∧ (isL (b e) → e < n → e < e') ∧ (∀ k, e ≤ k → k < e' → isL (b k)) ∧ xm_E 16 (xc_X1_endWord.drop 0, [some (xv_r 4 0)], [], wf w f) = some (none, wf w f') ∧ xm_E 173 (xc_X4_next.drop 53, [some (xv_r 9 0), some (xv_i v1)], [], zf z g (lN (vW b s (e - s)))) = some (none, zf z g' (lN (vW b s (e' - s)))) ∧ f' 4 = nI e' ∧ g' 8 = nI e' ∧ (∀ k, k ≠ 4 → f' k = f k) ∧ ∀ k, k ≠ 8 → g' k = g k := by
  have n120 := h.1
  intro m
  induction m with
  | zero =>
    intro e f g he hs h1 h4 h7 h8
    have : e = n := by omega
    subst this
    refine ⟨e, f, g, Nat.le_refl _, Nat.le_refl _, fun _ q => absurd q (Nat.lt_irrefl _), fun k a c => absurd a (by omega), ?_, ?_, h4, h8, fun _ _ => rfl, fun _ _ => rfl⟩
    · rw [xe_X1_endWord_0, wf_rd, wf_rd, h1, h4]
      exact xg rfl (xg rfl (xg (nI_le (Nat.le_refl _) (by omega)) (rfl)))
    · rw [xe_X4_next_53, zf_rd, h8]
      exact xg rfl (xg rfl (xbi (m_at_e _ h7 (by omega) (Nat.le_refl _) (by omega)) (xbi (m_letter_e _) (xg ((by decide)) (rfl)))))
  | succ m ih =>
    intro e f g he hs h1 h4 h7 h8
    have hb := (h.2 e (by omega))
    have n1 : ¬ nI n ≤ nI e := nI_ge (by omega) (by omega)
    have i4 : xm_in 4 1 (nI e) := xin (vp_in_nI (n := e) (N := 120) (by omega) (by decide)) rfl
    by_cases L : isL (b e)
    · have hl := lv_t L
      have hl2 := L.2
      have hl1 := L.1
      have key : ∀ v', v' = lN (vW b s (e + 1 - s)) → ∃ e' f' g', e ≤ e' ∧ e' ≤ n ∧ (isL (b e) → e < n → e < e') ∧ (∀ k, e ≤ k → k < e' → isL (b k)) ∧ xm_E 16 (xc_X1_endWord.drop 0, [some (xv_r 4 0)], [], wf w (upd f 4 (nI (e + 1)))) = some (none, wf w f') ∧ xm_E 173 (xc_X4_next.drop 53, [some (xv_r 9 0), some (xv_i v1)], [], zf z (upd g 8 (nI (e + 1))) v') = some (none, zf z g' (lN (vW b s (e' - s)))) ∧ f' 4 = nI e' ∧ g' 8 = nI e' ∧ (∀ k, k ≠ 4 → f' k = f k) ∧ ∀ k, k ≠ 8 → g' k = g k := by
        intro v' hv'
        subst hv'
        obtain ⟨e', f', g', a1, a2, -, a3, a4, a5, a6, a7, a8, a9⟩ := ih (e + 1) (upd f 4 (nI (e + 1))) (upd g 8 (nI (e + 1))) (by omega) (by omega) (by rw [upd_ne (by decide)]; exact h1) upd_eq (by rw [upd_ne (by decide)]; exact h7) upd_eq
        refine ⟨e', f', g', by omega, a2, fun _ _ => by omega, fun k c1 c2 => ?_, a4, a5, a6, a7, fun k hk => (a8 k hk).trans (upd_ne hk), fun k hk => (a9 k hk).trans (upd_ne hk)⟩
        by_cases q : k = e
        · subst q; exact L
        · exact a3 k (by omega) c2
      have es : e + 1 - s = (e - s) + 1 := by omega
      have es2 : s + (e - s) = e := by omega
      have np : ¬ nI (lv (b e)) ≤ 0 := nI_nle (by omega) (by omega)
      have vl := vW_le b s (e - s)
      obtain ⟨e', f', g', a1, a2, a0, a3, a4, a5, a6⟩ := key _ rfl
      refine ⟨e', f', g', a1, a2, a0, a3, ?_, ?_, a6⟩
      · rw [xe_X1_endWord_0, wf_rd, wf_rd, h1, h4, nI_clamp (n := e) (by omega), wf_b, hb.2.1]
        refine xg rfl (xg rfl (xn n1 (xg rfl (xg rfl (xg i4 (xbi (x_letter _ hb.1) (xn (bI_ne L) (xg rfl (xg rfl (xlt (?_)))))))))))
        rw [wf_rd, wf_us, h4, nI_1]
        exact a4
      · rw [xe_X4_next_53, zf_rd, h8]
        refine xg rfl (xg rfl (xbi (m_at h _ h7 (by omega)) (xbi (m_letter _ hb.1) (xn np (?_)))))
        rw [zf_v, zf_rd, h8]
        have ci := (cmp_gt (lN (vW b s (e - s))) 100000000000000000).trans (pk_lLT (a := 100000000000000000) (b := vW b s (e - s)) (by decide) (by omega))
        rw [es] at a5
        by_cases c : 100000000000000000 < vW b s (e - s)
        · rw [vW_s c] at a5
          refine xg rfl (xn ((fun q => il_len q (ci.mpr c))) (xg rfl (xg rfl (xlt (xg rfl (xg rfl (xlt (?_))))))))
          rw [zf_ul, zf_rd, h8, nI_1, zf_us]
          exact a5
        · rw [vW_t c, es2] at a5
          refine xg rfl (xg (il_nlt (fun q => c (ci.mp q))) (xg rfl (xg rfl (xg rfl (xbi (m_at h _ h7 (by omega)) (xbi (m_letter _ hb.1) (xg rfl (xlt (xg rfl (xg rfl (xlt (?_))))))))))))
          rw [zf_ul, zf_rd, h8, nI_1, zf_us, nI_l (by omega), show (27 : Int64) = lN 27 from rfl, lN_mul, lN_add]
          exact a5
    · refine ⟨e, f, g, Nat.le_refl _, by omega, fun q => absurd q L, fun k a c => absurd a (by omega), ?_, ?_, h4, h8, fun _ _ => rfl, fun _ _ => rfl⟩
      · rw [xe_X1_endWord_0, wf_rd, wf_rd, h1, h4, nI_clamp (n := e) (by omega), wf_b, hb.2.1]
        exact xg rfl (xg rfl (xn n1 (xg rfl (xg rfl (xg i4 (xbi (x_letter _ hb.1) (xg (bI_f L) (rfl))))))))
      · rw [xe_X4_next_53, zf_rd, h8]
        refine xg rfl (xg rfl (xbi (m_at h _ h7 (by omega)) (xbi (m_letter _ hb.1) (xg ((by rw [lv_f L]; decide)) (rfl)))))
/-- a number: held by the class at 1000, by the reference above 999 -/
theorem tk_num (h : byt n b w z) (v1 : Int32) : ∀ (m e x : Nat) (f g : Nat → Int32), e + m = n → x ≤ 10000 → f 1 = nI n → f 4 = nI e → f 5 = nI (min x 1000) → g 7 = nI n → g 8 = nI e → ∃ e' x' f' g', e ≤ e' ∧ e' ≤ n ∧ (isD (b e) → e < n → e < e') ∧ x' ≤ 10000 ∧ xm_E 17 (xc_X1_endNumber.drop 3, [some (xv_r 4 0)], [], wf w f) = some (none, wf w f') ∧ xm_E 173 (xc_X4_next.drop 93, [some (xv_r 9 0), some (xv_i v1)], [], zf z g (lN x)) = some (none, zf z g' (lN x')) ∧ f' 4 = nI e' ∧ g' 8 = nI e' ∧ f' 5 = nI (min x' 1000) ∧ (∀ k, k ≠ 4 → k ≠ 5 → f' k = f k) ∧ ∀ k, k ≠ 8 → g' k = g k := by
  have n120 := h.1
  intro m
  induction m with
  | zero =>
    intro e x f g he hx h1 h4 h5 h7 h8
    have : e = n := by omega
    subst this
    refine ⟨e, x, f, g, Nat.le_refl _, Nat.le_refl _, fun _ q => absurd q (Nat.lt_irrefl _), hx, ?_, ?_, h4, h8, h5, fun _ _ _ => rfl, fun _ _ => rfl⟩
    · rw [xe_X1_endNumber_3, wf_rd, wf_rd, h1, h4]
      exact xg rfl (xg rfl (xg (nI_le (Nat.le_refl _) (by omega)) (rfl)))
    · rw [xe_X4_next_93, zf_rd, h8]
      exact xg rfl (xg rfl (xbi (m_at_e _ h7 (by omega) (Nat.le_refl _) (by omega)) (xbi (m_digit_e _) (xg rfl (rfl)))))
  | succ m ih =>
    intro e x f g he hx h1 h4 h5 h7 h8
    have hb := (h.2 e (by omega))
    have n1 : ¬ nI n ≤ nI e := nI_ge (by omega) (by omega)
    have i4 : xm_in 4 1 (nI e) := xin (vp_in_nI (n := e) (N := 120) (by omega) (by decide)) rfl
    by_cases D : isD (b e)
    · have d1 := D.1
      have d2 := D.2
      have ci := (cmp_gt (lN x) 999).trans (pk_lLT (a := 999) (b := x) (by decide) (by omega))
      have sbv : sb (b e) = nI (b e) := sb_v _ (by omega)
      have key : ∀ x', x' ≤ 10000 → nI (min x' 1000) = (if ((10 * nI (min x 1000)) + nI (b e)) - 48 < 1000 then ((10 * nI (min x 1000)) + nI (b e)) - 48 else 1000) → ∃ e' x'' f' g', e ≤ e' ∧ e' ≤ n ∧ (isD (b e) → e < n → e < e') ∧ x'' ≤ 10000 ∧ xm_E 17 (xc_X1_endNumber.drop 3, [some (xv_r 4 0)], [], wf w (upd (upd f 5 (if ((10 * nI (min x 1000)) + nI (b e)) - 48 < 1000 then ((10 * nI (min x 1000)) + nI (b e)) - 48 else 1000)) 4 (nI (e + 1)))) = some (none, wf w f') ∧ xm_E 173 (xc_X4_next.drop 93, [some (xv_r 9 0), some (xv_i v1)], [], zf z (upd g 8 (nI (e + 1))) (lN x')) = some (none, zf z g' (lN x'')) ∧ f' 4 = nI e' ∧ g' 8 = nI e' ∧ f' 5 = nI (min x'' 1000) ∧ (∀ k, k ≠ 4 → k ≠ 5 → f' k = f k) ∧ ∀ k, k ≠ 8 → g' k = g k := by
        intro x' hx' ev
        obtain ⟨e', x'', f', g', a1, a2, -, a3, a4, a5, a6, a7, a8, a9, a10⟩ := ih (e + 1) x' (upd (upd f 5 (nI (min x' 1000))) 4 (nI (e + 1))) (upd g 8 (nI (e + 1))) (by omega) hx' (by rw [upd_ne (by decide), upd_ne (by decide)]; exact h1) upd_eq (by rw [upd_ne (by decide), upd_eq]) (by rw [upd_ne (by decide)]; exact h7) upd_eq
        rw [ev] at a4
        exact ⟨e', x'', f', g', by omega, a2, fun _ _ => by omega, a3, a4, a5, a6, a7, a8, fun k hk h5 => (a9 k hk h5).trans ((upd_ne hk).trans (upd_ne h5)), fun k hk => (a10 k hk).trans (upd_ne hk)⟩
      have cls : ∀ f', xm_E 17 (xc_X1_endNumber.drop 3, [some (xv_r 4 0)], [], wf w (upd (upd f 5 (if ((10 * nI (min x 1000)) + nI (b e)) - 48 < 1000 then ((10 * nI (min x 1000)) + nI (b e)) - 48 else 1000)) 4 (nI (e + 1)))) = some (none, wf w f') → xm_E 17 (xc_X1_endNumber.drop 3, [some (xv_r 4 0)], [], wf w f) = some (none, wf w f') := by
        intro f' q
        rw [xe_X1_endNumber_3, wf_rd, wf_rd, h1, h4, nI_clamp (n := e) (by omega), wf_b, hb.2.1]
        refine xg rfl (xg rfl (xn n1 (xg rfl (xg rfl (xg i4 (xbi (x_digit _ hb.1) (xn (bI_ne D) (?_))))))))
        rw [wf_rd, wf_rd, h4, h5, nI_clamp (n := e) (by omega), wf_b, hb.2.1]
        refine xg rfl (xg rfl (xg rfl (xg i4 (xg rfl (xlt (xg rfl (xg rfl (xlt (?_)))))))))
        rw [wf_us, wf_rd, upd_ne (by decide), h4, nI_1, wf_us]
        exact q
      have sm : ((10 * nI (min x 1000)) + nI (b e)) - 48 = nI (10 * min x 1000 + b e - 48) := by
        rw [show (10 : Int32) = nI 10 from rfl, pk_mul, nI_add, show (48 : Int32) = nI 48 from rfl, pk_sub (by omega)]
      by_cases c : 999 < x
      · obtain ⟨e', x'', f', g', a1, a2, a3, a4, a5, a6, a7⟩ := key x hx (by
          rw [sm, if_neg (show ¬ nI (10 * min x 1000 + b e - 48) < 1000 from nI_nlt (b := 1000) (by omega) (by omega)), show min x 1000 = 1000 by omega]; rfl)
        refine ⟨e', x'', f', g', a1, a2, a3, a4, cls _ a5, ?_, a7⟩
        rw [xe_X4_next_93, zf_rd, h8]
        refine xg rfl (xg rfl (xbi (m_at h _ h7 (by omega)) (xbi (m_digit _ hb.1) (xn (bI_ne D) (?_)))))
        rw [zf_v]
        refine xg rfl (xn ((fun q => il_len q (ci.mpr c))) (xg rfl (xg rfl (xlt (xg rfl (xg rfl (xlt (?_))))))))
        rw [zf_ul, zf_rd, h8, nI_1, zf_us]
        exact a6
      · obtain ⟨e', x'', f', g', a1, a2, a3, a4, a5, a6, a7⟩ := key (10 * x + b e - 48) (by omega) (by
          rw [sm, show min x 1000 = x by omega]
          by_cases q : 10 * x + b e - 48 < 1000
          · rw [if_pos (show nI (10 * x + b e - 48) < 1000 from nI_lt (b := 1000) q (by decide)), show min (10 * x + b e - 48) 1000 = 10 * x + b e - 48 by omega]
          · rw [if_neg (show ¬ nI (10 * x + b e - 48) < 1000 from nI_nlt (b := 1000) (by omega) (by omega)), show min (10 * x + b e - 48) 1000 = 1000 by omega]; rfl)
        refine ⟨e', x'', f', g', a1, a2, a3, a4, cls _ a5, ?_, a7⟩
        rw [xe_X4_next_93, zf_rd, h8]
        refine xg rfl (xg rfl (xbi (m_at h _ h7 (by omega)) (xbi (m_digit _ hb.1) (xn (bI_ne D) (?_)))))
        rw [zf_v, zf_rd, h8]
        refine xg rfl (xg (il_nlt (fun q => c (ci.mp q))) (xg rfl (xg rfl (xg rfl (xbi (m_at h _ h7 (by omega)) (xg rfl (xlt (xg rfl (xg rfl (xlt (?_)))))))))))
        rw [zf_ul, zf_rd, h8, nI_1, zf_us, sbv, nI_l (by omega), show (10 : Int64) = lN 10 from rfl, show (48 : Int64) = lN 48 from rfl, lN_mul, lN_add, lN_sub (by omega), Nat.mul_comm x 10]
        exact a6
    · refine ⟨e, x, f, g, Nat.le_refl _, by omega, fun q => absurd q D, hx, ?_, ?_, h4, h8, h5, fun _ _ _ => rfl, fun _ _ => rfl⟩
      · rw [xe_X1_endNumber_3, wf_rd, wf_rd, h1, h4, nI_clamp (n := e) (by omega), wf_b, hb.2.1]
        exact xg rfl (xg rfl (xn n1 (xg rfl (xg rfl (xg i4 (xbi (x_digit _ hb.1) (xg (bI_f D) (rfl))))))))
      · rw [xe_X4_next_93, zf_rd, h8]
        exact xg rfl (xg rfl (xbi (m_at h _ h7 (by omega)) (xbi (m_digit _ hb.1) (xg (bI_f D) (rfl)))))
end TT
