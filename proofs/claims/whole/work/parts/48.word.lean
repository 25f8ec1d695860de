/-! WORDS -/
def chN (q i : Nat) : Nat := ((xm_byt.getD q []).getD i 0).toInt.toNat
def lnN (q : Nat) : Nat := xm_len.getD q 0
theorem ch_ok : ∀ q, q < 15 → ∀ i, i < lnN q → 97 ≤ chN q i ∧ chN q i ≤ 122 := by decide +kernel
theorem ch_nI : ∀ q, q < 15 → ∀ i, i < lnN q → ((((xm_byt.getD q []).getD i 0) &&& 255).toUInt32 % 65536).toInt32 = nI (chN q i) := by decide +kernel
theorem ln_nI : ∀ q, q < 15 → (Int32.ofNat (xm_len.getD q 0)) >>> ((0 : Int32) &&& 31) = nI (lnN q) := by decide +kernel
theorem ln_le : ∀ q, q < 15 → lnN q ≤ 6 := by decide +kernel
theorem x_coder (u : xm_U) {q : Nat} (hq : q < 15) : xm_C 47 [xv_o 1 q] u = some (some (xv_i 0), u) := by
  rw [xe_J0_coder_7d493]
  exact xn (by decide) (xg hq (xg ((by decide)) (rfl)))
theorem x_latin (u : xm_U) {q : Nat} (hq : q < 15) : xm_C 48 [xv_o 1 q] u = some (some (xv_i 1), u) := by
  rw [xe_J0_isLatin1_aae02]
  exact xn (by decide) (xg hq (xn (by decide) (xg nb1 (rfl))))
theorem x_length (u : xm_U) {q : Nat} (hq : q < 15) : xm_C 45 [xv_o 1 q] u = some (some (xv_i (nI (lnN q))), u) := by
  rw [xe_J0_length_8abf5, ← ln_nI q hq]
  exact xg hq (xg hq (xg hq (xbi (x_coder _ hq) (rfl))))
theorem x_char (u : xm_U) {q i : Nat} (hq : q < 15) (hi : i < lnN q) : xm_C 46 [xv_o 1 q, xv_i (nI i)] u = some (some (xv_i (nI (chN q i))), u) := by
  have l6 := ln_le q hq
  have c3 : xm_C 51 [xv_i (nI i), xv_i (nI (lnN q)), xv_o 3 0] u = some (some (xv_i (nI i)), u) := by
    rw [xe_J3_checkIndex_8e157]
    exact xn (nI_pos (by omega)) (xg (nI_lt hi (by omega)) (rfl))
  have c2 : xm_C 49 [xv_i (nI i), xv_i (nI (lnN q))] u = some (none, u) := by
    rw [xe_J0_checkIndex_df160]
    exact xbi c3 (rfl)
  have c1 : xm_C 50 [xv_o 2 q, xv_i (nI i)] u = some (some (xv_i (nI (chN q i))), u) := by
    rw [xe_J1_charAt_3b067, nI_clamp (by omega), ← ch_nI q hq i hi]
    exact xg hq (xbv c2 (xg (⟨hq, show vp_in (nI i) (lnN q) from vp_in_nI hi (by omega)⟩) (xg (pk_nc _) (rfl))))
  rw [xe_J0_charAt_5068e]
  refine xg hq (xbi (x_latin _ hq) (?_))
  refine xn (by decide) (xg hq (xbi c1 (xg ?_ rfl)))
  rw [← ch_nI q hq i hi]
  exact pk_nc _
def wEq (b : Nat → Nat) (s e q : Nat) : Prop := e - s = lnN q ∧ ∀ j, j < lnN q → b (s + j) = chN q j
section WW
variable {n : Nat} {b : Nat → Nat} {w z : xm_U} {f g : Nat → Int32} {v : Int64} {t s e : Nat}
theorem x_word_loop (h : byt n b w z) (tk : tok n b f g v t s e) {q : Nat} (hq : q < 15) (hl : e - s = lnN q) : ∀ (m i : Nat), i + m = lnN q → (∀ j, j < i → b (s + j) = chN q j) → xm_E 14 (xc_X1_isWord.drop 16, [some (xv_r 4 0), some (xv_o 1 q), some (xv_i (nI i))], [], wf w f) = some (some (xv_i (bI (∀ j, j < lnN q → b (s + j) = chN q j))), wf w f) := by
  have n120 := h.1
  have l6 := ln_le q hq
  obtain ⟨k1, k2, -, -, -, ⟨k3, -⟩, -⟩ := tk
  intro m
  induction m with
  | zero =>
    intro i hi hj
    have : i = lnN q := by omega
    rw [this] at hj ⊢
    rw [xe_X1_isWord_16, bI_t hj]
    exact xg hq (xbi (x_length _ hq) (xg (nI_le (Nat.le_refl _) (by omega)) (xg nb1 (rfl))))
  | succ m ih =>
    intro i hi hj
    have hb := h.2 (s + i) (by omega)
    have cq := ch_ok q hq i (by omega)
    have i4 : xm_in 4 1 (nI (s + i)) := xin (vp_in_nI (n := s + i) (N := 120) (by omega) (by decide)) rfl
    rw [xe_X1_isWord_16]
    refine xg hq (xbi (x_length _ hq) (xn (nI_ge (by omega) (by omega)) (?_)))
    rw [wf_rd, k3, nI_add]
    refine xg rfl (xg rfl (xg i4 (xg hq (xbi (x_char _ hq (by omega)) (?_)))))
    rw [nI_clamp (by omega), wf_b, hb.2.1, nI_1]
    by_cases c : b (s + i) = chN q i
    · refine xg (by rw [c]) (ih (i + 1) (by omega) (fun j hj2 => ?_))
      by_cases d : j = i
      · subst d; exact c
      · exact hj j (by omega)
    · rw [bI_f (fun z => c (z i (by omega)))]
      exact xn (fun z => c ((nI_eq (by omega) (by omega)).mp z)) (xg nb0 rfl)
theorem x_isWord (h : byt n b w z) (tk : tok n b f g v t s e) {q : Nat} (hq : q < 15) : xm_C 14 [xv_r 4 0, xv_o 1 q] (wf w f) = some (some (xv_i (bI (t = 1 ∧ wEq b s e q))), wf w f) := by
  have n120 := h.1
  have l6 := ln_le q hq
  have tk' := tk
  obtain ⟨k1, k2, k0, -, ⟨k5, -⟩, ⟨k3, -⟩, k4, -⟩ := tk
  rw [xe_X1_isWord, wf_rd, k5]
  by_cases c : t = 1
  · by_cases d : e - s = lnN q
    · have e1 := x_word_loop h tk' hq d (lnN q) 0 (by omega) (fun j hj => absurd hj (Nat.not_lt_zero j))
      have ep : bI (t = 1 ∧ wEq b s e q) = bI (∀ j, j < lnN q → b (s + j) = chN q j) := by
        congr 1
        apply propext
        exact ⟨fun z => z.2.2, fun z => ⟨c, d, z⟩⟩
      rw [ep]
      refine xg rfl (xn ((fun z => z (by rw [c]; rfl))) (xg hq (xbi (x_length _ hq) (?_))))
      rw [wf_rd, wf_rd, k3, k4, pk_sub k1, d]
      exact xg rfl (xg rfl (xg rfl e1))
    · rw [bI_f (fun z => d z.2.1)]
      refine xg rfl (xn ((fun z => z (by rw [c]; rfl))) (xg hq (xbi (x_length _ hq) (?_))))
      rw [wf_rd, wf_rd, k3, k4, pk_sub k1]
      exact xg rfl (xg rfl (xn (fun z => d ((nI_eq (by omega) (by omega)).mp z).symm) (xg nb0 rfl)))
  · rw [bI_f (fun z => c z.1)]
    exact xg rfl (xg ((fun z => c ((nI_eq (b := 1) (by omega) (by decide)).mp z))) (xg nb0 (rfl)))
/-! the reference's numbers of words -/
def pvN (c : Nat → Nat) : Nat → Nat
  | 0 => 0
  | k + 1 => pvN c k * 27 + (c k - 96)
def wqN (q : Nat) : Nat := pvN (chN q) (lnN q)
theorem wq_le : ∀ q, q < 15 → wqN q ≤ 100000000000000000 := by decide +kernel
theorem pv_inj (b : Nat → Nat) (s : Nat) (c : Nat → Nat) : ∀ (k l : Nat), vW b s k = pvN c l → pvN c l ≤ 100000000000000000 → (∀ i, i < k → isL (b (s + i))) → (∀ i, i < l → 97 ≤ c i ∧ c i ≤ 122) → k = l ∧ ∀ i, i < l → b (s + i) = c i := by
  intro k
  induction k with
  | zero =>
    intro l h1 h2 h3 h4
    cases l with
    | zero => exact ⟨rfl, fun i hi => absurd hi (Nat.not_lt_zero i)⟩
    | succ l =>
      have := h4 l (by omega)
      unfold vW pvN at h1
      omega
  | succ k ih =>
    intro l h1 h2 h3 h4
    by_cases q : 100000000000000000 < vW b s k
    · rw [vW_s q] at h1
      omega
    · rw [vW_t q] at h1
      have hk := h3 k (by omega)
      have hk1 := hk.1
      have hk2 := hk.2
      rw [lv_t hk] at h1
      cases l with
      | zero => unfold pvN at h1; omega
      | succ l =>
        have hl := h4 l (by omega)
        have e1 : pvN c (l + 1) = pvN c l * 27 + (c l - 96) := rfl
        rw [e1] at h1 h2
        have e2 : vW b s k = pvN c l := by omega
        obtain ⟨a1, a2⟩ := ih l e2 (by omega) (fun i hi => h3 i (by omega)) (fun i hi => h4 i (by omega))
        refine ⟨by omega, fun i hi => ?_⟩
        by_cases d : i = l
        · subst d
          rw [← a1]
          rw [a1] at hk1 hk2
          rw [a1] at h1
          rw [a1]
          omega
        · exact a2 i (by omega)
theorem pv_eq (b : Nat → Nat) (s : Nat) (c : Nat → Nat) : ∀ (l : Nat), pvN c l ≤ 100000000000000000 → (∀ i, i < l → 97 ≤ c i ∧ c i ≤ 122) → (∀ i, i < l → b (s + i) = c i) → vW b s l = pvN c l := by
  intro l
  induction l with
  | zero => intro _ _ _; rfl
  | succ l ih =>
    intro h2 h4 h5
    have e1 : pvN c (l + 1) = pvN c l * 27 + (c l - 96) := rfl
    rw [e1] at h2 ⊢
    have e2 := ih (by omega) (fun i hi => h4 i (by omega)) (fun i hi => h5 i (by omega))
    have hl := h4 l (by omega)
    rw [vW_t (by omega), e2, h5 l (by omega), lv_t hl]
theorem word_iff (h1 : s ≤ e) (hL : ∀ k, s ≤ k → k < e → isL (b k)) {q : Nat} (hq : q < 15) : vW b s (e - s) = wqN q ↔ wEq b s e q := by
  constructor
  · intro h
    obtain ⟨a1, a2⟩ := pv_inj b s (chN q) (e - s) (lnN q) h (wq_le q hq) (fun i hi => hL (s + i) (by omega) (by omega)) (ch_ok q hq)
    exact ⟨a1, a2⟩
  · rintro ⟨a1, a2⟩
    rw [a1]
    exact pv_eq b s (chN q) (lnN q) (wq_le q hq) (ch_ok q hq) a2
theorem m_isWord (tk : tok n b f g v t s e) {q : Nat} (hq : q < 15) : xm_C 175 [xv_r 9 0, xv_l (lN (wqN q))] (zf z g v) = some (some (xv_i (bI (t = 1 ∧ wEq b s e q))), zf z g v) := by
  obtain ⟨k1, k2, k0, -, ⟨-, k5⟩, -, -, -, -, k6, -⟩ := tk
  rw [xe_X4_isWord, zf_rd, k5]
  by_cases c : t = 1
  · obtain ⟨a1, a2⟩ := k6 c
    have wi := word_iff k1 a2 hq
    have vl := vW_le b s (e - s)
    have wl := wq_le q hq
    have ce : lg_cmp v (lN (wqN q)) = 0 ↔ vW b s (e - s) = wqN q := by
      rw [a1]
      constructor
      · intro z
        have n1 : ¬ lg_cmp (lN (vW b s (e - s))) (lN (wqN q)) < 0 := by rw [z]; decide
        have n2 : ¬ 0 < lg_cmp (lN (vW b s (e - s))) (lN (wqN q)) := by rw [z]; decide
        rw [cmp_lt, pk_lLT (by omega) (by omega)] at n1
        rw [cmp_gt, pk_lLT (by omega) (by omega)] at n2
        omega
      · intro z
        rw [z]
        have n1 : ¬ lg_cmp (lN (wqN q)) (lN (wqN q)) < 0 := by rw [cmp_lt, pk_lLT (by omega) (by omega)]; omega
        have n2 : ¬ 0 < lg_cmp (lN (wqN q)) (lN (wqN q)) := by rw [cmp_gt, pk_lLT (by omega) (by omega)]; omega
        apply Int32.toInt_inj.mp
        rw [il_lt] at n1 n2
        rw [show (0 : Int32).toInt = 0 from rfl] at *
        omega
    by_cases d : wEq b s e q
    · rw [bI_t ⟨c, d⟩]
      refine xg rfl (xn ((fun z => z (by rw [c]; rfl))) (?_))
      rw [zf_v]
      exact xg rfl (xn (fun z => z (ce.mpr (wi.mpr d))) (xg nb1 rfl))
    · rw [bI_f (fun z => d z.2)]
      refine xg rfl (xn ((fun z => z (by rw [c]; rfl))) (?_))
      rw [zf_v]
      exact xg rfl (xg (fun z => d (wi.mp (ce.mp z))) (xg nb0 rfl))
  · rw [bI_f (fun z => c z.1)]
    exact xg rfl (xg ((fun z => c ((nI_eq (b := 1) (by omega) (by decide)).mp z))) (xg nb0 (rfl)))
end WW

theorem wq_0 : lN (wqN 0) = 281501978 := by rw [show wqN 0 = 281501978 by decide +kernel]; rfl
theorem wq_1 : lN (wqN 1) = 6940409 := by rw [show wqN 1 = 6940409 by decide +kernel]; rfl
theorem wq_2 : lN (wqN 2) = 318618 := by rw [show wqN 2 = 318618 by decide +kernel]; rfl
theorem wq_3 : lN (wqN 3) = 2707909 := by rw [show wqN 3 = 2707909 by decide +kernel]; rfl
theorem wq_4 : lN (wqN 4) = 82416 := by rw [show wqN 4 = 82416 by decide +kernel]; rfl
theorem wq_5 : lN (wqN 5) = 4635 := by rw [show wqN 5 = 4635 by decide +kernel]; rfl
theorem wq_6 : lN (wqN 6) = 8740370 := by rw [show wqN 6 = 8740370 by decide +kernel]; rfl
theorem wq_7 : lN (wqN 7) = 257 := by rw [show wqN 7 = 257 by decide +kernel]; rfl
theorem wq_8 : lN (wqN 8) = 4075367 := by rw [show wqN 8 = 4075367 by decide +kernel]; rfl
theorem wq_9 : lN (wqN 9) = 404978 := by rw [show wqN 9 = 404978 by decide +kernel]; rfl
theorem wq_10 : lN (wqN 10) = 4562600 := by rw [show wqN 10 = 4562600 by decide +kernel]; rfl
theorem wq_11 : lN (wqN 11) = 247702 := by rw [show wqN 11 = 247702 by decide +kernel]; rfl
theorem wq_12 : lN (wqN 12) = 267223 := by rw [show wqN 12 = 267223 by decide +kernel]; rfl
theorem wq_13 : lN (wqN 13) = 3094274 := by rw [show wqN 13 = 3094274 by decide +kernel]; rfl
theorem wq_14 : lN (wqN 14) = 99233 := by rw [show wqN 14 = 99233 by decide +kernel]; rfl
