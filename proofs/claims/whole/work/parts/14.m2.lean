/-! WHAT THE REFERENCE'S READING METHODS ANSWER, over its row d -/
theorem xm_bi_s (x : Int32) (u : xm_U) (f : Int32 → xm_U → Option xm_R) : xm_bi (some (some (xv_i x), u)) f = f x u := rfl
theorem xm_bv_s (u : xm_U) (f : xm_U → Option xm_R) : xm_bv (some (none, u)) f = f u := rfl
theorem xm_bl_s (x : Int64) (u : xm_U) (f : Int64 → xm_U → Option xm_R) : xm_bl (some (some (xv_l x), u)) f = f x u := rfl
theorem xm_let_s {α : Type} (a : α) (f : α → Option xm_R) : xm_let a f = f a := rfl
theorem xm_if_T {α : Type} (a b : α) : xm_if True a b = a := xm_if_t trivial a b
theorem xm_if_F {α : Type} (a b : α) : xm_if False a b = b := xm_if_f (fun h => h) a b
theorem cls9 : xm_cls 9 = 4 := rfl
theorem cls0 : xm_cls 0 = 3 := rfl
theorem cls4 : xm_cls 4 = 1 := rfl
theorem ne10 : ¬ (10 : Int32) = 0 := by decide
theorem ne5 : ¬ (5 : Int32) = 0 := by decide
theorem ne2 : ¬ (2 : Int32) = 0 := by decide
theorem ne6 : ¬ (6 : Int32) = 0 := by decide
theorem ne100 : ¬ (100 : Int32) = 0 := by decide
theorem ne8 : ¬ (8 : Int32) = 0 := by decide
theorem in9 {j : Int32} (h : vp_in j 89) : xm_in 9 1 j := xin h rfl
theorem in9n {k : Nat} (h : k < 89) : xm_in 9 1 (nI k) := xin (vp_in_nI h (by decide)) rfl
theorem in9_0 : xm_in 9 1 0 := in9n (k := 0) (by decide)
theorem in9_1 : xm_in 9 1 1 := in9n (k := 1) (by decide)
theorem in9_2 : xm_in 9 1 2 := in9n (k := 2) (by decide)
theorem in9_3 : xm_in 9 1 3 := in9n (k := 3) (by decide)
theorem in9_4 : xm_in 9 1 4 := in9n (k := 4) (by decide)
/-- within bounds -/
def bd (x c : Int32) : Prop := 0 ≤ x ∧ x ≤ c
theorem bd_nI {x : Int32} {n : Nat} (hn : n < 2 ^ 31) (h : bd x (nI n)) : ∃ k, k ≤ n ∧ x = nI k := by
  obtain ⟨h1, h2⟩ := h
  obtain ⟨j, hj, e⟩ := nI_of (x := x) (by rw [il_lt]; rw [il_le] at h1; omega)
  refine ⟨j, ?_, e⟩
  rw [e, nI_leI hj hn] at h2
  exact h2
theorem bd_of {k n : Nat} (h : k ≤ n) (hn : n < 2 ^ 31) : bd (nI k) (nI n) := ⟨nI_pos' (by omega), nI_le h hn⟩
def onesN (s : Int32) : Nat → Int32
  | 0 => 0
  | n + 1 => onesN s n + ((s >>> (nI n &&& 31)) &&& 1)
def ones (s : Int32) : Int32 := onesN s 8
theorem m_ones_loop (s : Int32) (u : xm_U) : ∀ (n k : Nat), k + n = 8 → xm_E 121 (xc_X4_ones.drop 4, [some (xv_i s), some (xv_i (onesN s k)), some (xv_i (nI k))], [], u) = some (some (xv_i (ones s)), u) := by
  intro n
  induction n with
  | zero =>
    intro k hk
    have : k = 8 := by omega
    subst this
    rw [xe_X4_ones_4]
    exact xg (by decide) rfl
  | succ n ih =>
    intro k hk
    rw [xe_X4_ones_4]
    refine xn (nI_ge (a := k) (b := 8) (by omega) (by decide)) (xlt ?_)
    rw [nI_1]
    exact ih (k + 1) (by omega)
theorem m_ones (u : xm_U) (s : Int32) : xm_C 121 [xv_i s] u = some (some (xv_i (ones s)), u) := by
  rw [xe_X4_ones]
  exact m_ones_loop s u 8 0 rfl
def insideN (d : Nat → Int32) (h : Int32) : Nat → Int32
  | 0 => 0
  | n + 1 => if d (31 + n) = h then insideN d h n ||| (1 <<< (nI n &&& 31)) else insideN d h n
def inside (d : Nat → Int32) (h : Int32) : Int32 := insideN d h (d 0).toNatClampNeg
theorem or_z (x : Int32) : x ||| 0 = x := by simp
theorem m_inside_loop (h : Int32) (u : xm_U) {N : Nat} (hN : u.1 9 1 0 = nI N) (h8 : N ≤ 8) : ∀ (n k : Nat), k + n = N → xm_E 122 (xc_X4_inside.drop 4, [some (xv_r 9 0), some (xv_i h), some (xv_i (insideN (u.1 9 1) h k)), some (xv_i (nI k))], [], u) = some (some (xv_i (insideN (u.1 9 1) h N)), u) := by
  intro n
  induction n with
  | zero =>
    intro k hk
    have : k = N := by omega
    subst this
    rw [xe_X4_inside_4, hN]
    exact xg rfl (xg in9_0 (xg (nI_le (Nat.le_refl _) (by omega)) rfl))
  | succ n ih =>
    intro k hk
    rw [xe_X4_inside_4, hN]
    refine xg rfl (xg in9_0 (xn (nI_ge (by omega) (by omega)) (xg rfl (xbi (m_its1 u (by omega)) ?_))))
    rw [nI_1]
    have hs := ih (k + 1) (by omega)
    rw [show insideN (u.1 9 1) h (k + 1) = (if u.1 9 1 (31 + k) = h then insideN (u.1 9 1) h k ||| (1 <<< (nI k &&& 31)) else insideN (u.1 9 1) h k) from rfl] at hs
    by_cases e : u.1 9 1 (31 + k) = h
    · rw [if_pos e] at hs
      exact xn (fun z => z e) (xlt hs)
    · rw [if_neg e] at hs
      refine xg e (xlt ?_)
      rw [or_z]
      exact hs
theorem m_inside (h : Int32) (u : xm_U) {N : Nat} (hN : u.1 9 1 0 = nI N) (h8 : N ≤ 8) : xm_C 122 [xv_r 9 0, xv_i h] u = some (some (xv_i (inside (u.1 9 1) h)), u) := by
  rw [xe_X4_inside]
  unfold inside
  rw [hN, nI_clamp (by omega)]
  exact m_inside_loop h u hN h8 N 0 (by omega)
def lo (d : Nat → Int32) (k : Nat) : Int32 := d ((5 + d (31 + k)).toNatClampNeg)
def mo (d : Nat → Int32) (k : Nat) : Int32 := d ((11 + d (31 + k)).toNatClampNeg)
def mapl (L : Int32) : Int32 := if 2 < L then L + 0 else L + 4
def hears (d : Nat → Int32) (k : Nat) : Int32 :=
  if d (23 + k) = 1 then 2 * lo d k else if d (23 + k) = 2 then mapl (lo d k)
  else if d (23 + k) = 3 then mapl (lo d k) + ones (inside d (d (31 + k)) &&& ((1 <<< (nI k &&& 31)) ^^^ (-1)))
  else if d (23 + k) = 4 then 1 else if d (23 + k) = 5 then (if 30 ≤ mo d k then lo d k else 0)
  else if d (23 + k) = 6 then (if ¬ lo d k = 0 then 2 * lo d k - 1 else 0) else lo d k
def folm (x : Int32) : Int32 := if x ≤ 0 then x / 10 + 0 else x / 10 + 1
def follows (d : Nat → Int32) (k : Nat) : Int32 :=
  if d (23 + k) = 1 then (mo d k - d (47 + k)) / 5 else if d (23 + k) = 2 then folm (mo d k - d (47 + k)) else if d (23 + k) = 3 then 2 * folm (mo d k - d (47 + k))
  else if d (23 + k) = 4 then 0 else if d (23 + k) = 5 then (mo d k - d (47 + k)) / 10 else if d (23 + k) = 6 then (mo d k - d (47 + k)) / 5 else (mo d k - d (47 + k)) / 10
def splp (d : Nat → Int32) (k : Nat) : Int32 := if lo d k < 8 then 0 else if ¬ d 1 - d 1 / 5 * 5 = 0 then 0 else 1
def splits (d : Nat → Int32) (k : Nat) : Int32 :=
  if d (23 + k) = 4 then 0 else if d (23 + k) = 5 then d 1 - d 1 / 2 * 2 else if d (23 + k) = 6 then (if ¬ d (47 + k) = 0 then splp d k + 0 else splp d k + 1) else splp d k
def fetp (d : Nat → Int32) (k : Nat) : Int32 := held ((d (39 + k) / 10 + d (47 + k)) - 5 * d (55 + k)) 0 999
def fetches (d : Nat → Int32) (k : Nat) : Int32 :=
  if d (23 + k) = 1 then 2 * fetp d k else if d (23 + k) = 2 then fetp d k + 10 else if d (23 + k) = 3 then fetp d k + 10
  else if d (23 + k) = 4 then 3 * (fetp d k + 10) else if d (23 + k) = 5 then 1 else if d (23 + k) = 6 then 2 * fetp d k else fetp d k
def rpl (d : Nat → Int32) (k : Nat) : Prop := 100 ≤ d (39 + k)
def rsp (d : Nat → Int32) (k : Nat) : Prop := 100 ≤ d (39 + k) ∨ (60 ≤ d (39 + k) ∧ 30 ≤ d (47 + k))
def ringsP (d : Nat → Int32) (k : Nat) : Prop :=
  (d (23 + k) = 1 ∧ rsp d k) ∨ (d (23 + k) = 6 ∧ rsp d k ∧ d (55 + k) ≤ 2) ∨ (d (23 + k) = 3 ∧ rpl d k ∧ 20 ≤ d (63 + k)) ∨ (d (23 + k) = 4 ∧ 40 ≤ d (63 + k)) ∨
  (¬ d (23 + k) = 1 ∧ ¬ d (23 + k) = 6 ∧ ¬ d (23 + k) = 3 ∧ ¬ d (23 + k) = 4 ∧ ¬ d (23 + k) = 5 ∧ rpl d k)
/-- the numbers of a row that is as it must be: place by place -/
def okb (j : Nat) (x : Int32) : Prop :=
  if j = 2 then True else if j = 1 ∨ j = 3 then bd x 99999 else if j = 4 then 2 ≤ x ∧ x ≤ 60 else if j < 11 then bd x 9 else if j < 17 then bd x 99 else if j < 23 then bd x 599 else if j < 31 then bd x 6 else if j < 39 then bd x 5 else if j < 47 then bd x 999 else if j < 55 then bd x 99 else if j < 63 then bd x 9 else bd x 9999
def inv (d : Nat → Int32) : Prop := bd (d 0) 8 ∧ (∀ j, 1 ≤ j → j < 79 → okb j (d j)) ∧ ∀ s, s < 10 → bd (d (79 + s)) (d 0)
theorem okb_5 {h : Nat} (hk : h < 6) (x : Int32) : okb (5 + h) x ↔ bd x 9 := by
  unfold okb
  rw [if_neg (by omega), if_neg (by omega), if_neg (by omega), if_pos (by omega)]
theorem okb_11 {h : Nat} (hk : h < 6) (x : Int32) : okb (11 + h) x ↔ bd x 99 := by
  unfold okb
  rw [if_neg (by omega), if_neg (by omega), if_neg (by omega), if_neg (by omega), if_pos (by omega)]
theorem okb_17 {h : Nat} (hk : h < 6) (x : Int32) : okb (17 + h) x ↔ bd x 599 := by
  unfold okb
  rw [if_neg (by omega), if_neg (by omega), if_neg (by omega), if_neg (by omega), if_neg (by omega), if_pos (by omega)]
theorem okb_23 {k : Nat} (hk : k < 8) (x : Int32) : okb (23 + k) x ↔ bd x 6 := by
  unfold okb
  rw [if_neg (by omega), if_neg (by omega), if_neg (by omega), if_neg (by omega), if_neg (by omega), if_neg (by omega), if_pos (by omega)]
theorem okb_31 {k : Nat} (hk : k < 8) (x : Int32) : okb (31 + k) x ↔ bd x 5 := by
  unfold okb
  rw [if_neg (by omega), if_neg (by omega), if_neg (by omega), if_neg (by omega), if_neg (by omega), if_neg (by omega), if_neg (by omega), if_pos (by omega)]
theorem okb_39 {k : Nat} (hk : k < 8) (x : Int32) : okb (39 + k) x ↔ bd x 999 := by
  unfold okb
  rw [if_neg (by omega), if_neg (by omega), if_neg (by omega), if_neg (by omega), if_neg (by omega), if_neg (by omega), if_neg (by omega), if_neg (by omega), if_pos (by omega)]
theorem okb_47 {k : Nat} (hk : k < 8) (x : Int32) : okb (47 + k) x ↔ bd x 99 := by
  unfold okb
  rw [if_neg (by omega), if_neg (by omega), if_neg (by omega), if_neg (by omega), if_neg (by omega), if_neg (by omega), if_neg (by omega), if_neg (by omega), if_neg (by omega), if_pos (by omega)]
theorem okb_55 {k : Nat} (hk : k < 8) (x : Int32) : okb (55 + k) x ↔ bd x 9 := by
  unfold okb
  rw [if_neg (by omega), if_neg (by omega), if_neg (by omega), if_neg (by omega), if_neg (by omega), if_neg (by omega), if_neg (by omega), if_neg (by omega), if_neg (by omega), if_neg (by omega), if_pos (by omega)]
theorem okb_63 {k : Nat} (hk : k < 8) (x : Int32) : okb (63 + k) x ↔ bd x 9999 := by
  unfold okb
  rw [if_neg (by omega), if_neg (by omega), if_neg (by omega), if_neg (by omega), if_neg (by omega), if_neg (by omega), if_neg (by omega), if_neg (by omega), if_neg (by omega), if_neg (by omega), if_neg (by omega)]
theorem okb_71 {k : Nat} (hk : k < 8) (x : Int32) : okb (71 + k) x ↔ bd x 9999 := by
  unfold okb
  rw [if_neg (by omega), if_neg (by omega), if_neg (by omega), if_neg (by omega), if_neg (by omega), if_neg (by omega), if_neg (by omega), if_neg (by omega), if_neg (by omega), if_neg (by omega), if_neg (by omega)]
theorem okb_1 (x : Int32) : okb 1 x ↔ bd x 99999 := Iff.rfl
theorem okb_3 (x : Int32) : okb 3 x ↔ bd x 99999 := Iff.rfl
theorem okb_4 (x : Int32) : okb 4 x ↔ (2 ≤ x ∧ x ≤ 60) := Iff.rfl
theorem okb_2 (x : Int32) : okb 2 x := trivial
theorem inv_upd {d : Nat → Int32} (h : inv d) {j : Nat} {x : Int32} (h1 : 1 ≤ j) (h2 : j < 79) (hx : okb j x) : inv (upd d j x) := by
  refine ⟨?_, fun i hi1 hi2 => ?_, fun s hs => ?_⟩
  · rw [show upd d j x 0 = d 0 from if_neg (by omega)]; exact h.1
  · by_cases e : i = j
    · subst e
      rw [show upd d i x i = x from if_pos rfl]; exact hx
    · rw [show upd d j x i = d i from if_neg e]; exact h.2.1 i hi1 hi2
  · rw [show upd d j x 0 = d 0 from if_neg (by omega), show upd d j x (79 + s) = d (79 + s) from if_neg (by omega)]; exact h.2.2 s hs
theorem inv_N {d : Nat → Int32} (h : inv d) : ∃ N, N ≤ 8 ∧ d 0 = nI N := bd_nI (n := 8) (by decide) h.1
theorem inv_H {d : Nat → Int32} (h : inv d) {k : Nat} (hk : k < 8) : ∃ j, j < 6 ∧ d (31 + k) = nI j := by
  obtain ⟨j, h1, h2⟩ := bd_nI (n := 5) (by decide) ((okb_31 hk _).mp (h.2.1 (31 + k) (by omega) (by omega)))
  exact ⟨j, by omega, h2⟩
theorem ad_nI (a : Nat) (j : Nat) : nI a + nI j = nI (a + j) := nI_add a j
theorem in9_h {d : Nat → Int32} (h : inv d) {k : Nat} (hk : k < 8) : xm_in 9 1 (5 + d (31 + k)) ∧ xm_in 9 1 (11 + d (31 + k)) := by
  obtain ⟨j, hj, e⟩ := inv_H h hk
  rw [e, show (5 : Int32) = nI 5 from rfl, show (11 : Int32) = nI 11 from rfl, nI_add, nI_add]
  exact ⟨in9n (by omega), in9n (by omega)⟩
theorem m_hears (u : xm_U) (h : inv (u.1 9 1)) {k : Nat} (hk : k < 8) : xm_C 123 [xv_r 9 0, xv_i (nI k)] u = some (some (xv_i (hears (u.1 9 1) k)), u) := by
  obtain ⟨N, h8, hN⟩ := inv_N h
  obtain ⟨h5, h11⟩ := in9_h h hk
  rw [xe_X4_hears]
  simp only [xm_bi_s, xm_bv_s, xm_let_s, cls9, xm_if_T, nb0, nb1, ne10, ne5, ne2, in9_0, in9_1, not_true_eq_false, not_false_eq_true, m_its0 u hk, m_its1 u hk, h5, h11, m_inside _ u hN h8, m_ones]
  simp only [xm_ite]
  unfold hears mapl lo mo
  repeat (split <;> try rfl)
  all_goals simp_all
theorem m_follows (u : xm_U) (h : inv (u.1 9 1)) {k : Nat} (hk : k < 8) : xm_C 124 [xv_r 9 0, xv_i (nI k)] u = some (some (xv_i (follows (u.1 9 1) k)), u) := by
  obtain ⟨h5, h11⟩ := in9_h h hk
  rw [xe_X4_follows]
  simp only [xm_bi_s, xm_bv_s, xm_let_s, cls9, xm_if_T, nb0, nb1, ne10, ne5, ne2, in9_0, in9_1, not_true_eq_false, not_false_eq_true, m_its0 u hk, m_its1 u hk, m_its3 u hk, h11]
  simp only [xm_ite]
  unfold follows folm mo
  repeat (split <;> try rfl)
  all_goals simp_all
theorem m_splits (u : xm_U) (h : inv (u.1 9 1)) {k : Nat} (hk : k < 8) : xm_C 126 [xv_r 9 0, xv_i (nI k)] u = some (some (xv_i (splits (u.1 9 1) k)), u) := by
  obtain ⟨h5, h11⟩ := in9_h h hk
  rw [xe_X4_splits]
  simp only [xm_bi_s, xm_bv_s, xm_let_s, cls9, xm_if_T, nb0, nb1, ne10, ne5, ne2, in9_0, in9_1, not_true_eq_false, not_false_eq_true, m_its0 u hk, m_its1 u hk, m_its3 u hk, h5]
  simp only [xm_ite]
  unfold splits splp lo
  repeat (split <;> try rfl)
  all_goals simp_all
theorem m_fetches (u : xm_U) (h : inv (u.1 9 1)) {k : Nat} (hk : k < 8) : xm_C 127 [xv_r 9 0, xv_i (nI k)] u = some (some (xv_i (fetches (u.1 9 1) k)), u) := by
  rw [xe_X4_fetches]
  simp only [xm_bi_s, xm_bv_s, xm_let_s, cls9, xm_if_T, nb0, nb1, ne10, ne5, ne2, in9_0, in9_1, not_true_eq_false, not_false_eq_true, m_its0 u hk, m_its2 u hk, m_its3 u hk, m_its4 u hk, m_held]
  simp only [xm_ite]
  unfold fetches fetp
  repeat (split <;> try rfl)
  all_goals simp_all
/-- RINGS, as 1 or 0 -/
noncomputable def ringsI (d : Nat → Int32) (k : Nat) : Int32 := @ite _ (ringsP d k) (Classical.propDecidable _) 1 0
theorem ringsI_t {d : Nat → Int32} {k : Nat} (h : ringsP d k) : ringsI d k = 1 := if_pos h
theorem ringsI_f {d : Nat → Int32} {k : Nat} (h : ¬ ringsP d k) : ringsI d k = 0 := if_neg h
theorem il_nlt {a b : Int32} (h : ¬ a < b) : b ≤ a := by rw [il_lt] at h; rw [il_le]; omega
theorem il_nle {a b : Int32} (h : ¬ a ≤ b) : b < a := by rw [il_le] at h; rw [il_lt]; omega
theorem il_ltn {a b : Int32} (h : a < b) : ¬ b ≤ a := by rw [il_lt] at h; rw [il_le]; omega
theorem il_len {a b : Int32} (h : a ≤ b) : ¬ b < a := by rw [il_le] at h; rw [il_lt]; omega
theorem m_isRinging_26 (u : xm_U) {k : Nat} (hk : k < 8) (v2 s0 v3 : Int32) (h3 : (v3 = 1 ∧ rpl (u.1 9 1) k) ∨ (v3 = 0 ∧ ¬ rpl (u.1 9 1) k)) (h0 : (s0 = 1 ∧ rsp (u.1 9 1) k) ∨ (s0 = 0 ∧ ¬ rsp (u.1 9 1) k)) : xm_E 125 (xc_X4_isRinging.drop 26, [some (xv_r 9 0), some (xv_i (nI k)), some (xv_i v2), some (xv_i v3), none], [xv_i s0], u) = some (some (xv_i (ringsI (u.1 9 1) k)), u) := by
  rw [xe_X4_isRinging_26]
  simp only [xm_bi_s, xm_bv_s, xm_let_s, cls9, xm_if_T, nb0, nb1, ne10, ne5, ne2, in9_0, in9_1, not_true_eq_false, not_false_eq_true, m_its0 u hk, m_its4 u hk, m_its5 u hk]
  generalize u.1 9 1 = d at *
  have d10 : ¬ (1 : Int32) = 0 := by decide
  by_cases e1 : d (23 + k) = 1
  · have n6 : ¬ d (23 + k) = 6 := by rw [e1]; decide
    have n3 : ¬ d (23 + k) = 3 := by rw [e1]; decide
    have n4 : ¬ d (23 + k) = 4 := by rw [e1]; decide
    refine xg e1 ?_
    rcases h0 with ⟨rfl, h0⟩ | ⟨rfl, h0⟩
    · rw [ringsI_t (Or.inl ⟨e1, h0⟩)]; exact xg nb1 rfl
    · rw [ringsI_f (by unfold ringsP; simp [e1, h0])]; exact xg nb0 rfl
  refine xn e1 ?_
  by_cases e2 : d (23 + k) = 2
  · have q : ringsP d k ↔ rpl d k := by unfold ringsP; simp [e2]
    refine xg e2 ?_
    rcases h3 with ⟨rfl, h3⟩ | ⟨rfl, h3⟩
    · rw [ringsI_t (q.mpr h3)]; exact xg nb1 rfl
    · rw [ringsI_f (fun z => h3 (q.mp z))]; exact xg nb0 rfl
  refine xn e2 ?_
  by_cases e3 : d (23 + k) = 3
  · have q : ringsP d k ↔ (rpl d k ∧ 20 ≤ d (63 + k)) := by unfold ringsP; simp [e3]
    refine xg e3 ?_
    rcases h3 with ⟨rfl, h3⟩ | ⟨rfl, h3⟩
    · refine xn d10 ?_
      by_cases a : d (63 + k) < 20
      · rw [ringsI_f (fun z => il_ltn a (q.mp z).2)]; exact xg a rfl
      · rw [ringsI_t (q.mpr ⟨h3, il_nlt a⟩)]; exact xn a rfl
    · rw [ringsI_f (fun z => h3 (q.mp z).1)]; exact xg rfl rfl
  refine xn e3 ?_
  by_cases e4 : d (23 + k) = 4
  · have q : ringsP d k ↔ 40 ≤ d (63 + k) := by unfold ringsP; simp [e4]
    refine xg e4 ?_
    by_cases a : d (63 + k) < 40
    · rw [ringsI_f (fun z => il_ltn a (q.mp z))]; exact xg a rfl
    · rw [ringsI_t (q.mpr (il_nlt a))]; exact xn a rfl
  refine xn e4 ?_
  by_cases e5 : d (23 + k) = 5
  · have q : ¬ ringsP d k := by unfold ringsP; simp [e5]
    rw [ringsI_f q]
    exact xg e5 rfl
  refine xn e5 ?_
  by_cases e6 : d (23 + k) = 6
  · have q : ringsP d k ↔ (rsp d k ∧ d (55 + k) ≤ 2) := by unfold ringsP; simp [e6]
    refine xg e6 ?_
    rcases h0 with ⟨rfl, h0⟩ | ⟨rfl, h0⟩
    · refine xn d10 ?_
      by_cases a : 2 < d (55 + k)
      · rw [ringsI_f (fun z => il_ltn a (q.mp z).2)]; exact xg a rfl
      · rw [ringsI_t (q.mpr ⟨h0, il_nlt a⟩)]; exact xn a rfl
    · rw [ringsI_f (fun z => h0 (q.mp z).1)]; exact xg rfl rfl
  refine xn e6 ?_
  have q : ringsP d k ↔ rpl d k := by unfold ringsP; simp [e1, e3, e4, e5, e6]
  rcases h3 with ⟨rfl, h3⟩ | ⟨rfl, h3⟩
  · rw [ringsI_t (q.mpr h3)]; exact xg nb1 rfl
  · rw [ringsI_f (fun z => h3 (q.mp z))]; exact xg nb0 rfl
theorem m_isRinging (u : xm_U) {k : Nat} (hk : k < 8) : xm_C 125 [xv_r 9 0, xv_i (nI k)] u = some (some (xv_i (ringsI (u.1 9 1) k)), u) := by
  rw [xe_X4_isRinging]
  refine xg rfl (xbi (m_its2 u hk) ?_)
  by_cases a : u.1 9 1 (39 + k) < 100
  · refine xg a ?_
    have hr : ¬ rpl (u.1 9 1) k := il_ltn a
    rw [xe_X4_isRinging_11]
    refine xn (fun z => z rfl) ?_
    by_cases b : u.1 9 1 (39 + k) < 60
    · refine xg b (m_isRinging_26 u hk _ _ _ (Or.inr ⟨rfl, hr⟩) (Or.inr ⟨rfl, fun z => ?_⟩))
      rcases z with z | z
      · exact hr z
      · exact il_ltn b z.1
    · refine xn b (xg rfl (xbi (m_its3 u hk) ?_))
      by_cases c : u.1 9 1 (47 + k) < 30
      · refine xg c (m_isRinging_26 u hk _ _ _ (Or.inr ⟨rfl, hr⟩) (Or.inr ⟨rfl, fun z => ?_⟩))
        rcases z with z | z
        · exact hr z
        · exact il_ltn c z.2
      · exact xn c (m_isRinging_26 u hk _ _ _ (Or.inr ⟨rfl, hr⟩) (Or.inl ⟨rfl, Or.inr ⟨il_nlt b, il_nlt c⟩⟩))
  · refine xn a ?_
    have hr : rpl (u.1 9 1) k := il_nlt a
    rw [xe_X4_isRinging_11]
    exact xg (by decide) (m_isRinging_26 u hk _ _ _ (Or.inl ⟨rfl, hr⟩) (Or.inl ⟨rfl, Or.inl hr⟩))
