/-! TOOLS for runs of the abstract machine: the goal is always 'a run = some (answer, state)' -/
theorem xg {c : Prop} {a b r : Option xm_R} (h : c) (k : a = r) : xm_if c a b = r := (xm_if_t h a b).trans k
theorem xn {c : Prop} {a b r : Option xm_R} (h : ¬ c) (k : b = r) : xm_if c a b = r := (xm_if_f h a b).trans k
theorem xlt {α : Type} {a : α} {f : α → Option xm_R} {r : Option xm_R} (k : f a = r) : xm_let a f = r := k
theorem xbi {q : Option xm_R} {x : Int32} {u : xm_U} {f : Int32 → xm_U → Option xm_R} {r : Option xm_R} (h : q = some (some (xv_i x), u)) (k : f x u = r) : xm_bi q f = r := by rw [h]; exact k
theorem xbl {q : Option xm_R} {x : Int64} {u : xm_U} {f : Int64 → xm_U → Option xm_R} {r : Option xm_R} (h : q = some (some (xv_l x), u)) (k : f x u = r) : xm_bl q f = r := by rw [h]; exact k
theorem xbv {q : Option xm_R} {u : xm_U} {f : xm_U → Option xm_R} {r : Option xm_R} (h : q = some (none, u)) (k : f u = r) : xm_bv q f = r := by rw [h]; exact k
theorem xbc {q : Option xm_R} {x : Nat × Nat} {u : xm_U} {f : Nat × Nat → xm_U → Option xm_R} {r : Option xm_R} (h : q = some (some (.inr (.inr (.inl x))), u)) (k : f x u = r) : xm_bc q f = r := by rw [h]; exact k
theorem xbo {q : Option xm_R} {x : Nat × Nat} {u : xm_U} {f : Nat × Nat → xm_U → Option xm_R} {r : Option xm_R} (h : q = some (some (.inr (.inr (.inr x))), u)) (k : f x u = r) : xm_bo q f = r := by rw [h]; exact k
theorem xm_ite {c : Prop} [h : Decidable c] {a b : Option xm_R} : xm_if c a b = if c then a else b := by
  by_cases hc : c
  · rw [xm_if_t hc, if_pos hc]
  · rw [xm_if_f hc, if_neg hc]
theorem xin {i p n : Nat} {j : Int32} (hj : vp_in j n) (h : xm_ln (xm_cls i) p = some n) : xm_in i p j := ⟨n, h, hj⟩
theorem nb0 : narrow .boolean (.int 0) = .int 0 := by decide
theorem nb1 : narrow .boolean (.int 1) = .int 1 := by decide
/-! reading what was written -/
theorem us_1 (u : xm_U) (i p k : Nat) (x : Int32) : (xm_us u i p k x).1 = fun i' p' k' => if i' = i ∧ p' = p ∧ k' = k then x else u.1 i' p' k' := by
  funext i' p' k'
  unfold xm_us xm_ua
  by_cases h : i' = i ∧ p' = p
  · obtain ⟨rfl, rfl⟩ := h
    by_cases hk : k' = k
    · simp [hk, upd]
    · simp [hk, upd]
  · by_cases h2 : i' = i ∧ p' = p ∧ k' = k
    · exact absurd ⟨h2.1, h2.2.1⟩ h
    · simp [h, h2]
theorem us_at (u : xm_U) (i p k : Nat) (x : Int32) (i' p' k' : Nat) : (xm_us u i p k x).1 i' p' k' = if i' = i ∧ p' = p ∧ k' = k then x else u.1 i' p' k' := by rw [us_1]
theorem us_same (u : xm_U) (i p k : Nat) (x : Int32) : (xm_us u i p k x).1 i p k = x := by simp [us_at]
theorem us_obj (u : xm_U) {i p k : Nat} {x : Int32} {i' : Nat} (h : i' ≠ i) : (xm_us u i p k x).1 i' = u.1 i' := by
  funext p' k'
  rw [us_at, if_neg (fun z => h z.1)]
theorem us_arr (u : xm_U) {i p k : Nat} {x : Int32} {i' p' : Nat} (h : ¬ (i' = i ∧ p' = p)) : (xm_us u i p k x).1 i' p' = u.1 i' p' := by
  funext k'
  rw [us_at, if_neg (fun z => h ⟨z.1, z.2.1⟩)]
theorem us_row (u : xm_U) (i p k : Nat) (x : Int32) : (xm_us u i p k x).1 i p = upd (u.1 i p) k x := xm_ua_same _ _ _
theorem us_2 (u : xm_U) (i p k : Nat) (x : Int32) : (xm_us u i p k x).2 = u.2 := rfl
theorem ua_row (u : xm_U) (i p : Nat) (f : Nat → Int32) : (xm_ua u i p f).1 i p = f := xm_ua_same _ _ _
theorem ua_obj (u : xm_U) {i p : Nat} {f : Nat → Int32} {i' : Nat} (h : i' ≠ i) : (xm_ua u i p f).1 i' = u.1 i' := by
  funext p'
  unfold xm_ua
  simp [h]
theorem ua_arr (u : xm_U) {i p : Nat} {f : Nat → Int32} {i' p' : Nat} (h : ¬ (i' = i ∧ p' = p)) : (xm_ua u i p f).1 i' p' = u.1 i' p' := by
  unfold xm_ua
  simp [h]
/-! small numbers -/
theorem lt_nI {a b : Nat} (h : a < b) (hb : b < 2 ^ 31) : nI a < nI b := nI_lt h hb
theorem il_le (a b : Int32) : a ≤ b ↔ a.toInt ≤ b.toInt := Int32.le_iff_toInt_le
theorem il_lt (a b : Int32) : a < b ↔ a.toInt < b.toInt := Int32.lt_iff_toInt_lt
theorem il_le64 (a b : Int64) : a ≤ b ↔ a.toInt ≤ b.toInt := Int64.le_iff_toInt_le
theorem il_lt64 (a b : Int64) : a < b ↔ a.toInt < b.toInt := Int64.lt_iff_toInt_lt
theorem il_w (a : Int32) : a.toInt64.toInt = a.toInt := by simp
theorem cmp_lt (a b : Int64) : lg_cmp a b < 0 ↔ a < b := lg_cmp_lt a b
theorem cmp_gt (a b : Int64) : 0 < lg_cmp a b ↔ b < a := lg_cmp_gt a b
