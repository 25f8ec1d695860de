/-! THE WORLD of the abstract machine: its cells, at addresses ad (i, p); constant cells at ro (i, p) -/
def xm_cv (ad ro : Nat × Nat → Nat) (vq : Value) : xm_V → Value
  | .inl x => .int x
  | .inr (.inl x) => .long x
  | .inr (.inr (.inl q)) => .ref (ad q)
  | .inr (.inr (.inr (3, _))) => vq
  | .inr (.inr (.inr q)) => .ref (ro q)
def xm_fv (ad : Nat × Nat → Nat) (u : xm_U) (i k : Nat) : Value := match xm_fk (xm_cls i) k with
  | 0 => .ref (ad (i, k + 1))
  | 2 => .long u.2.1
  | 4 => .ref (ad (xm_ft k, 0))
  | _ => .int (u.1 i 0 k)
def xm_ct (ad : Nat × Nat → Nat) (cA : Nat → ClassId) (u : xm_U) (q : Nat × Nat) : va_E :=
  if q.2 = 0 then .inr (xm_cls q.1, (List.range (xm_nf (xm_cls q.1))).map (xm_fv ad u q.1))
  else if q = (9, 7) then .inl (cA 1, 120, .inl (u.1 9 7))
  else if q = (0, 6) then .inl (cA 2, 4, .inr (.inr (.inr (.inr (fun j => some (ad (5 + j, 0)))))))
  else .inl (cA 0, (xm_ln (xm_cls q.1) q.2).getD 0, .inl (u.1 q.1 q.2))
def xm_pl : List (Nat × Nat) := [(0, 0), (0, 6), (0, 7),
  (1, 0), (1, 1), (1, 2), (1, 3), (1, 9), (1, 10), (1, 11), (1, 12), (1, 13), (1, 14), (1, 15), (1, 16),
  (2, 0), (2, 1), (2, 2), (2, 3), (2, 9), (2, 10), (2, 11), (2, 12), (2, 13), (2, 14), (2, 15), (2, 16),
  (3, 0), (3, 1), (3, 2), (3, 3), (3, 9), (3, 10), (3, 11), (3, 12), (3, 13), (3, 14), (3, 15), (3, 16),
  (4, 0), (4, 1), (5, 0), (5, 3), (6, 0), (6, 3), (7, 0), (7, 3), (8, 0), (8, 3),
  (9, 0), (9, 1), (9, 2), (9, 3), (9, 4), (9, 6), (9, 7), (9, 14), (9, 15), (9, 16), (9, 17)]
def xm_wl (ad : Nat × Nat → Nat) (cA : Nat → ClassId) (u : xm_U) : va_W := xm_pl.map (fun q => (ad q, xm_ct ad cA u q))
theorem xm_pl_nd : xm_pl.Nodup := by decide +kernel
theorem xm_cls_lt {i c : Nat} (h : xm_cls i = c) (hc : c < 5) : i < 10 := by
  rcases Nat.lt_or_ge i 10 with q | q
  · exact q
  · exfalso
    have : xm_cls i = 99 := by
      unfold xm_cls
      rw [List.getD_eq_getElem?_getD, List.getElem?_eq_none (by simpa using q)]
      rfl
    omega
theorem xm_pl_0 {i c : Nat} (h : xm_cls i = c) (hc : c < 5) : (i, 0) ∈ xm_pl := by
  have hi := xm_cls_lt h hc
  have : ∀ i, i < 10 → (i, 0) ∈ xm_pl := by decide +kernel
  exact this i hi
theorem xm_ln_lt {c p n : Nat} (h : xm_ln c p = some n) : c < 5 ∧ p < 18 := by
  unfold xm_ln at h
  rcases Nat.lt_or_ge c 5 with hc | hc
  · refine ⟨hc, ?_⟩
    rcases Nat.lt_or_ge p 18 with hp | hp
    · exact hp
    · exfalso
      have key : ∀ c, c < 5 → ((([[none, none, none, some 40], [none, some 120], [none, some 6, some 6, some 6, none, none, none, none, none, some 8, some 8, some 8, some 8, some 8, some 8, some 8, some 10], [none, none, none, none, none, none, none, some 7], [none, some 89, some 89, some 89, some 89, none, some 7, none, none, none, none, none, none, none, some 4, some 4, some 160, some 40]] : List (List (Option Nat))).getD c []).length ≤ 18) := by decide +kernel
      have := key c hc
      rw [List.getD_eq_getElem?_getD, List.getElem?_eq_none (by omega)] at h
      cases h
  · exfalso
    have e : (([[none, none, none, some 40], [none, some 120], [none, some 6, some 6, some 6, none, none, none, none, none, some 8, some 8, some 8, some 8, some 8, some 8, some 8, some 10], [none, none, none, none, none, none, none, some 7], [none, some 89, some 89, some 89, some 89, none, some 7, none, none, none, none, none, none, none, some 4, some 4, some 160, some 40]] : List (List (Option Nat))).getD c []) = [] := by
      rw [List.getD_eq_getElem?_getD, List.getElem?_eq_none (by simpa using hc)]
      rfl
    rw [e] at h
    cases h
theorem xm_pl_ln {i p n : Nat} (h : xm_ln (xm_cls i) p = some n) : (i, p) ∈ xm_pl ∧ ¬ p = 0 ∧ ¬ (i, p) = (9, 7) ∧ ¬ (i, p) = (0, 6) := by
  obtain ⟨hc, hp⟩ := xm_ln_lt h
  have hi := xm_cls_lt rfl hc
  have key1 : ∀ i, i < 10 → ∀ p, p < 18 → (xm_ln (xm_cls i) p).isSome = true → decide ((i, p) ∈ xm_pl) = true := by decide +kernel
  have key2 : ∀ i, i < 10 → ∀ p, p < 18 → (xm_ln (xm_cls i) p).isSome = true → ¬ p = 0 := by decide +kernel
  have key3 : ∀ i, i < 10 → ∀ p, p < 18 → (xm_ln (xm_cls i) p).isSome = true → ¬ (i, p) = (9, 7) := by decide +kernel
  have key4 : ∀ i, i < 10 → ∀ p, p < 18 → (xm_ln (xm_cls i) p).isSome = true → ¬ (i, p) = (0, 6) := by decide +kernel
  have hs : (xm_ln (xm_cls i) p).isSome = true := by rw [h]; rfl
  exact ⟨of_decide_eq_true (key1 i hi p hp hs), key2 i hi p hp hs, key3 i hi p hp hs, key4 i hi p hp hs⟩
section XW
variable {ad : Nat × Nat → Nat} {cA : Nat → ClassId} {u : xm_U}
theorem xm_ct_0 {i : Nat} : xm_ct ad cA u (i, 0) = .inr (xm_cls i, (List.range (xm_nf (xm_cls i))).map (xm_fv ad u i)) := by simp [xm_ct]
theorem xm_ct_i {i p n : Nat} (h : xm_ln (xm_cls i) p = some n) : xm_ct ad cA u (i, p) = .inl (cA 0, n, .inl (u.1 i p)) := by
  obtain ⟨-, h1, h2, h3⟩ := xm_pl_ln h
  unfold xm_ct
  rw [if_neg h1, if_neg h2, if_neg h3, h]
  rfl
theorem xm_ct_b : xm_ct ad cA u (9, 7) = .inl (cA 1, 120, .inl (u.1 9 7)) := rfl
theorem xm_ct_s : xm_ct ad cA u (0, 6) = .inl (cA 2, 4, .inr (.inr (.inr (.inr (fun j => some (ad (5 + j, 0))))))) := rfl
theorem xm_wl_at {q : Nat × Nat} (h : q ∈ xm_pl) : ∃ k : Nat, xm_pl[k]? = some q ∧ ∀ u : xm_U, (xm_wl ad cA u)[k]? = some (ad q, xm_ct ad cA u q) := by
  obtain ⟨k, hk⟩ := List.getElem?_of_mem h
  exact ⟨k, hk, fun u => by simp [xm_wl, hk]⟩
theorem xm_wl_set {u' : xm_U} {q : Nat × Nat} {k : Nat} (hk : xm_pl[k]? = some q) (h : ∀ q' ∈ xm_pl, q' ≠ q → xm_ct ad cA u' q' = xm_ct ad cA u q') : (xm_wl ad cA u).set k (ad q, xm_ct ad cA u' q) = xm_wl ad cA u' := by
  have hl := (List.getElem?_eq_some_iff.mp hk).1
  apply List.ext_getElem?
  intro j
  by_cases e : j = k
  · subst e
    rw [List.getElem?_set_self (by simpa [xm_wl] using hl)]
    simp [xm_wl, hk]
  · rw [List.getElem?_set_ne (Ne.symm e)]
    simp only [xm_wl, List.getElem?_map]
    cases hj : xm_pl[j]? with
    | none => rfl
    | some q' =>
      have hne : q' ≠ q := by
        intro z
        subst z
        obtain ⟨hj1, hj2⟩ := List.getElem?_eq_some_iff.mp hj
        obtain ⟨hk1, hk2⟩ := List.getElem?_eq_some_iff.mp hk
        exact e ((List.getElem_inj xm_pl_nd).mp (hj2.trans hk2.symm))
      simp [h q' (List.mem_of_getElem? hj) hne]
theorem xm_wl_D {A : Nat → Prop} (hi : ∀ q ∈ xm_pl, ∀ q' ∈ xm_pl, ad q = ad q' → q = q') (hA : ∀ q ∈ xm_pl, A (ad q)) : va_D A (xm_wl ad cA u) := by
  have key : ∀ (k : Nat) (z : Nat × va_E), (xm_wl ad cA u)[k]? = some z → ∃ q, xm_pl[k]? = some q ∧ z.1 = ad q := by
    intro k z hz
    simp only [xm_wl, List.getElem?_map] at hz
    cases hk : xm_pl[k]? with
    | none => rw [hk] at hz; cases hz
    | some q => rw [hk] at hz; cases hz; exact ⟨q, rfl, rfl⟩
  refine ⟨fun i j x y h1 h2 e => ?_, fun k z hz => ?_⟩
  · obtain ⟨q, a1, a2⟩ := key i x h1
    obtain ⟨q', b1, b2⟩ := key j y h2
    have e2 := hi q (List.mem_of_getElem? a1) q' (List.mem_of_getElem? b1) (a2.symm.trans (e.trans b2))
    subst e2
    obtain ⟨hj1, hj2⟩ := List.getElem?_eq_some_iff.mp a1
    obtain ⟨hk1, hk2⟩ := List.getElem?_eq_some_iff.mp b1
    exact (List.getElem_inj xm_pl_nd).mp (hj2.trans hk2.symm)
  · obtain ⟨q, a1, a2⟩ := key k z hz
    rw [a2]
    exact hA q (List.mem_of_getElem? a1)
theorem xm_ua_same (i p : Nat) (f : Nat → Int32) : (xm_ua u i p f).1 i p = f := by simp [xm_ua]
theorem xm_ua_ne {i p i' p' : Nat} (f : Nat → Int32) (h : ¬ (i', p') = (i, p)) : (xm_ua u i p f).1 i' p' = u.1 i' p' := by
  have : ¬ (i' = i ∧ p' = p) := fun q => h (by rw [q.1, q.2])
  simp [xm_ua, this]
theorem xm_ct_ua {i p : Nat} (f : Nat → Int32) {q : Nat × Nat} (h : q ≠ (i, p)) : xm_ct ad cA (xm_ua u i p f) q = xm_ct ad cA u q := by
  obtain ⟨i', p'⟩ := q
  unfold xm_ct
  by_cases h0 : p' = 0
  · subst h0
    have e : xm_fv ad (xm_ua u i p f) i' = xm_fv ad u i' := by
      funext k
      unfold xm_fv
      rw [xm_ua_ne f h]
      rfl
    show (if (0 : Nat) = 0 then _ else _) = (if (0 : Nat) = 0 then _ else _)
    rw [if_pos rfl, if_pos rfl, e]
  · simp only [if_neg h0]
    by_cases h1 : (i', p') = (9, 7)
    · rw [if_pos h1, if_pos h1]
      cases h1
      rw [xm_ua_ne f h]
    · rw [if_neg h1, if_neg h1]
      by_cases h2 : (i', p') = (0, 6)
      · rw [if_pos h2, if_pos h2]
      · rw [if_neg h2, if_neg h2]
        simp only [xm_ua_ne f h]
theorem xm_map_set {n k : Nat} {f g : Nat → Value} (hk : k < n) (h : ∀ j, j ≠ k → g j = f j) : (List.range n).map g = ((List.range n).map f).set k (g k) := by
  apply List.ext_getElem?
  intro j
  by_cases e : j = k
  · subst e
    rw [List.getElem?_set_self (by simpa using hk)]
    simp [hk]
  · rw [List.getElem?_set_ne (Ne.symm e)]
    simp only [List.getElem?_map]
    by_cases hj : j < n
    · simp [hj, h j e]
    · rw [List.getElem?_eq_none (by simpa using hj)]
      rfl
theorem xm_ct_us {i k : Nat} {v : Int32} (hk : k < xm_nf (xm_cls i)) (h : xm_fk (xm_cls i) k = 1 ∨ xm_fk (xm_cls i) k = 3) : xm_ct ad cA (xm_us u i 0 k v) (i, 0) = .inr (xm_cls i, ((List.range (xm_nf (xm_cls i))).map (xm_fv ad u i)).set k (.int v)) := by
  rw [xm_ct_0]
  congr 2
  have e : xm_fv ad (xm_us u i 0 k v) i k = .int v := by
    unfold xm_fv xm_us
    rcases h with h | h <;> simp [h, xm_ua_same, upd]
  rw [← e]
  refine xm_map_set hk (fun j hj => ?_)
  unfold xm_fv xm_us
  rw [xm_ua_same]
  simp [upd, hj, xm_ua]
theorem xm_fk_2 : ∀ i, i < 10 → ∀ k, k < 17 → xm_fk (xm_cls i) k = 2 → i = 9 ∧ k = 11 := by decide +kernel
theorem xm_nf_le : ∀ i, i < 10 → xm_nf (xm_cls i) ≤ 17 := by decide +kernel
theorem xm_pl_lt : ∀ q ∈ xm_pl, q.1 < 10 := by decide +kernel
theorem xm_ct_ul {v : Int64} {q : Nat × Nat} (hq : q ∈ xm_pl) (h : q ≠ (9, 0)) : xm_ct ad cA (xm_ul u v) q = xm_ct ad cA u q := by
  obtain ⟨i, p⟩ := q
  have hi : i < 10 := xm_pl_lt _ hq
  unfold xm_ct
  by_cases h0 : p = 0
  · subst h0
    have e : (List.range (xm_nf (xm_cls i))).map (xm_fv ad (xm_ul u v) i) = (List.range (xm_nf (xm_cls i))).map (xm_fv ad u i) := by
      apply List.map_congr_left
      intro k hk
      have hk1 : k < 17 := Nat.lt_of_lt_of_le (List.mem_range.mp hk) (xm_nf_le i hi)
      have h2 : ¬ xm_fk (xm_cls i) k = 2 := fun z => h (by rw [(xm_fk_2 i hi k hk1 z).1])
      unfold xm_fv
      split <;> first | rfl | (rename_i z; exact absurd z h2)
    show (if (0 : Nat) = 0 then _ else _) = (if (0 : Nat) = 0 then _ else _)
    rw [if_pos rfl, if_pos rfl, e]
  · simp only [if_neg h0]
    rfl
theorem xm_ct_ul9 {v : Int64} : xm_ct ad cA (xm_ul u v) (9, 0) = .inr (4, ((List.range 17).map (xm_fv ad u 9)).set 11 (.long v)) := rfl
end XW
/-- the locals -/
def xm_lr (cv : xm_V → Value) (als : Array Slot) (ls : xm_L) : Prop := als.size = ls.length ∧ lv_wf als ∧ ∀ (k : Nat) (v : xm_V), ls[k]? = some (some v) → als[k]? = some (.val (cv v))
def xm_as (cv : xm_V → Value) (ls : xm_L) : List (Nat × Value) := (List.range ls.length).filterMap (fun k => match ls[k]? with
  | some (some v) => some (k, cv v)
  | _ => none)
theorem xm_as_mem {cv : xm_V → Value} {ls : xm_L} {k : Nat} {w : Value} : (k, w) ∈ xm_as cv ls ↔ ∃ v, ls[k]? = some (some v) ∧ w = cv v := by
  unfold xm_as
  rw [List.mem_filterMap]
  constructor
  · rintro ⟨j, -, h⟩
    split at h
    · rename_i v hv
      cases h
      exact ⟨v, hv, rfl⟩
    · cases h
  · rintro ⟨v, hv, rfl⟩
    refine ⟨k, List.mem_range.mpr (List.getElem?_eq_some_iff.mp hv).1, ?_⟩
    rw [hv]
theorem xm_lr_has {cv : xm_V → Value} {als : Array Slot} {ls : xm_L} (h : xm_lr cv als ls) : lv_has als ls.length (xm_as cv ls) := by
  refine ⟨h.1, h.2.1, fun q hq => ?_⟩
  obtain ⟨k, w⟩ := q
  obtain ⟨v, hv, rfl⟩ := xm_as_mem.mp hq
  exact h.2.2 k v hv
theorem xm_clob_len (ls : xm_L) (k : Nat) : (xm_clob ls k).length = ls.length := by
  unfold xm_clob
  split
  · rfl
  · split <;> simp
theorem xm_clob_at {ls : xm_L} {i k : Nat} {v : xm_V} (h : (xm_clob ls i)[k]? = some (some v)) : ls[k]? = some (some v) ∧ ¬ (k + 1 = i ∧ ∃ x, v = .inr (.inl x)) := by
  unfold xm_clob at h
  split at h
  · exact ⟨h, fun q => by omega⟩
  · rename_i j
    split at h
    · rename_i x hx
      by_cases e : k = j
      · subst e
        rw [List.getElem?_set_self (List.getElem?_eq_some_iff.mp hx).1] at h
        cases h
      · rw [List.getElem?_set_ne (Ne.symm e)] at h
        exact ⟨h, fun q => e (by omega)⟩
    · rename_i hn
      refine ⟨h, fun q => ?_⟩
      obtain ⟨q1, x, rfl⟩ := q
      have : k = j := by omega
      subst this
      exact hn x h
theorem xm_lr_s1 {cv : xm_V → Value} (hcat : ∀ v, (cv v).category = 2 → ∃ x, v = .inr (.inl x)) {als als' : Array Slot} {ls : xm_L} {i : Nat} {w : xm_V} (hw : lv_has als' ls.length ((i, cv w) :: (xm_as cv ls).filter (fun q => !(q.1 == i) && !(q.1 + 1 == i && q.2.category == 2)))) : xm_lr cv als' (xm_s1 ls i w) := by
  refine ⟨by rw [hw.1]; simp [xm_s1, xm_clob_len], hw.2.1, fun k v hv => ?_⟩
  unfold xm_s1 at hv
  by_cases e : k = i
  · subst e
    have hl : k < (xm_clob ls k).length := by
      have := (List.getElem?_eq_some_iff.mp hv).1
      simpa using this
    rw [List.getElem?_set_self hl] at hv
    cases hv
    exact hw.2.2 (k, cv w) List.mem_cons_self
  · rw [List.getElem?_set_ne (Ne.symm e)] at hv
    obtain ⟨h1, h2⟩ := xm_clob_at hv
    refine hw.2.2 (k, cv v) (List.mem_cons_of_mem _ (List.mem_filter.mpr ⟨xm_as_mem.mpr ⟨v, h1, rfl⟩, ?_⟩))
    have h3 : ¬ (k + 1 = i ∧ (cv v).category = 2) := fun q => h2 ⟨q.1, hcat v q.2⟩
    simp only [Bool.and_eq_true, Bool.not_eq_true', beq_eq_false_iff_ne, ne_eq, Bool.and_eq_false_iff]
    refine ⟨e, ?_⟩
    by_cases z : k + 1 = i
    · exact Or.inr (fun y => h3 ⟨z, y⟩)
    · exact Or.inl z
theorem xm_lr_s2 {cv : xm_V → Value} (hcat : ∀ v, (cv v).category = 2 → ∃ x, v = .inr (.inl x)) {als als' : Array Slot} {ls : xm_L} {i : Nat} {w : xm_V} (hw : lv_has als' ls.length ((i, cv w) :: (xm_as cv ls).filter (fun q => !(q.1 == i) && (!(q.1 == i + 1) && !(q.1 + 1 == i && q.2.category == 2))))) : xm_lr cv als' (xm_s2 ls i w) := by
  refine ⟨by rw [hw.1]; simp [xm_s2, xm_clob_len], hw.2.1, fun k v hv => ?_⟩
  unfold xm_s2 at hv
  by_cases e1 : k = i + 1
  · subst e1
    have hl : i + 1 < ((xm_clob ls i).set i (some w)).length := by
      have := (List.getElem?_eq_some_iff.mp hv).1
      simpa using this
    rw [List.getElem?_set_self hl] at hv
    cases hv
  rw [List.getElem?_set_ne (Ne.symm e1)] at hv
  by_cases e : k = i
  · subst e
    have hl : k < (xm_clob ls k).length := by
      have := (List.getElem?_eq_some_iff.mp hv).1
      simpa using this
    rw [List.getElem?_set_self hl] at hv
    cases hv
    exact hw.2.2 (k, cv w) List.mem_cons_self
  · rw [List.getElem?_set_ne (Ne.symm e)] at hv
    obtain ⟨h1, h2⟩ := xm_clob_at hv
    refine hw.2.2 (k, cv v) (List.mem_cons_of_mem _ (List.mem_filter.mpr ⟨xm_as_mem.mpr ⟨v, h1, rfl⟩, ?_⟩))
    have h3 : ¬ (k + 1 = i ∧ (cv v).category = 2) := fun q => h2 ⟨q.1, hcat v q.2⟩
    simp only [Bool.and_eq_true, Bool.not_eq_true', beq_eq_false_iff_ne, ne_eq, Bool.and_eq_false_iff]
    refine ⟨e, e1, ?_⟩
    by_cases z : k + 1 = i
    · exact Or.inr (fun y => h3 ⟨z, y⟩)
    · exact Or.inl z
theorem xm_slo_at {cv : xm_V → Value} (hcat : ∀ v, (cv v).category = 2 ↔ ∃ x, v = .inr (.inl x)) : ∀ (a : List xm_V) (o k : Nat) (v : xm_V), (xm_slo a)[k]? = some (some v) → (o + k, cv v) ∈ lv_args o (a.map cv) := by
  intro a
  induction a with
  | nil => intro o k v h; simp [xm_slo] at h
  | cons w a ih =>
    intro o k v h
    by_cases hw : ∃ x, w = .inr (.inl x)
    · obtain ⟨x, rfl⟩ := hw
      have hc : (cv (.inr (.inl x))).category = 2 := (hcat _).mpr ⟨x, rfl⟩
      simp only [List.map_cons, lv_args, if_pos hc]
      match k, h with
      | 0, h => cases h; exact List.mem_cons_self
      | 1, h => cases h
      | k + 2, h => exact List.mem_cons_of_mem _ (by have := ih (o + 2) k v h; rwa [show o + 2 + k = o + (k + 2) by omega] at this)
    · have hc : ¬ (cv w).category = 2 := fun q => hw ((hcat _).mp q)
      have e : xm_slo (w :: a) = some w :: xm_slo a := by
        match w, hw with
        | .inl x, _ => rfl
        | .inr (.inl x), hw => exact absurd ⟨x, rfl⟩ hw
        | .inr (.inr x), _ => rfl
      rw [e] at h
      simp only [List.map_cons, lv_args, if_neg hc]
      match k, h with
      | 0, h => cases h; exact List.mem_cons_self
      | k + 1, h => exact List.mem_cons_of_mem _ (by have := ih (o + 1) k v h; rwa [show o + 1 + k = o + (k + 1) by omega] at this)
theorem xm_slo_len {cv : xm_V → Value} (hcat : ∀ v, (cv v).category = 2 ↔ ∃ x, v = .inr (.inl x)) : ∀ (a : List xm_V), (lg_sl (a.map cv)).length = (xm_slo a).length := by
  intro a
  induction a with
  | nil => rfl
  | cons w a ih =>
    have ih' : (List.flatMap (fun v => if v.category = 2 then [Slot.val v, Slot.second] else [Slot.val v]) (a.map cv)).length = (xm_slo a).length := ih
    by_cases hw : ∃ x, w = .inr (.inl x)
    · obtain ⟨x, rfl⟩ := hw
      have hc : (cv (.inr (.inl x))).category = 2 := (hcat _).mpr ⟨x, rfl⟩
      have e : xm_slo (.inr (.inl x) :: a) = some (.inr (.inl x)) :: none :: xm_slo a := rfl
      rw [e]
      simp only [lg_sl, List.map_cons, List.flatMap_cons, List.length_append, if_pos hc, ih', List.length_cons, List.length_nil]
      omega
    · have hc : ¬ (cv w).category = 2 := fun q => hw ((hcat _).mp q)
      have e : xm_slo (w :: a) = some w :: xm_slo a := by
        match w, hw with
        | .inl x, _ => rfl
        | .inr (.inl x), hw => exact absurd ⟨x, rfl⟩ hw
        | .inr (.inr x), _ => rfl
      rw [e]
      simp only [lg_sl, List.map_cons, List.flatMap_cons, List.length_append, if_neg hc, ih', List.length_cons, List.length_nil]
      omega
theorem xm_lr_ent {cv : xm_V → Value} (hcat : ∀ v, (cv v).category = 2 ↔ ∃ x, v = .inr (.inl x)) {a : List xm_V} {n : Nat} (h : (xm_slo a).length ≤ n) : xm_lr cv ((lg_sl (a.map cv) ++ List.replicate (n - (lg_sl (a.map cv)).length) Slot.unset).toArray) (xm_ent n a) := by
  have hl := lv_entry (a.map cv) (n := n) (by rw [xm_slo_len hcat]; exact h)
  refine ⟨by rw [hl.1]; simp [xm_ent]; omega, hl.2.1, fun k v hv => ?_⟩
  have hk : (xm_slo a)[k]? = some (some v) := by
    unfold xm_ent at hv
    by_cases e : k < (xm_slo a).length
    · rwa [List.getElem?_append_left e] at hv
    · rw [List.getElem?_append_right (by omega)] at hv
      exact absurd (List.mem_of_getElem? hv) (by simp)
  have := xm_slo_at hcat a 0 k v hk
  rw [Nat.zero_add] at this
  exact hl.2.2 (k, cv v) this
theorem xm_cv_cat {ad ro : Nat × Nat → Nat} {vq : Value} (hq : vq = .null ∨ ∃ t, vq = .ref t) (v : xm_V) : (xm_cv ad ro vq v).category = 2 ↔ ∃ x, v = .inr (.inl x) := by
  match v with
  | .inl x => simp [xm_cv, Value.category]
  | .inr (.inl x) => simp [xm_cv, Value.category]
  | .inr (.inr (.inl x)) => simp [xm_cv, Value.category]
  | .inr (.inr (.inr (j, q))) =>
    have h : (xm_cv ad ro vq (.inr (.inr (.inr (j, q))))).category = 1 := by
      by_cases e : j = 3
      · subst e
        show vq.category = 1
        rcases hq with h | ⟨t, h⟩ <;> subst h <;> rfl
      · have : xm_cv ad ro vq (.inr (.inr (.inr (j, q)))) = .ref (ro (j, q)) := by
          unfold xm_cv
          split
          · rename_i z; cases z
          · rename_i z; cases z
          · rename_i z; cases z
          · rename_i z; cases z; exact absurd rfl e
          · rename_i z; cases z; rfl
        rw [this]
        rfl
    rw [h]
    simp
