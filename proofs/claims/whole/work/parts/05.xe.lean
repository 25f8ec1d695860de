/-! the run without fuel, and its equations -/
theorem xm_sw_map {f : xm_S → Option xm_R} {v : Int32} {l : List (Int32 × xm_S)} {d : xm_S} {r : xm_R} (h : xm_sw v (l.map (fun q => (q.1, f q.2))) (f d) = some r) : ∃ s, f s = some r ∧ ∀ g : xm_S → Option xm_R, g s = some r → xm_sw v (l.map (fun q => (q.1, g q.2))) (g d) = some r := by
  induction l with
  | nil => exact ⟨d, h, fun g hg => hg⟩
  | cons a l ih =>
    obtain ⟨k, s⟩ := a
    by_cases c : v = k
    · refine ⟨s, ?_, fun g hg => ?_⟩
      · simpa [xm_sw, xm_if_t c] using h
      · simpa [xm_sw, xm_if_t c] using hg
    · have h' : xm_sw v (l.map (fun q => (q.1, f q.2))) (f d) = some r := by simpa [xm_sw, xm_if_f c] using h
      obtain ⟨s', h1, h2⟩ := ih h'
      refine ⟨s', h1, fun g hg => ?_⟩
      have := h2 g hg
      simpa [xm_sw, xm_if_f c] using this
/-- a call's result is used: which state goes on -/
theorem xm_bk_some {kd : Nat} {q : Option xm_R} {f : xm_S → Option xm_R} {s : xm_S} {r : xm_R} (h : xm_bk kd q f s = some r) : ∃ (w : xm_R) (s' : xm_S), q = some w ∧ f s' = some r ∧ ∀ g : xm_S → Option xm_R, g s' = some r → xm_bk kd (some w) g s = some r := by
  unfold xm_bk at h
  split at h
  · unfold xm_bv at h
    split at h
    · exact ⟨_, _, rfl, h, fun g hg => hg⟩
    · cases h
  · unfold xm_bi at h
    split at h
    · exact ⟨_, _, rfl, h, fun g hg => hg⟩
    · cases h
  · unfold xm_bl at h
    split at h
    · exact ⟨_, _, rfl, h, fun g hg => hg⟩
    · cases h
  · unfold xm_bc at h
    split at h
    · exact ⟨_, _, rfl, h, fun g hg => hg⟩
    · cases h
  · rename_i n0 n1 n2 n3
    unfold xm_bo at h
    split at h
    · rename_i x u
      refine ⟨_, _, rfl, h, fun g hg => ?_⟩
      unfold xm_bk
      split
      · exact absurd rfl n0
      · exact absurd rfl n1
      · exact absurd rfl n2
      · exact absurd rfl n3
      · exact hg
    · cases h
/-- a run that ends uses its continuation at one state, and a call at most once -/
theorem xm_run_some {f : xm_S → Option xm_R} {call : Nat → List xm_V → xm_U → Option xm_R} {a : xm_A} {r : xm_R} (h : xm_run f call a = some r) :
    (∀ g c, xm_run g c a = some r) ∨ (∃ s, f s = some r ∧ ∀ (g : xm_S → Option xm_R) c, g s = some r → xm_run g c a = some r) ∨ (∃ z b u w s, call z b u = some w ∧ f s = some r ∧ ∀ (g : xm_S → Option xm_R) (c : Nat → List xm_V → xm_U → Option xm_R), c z b u = some w → g s = some r → xm_run g c a = some r) := by
  match a, h with
  | none, h => cases h
  | some (.inl q), h => exact Or.inl (fun g c => h)
  | some (.inr (.inl s)), h => exact Or.inr (Or.inl ⟨s, h, fun g c hg => hg⟩)
  | some (.inr (.inr (.inl (c, .inl q)))), h => exact Or.inl (fun g c => h)
  | some (.inr (.inr (.inl (c, .inr s)))), h =>
    by_cases hc : c
    · have h' : f s = some r := by simpa [xm_run, xm_tt, xm_if_t hc] using h
      exact Or.inr (Or.inl ⟨s, h', fun g c hg => by simpa [xm_run, xm_tt, xm_if_t hc] using hg⟩)
    · simp [xm_run, xm_if_f hc] at h
  | some (.inr (.inr (.inr (.inl (c, s, t))))), h =>
    by_cases hc : c
    · have h' : f s = some r := by simpa [xm_run, xm_if_t hc] using h
      exact Or.inr (Or.inl ⟨s, h', fun g c hg => by simpa [xm_run, xm_if_t hc] using hg⟩)
    · have h' : f t = some r := by simpa [xm_run, xm_if_f hc] using h
      exact Or.inr (Or.inl ⟨t, h', fun g c hg => by simpa [xm_run, xm_if_f hc] using hg⟩)
  | some (.inr (.inr (.inr (.inr (.inl (v, l, d)))))), h =>
    obtain ⟨s, h1, h2⟩ := xm_sw_map h
    exact Or.inr (Or.inl ⟨s, h1, fun g c hg => h2 g hg⟩)
  | some (.inr (.inr (.inr (.inr (.inr (none, z, b, kd, s)))))), h =>
    obtain ⟨w, s', h1, h2, h3⟩ := xm_bk_some h
    refine Or.inr (Or.inr ⟨z, b, s.2.2.2, w, s', h1, h2, fun g c hc hg => ?_⟩)
    show xm_bk kd (c z b s.2.2.2) g s = some r
    rw [hc]
    exact h3 g hg
  | some (.inr (.inr (.inr (.inr (.inr (some c, z, b, kd, s)))))), h =>
    by_cases hc : c
    · have h' : xm_bk kd (call z b s.2.2.2) f s = some r := by simpa [xm_run, xm_if_t hc] using h
      obtain ⟨w, s', h1, h2, h3⟩ := xm_bk_some h'
      refine Or.inr (Or.inr ⟨z, b, s.2.2.2, w, s', h1, h2, fun g c' hc' hg => ?_⟩)
      show xm_if c (xm_bk kd (c' z b s.2.2.2) g s) none = some r
      rw [xm_if_t hc, hc']
      exact h3 g hg
    · simp [xm_run, xm_if_f hc] at h
theorem xm_run_mono {f g : xm_S → Option xm_R} {call c : Nat → List xm_V → xm_U → Option xm_R} (hf : ∀ s r, f s = some r → g s = some r) (hc : ∀ z b u r, call z b u = some r → c z b u = some r) {a : xm_A} {r : xm_R} (h : xm_run f call a = some r) : xm_run g c a = some r := by
  rcases xm_run_some h with h | ⟨s, h1, h2⟩ | ⟨z, b, u, w, s, h1, h2, h3⟩
  · exact h g c
  · exact h2 g c (hf _ _ h1)
  · exact h3 g c (hc _ _ _ _ h1) (hf _ _ h2)
theorem xm_ev_cons (n y : Nat) (x : xm_I) (is : List xm_I) (ls : xm_L) (st : List xm_V) (u : xm_U) : xm_ev (n + 1) y (x :: is, ls, st, u) = xm_run (xm_ev n y) (fun z a u => xm_ev n z (xm_cod z, xm_ent (xm_mx z) a, [], u)) (xm_step (xm_cod y) (xm_rt y) x is ls st u) := rfl
theorem xm_ev_succ : ∀ (n y : Nat) (s : xm_S) (r : xm_R), xm_ev n y s = some r → xm_ev (n + 1) y s = some r := by
  intro n
  induction n with
  | zero => intro y s r h; cases h
  | succ n ih =>
    intro y s r h
    obtain ⟨is, ls, st, u⟩ := s
    cases is with
    | nil => cases h
    | cons x is =>
      rw [xm_ev_cons] at h ⊢
      exact xm_run_mono (fun s r h => ih y s r h) (fun z b u r h => ih z _ r h) h
theorem xm_ev_le {n k y : Nat} {s : xm_S} {r : xm_R} (hk : n ≤ k) (h : xm_ev n y s = some r) : xm_ev k y s = some r := by
  induction hk with
  | refl => exact h
  | step _ ih => exact xm_ev_succ _ _ _ _ ih
/-- the run -/
noncomputable def xm_E (y : Nat) (s : xm_S) : Option xm_R := @dite _ (∃ r, ∃ n, xm_ev n y s = some r) (Classical.propDecidable _) (fun h => some (Classical.choose h)) (fun _ => none)
theorem xm_E_iff {y : Nat} {s : xm_S} {r : xm_R} : xm_E y s = some r ↔ ∃ n, xm_ev n y s = some r := by
  unfold xm_E
  constructor
  · intro h
    by_cases c : ∃ r, ∃ n, xm_ev n y s = some r
    · rw [dif_pos c] at h
      cases h
      exact Classical.choose_spec c
    · rw [dif_neg c] at h
      cases h
  · rintro ⟨n, h⟩
    have c : ∃ r, ∃ n, xm_ev n y s = some r := ⟨r, n, h⟩
    rw [dif_pos c]
    obtain ⟨k, hk⟩ := Classical.choose_spec c
    have h1 := xm_ev_le (Nat.le_max_left n k) h
    have h2 := xm_ev_le (Nat.le_max_right n k) hk
    rw [h1] at h2
    exact h2.symm
noncomputable def xm_C (z : Nat) (a : List xm_V) (u : xm_U) : Option xm_R := xm_E z (xm_cod z, xm_ent (xm_mx z) a, [], u)
theorem xm_E_nil (y : Nat) (ls : xm_L) (st : List xm_V) (u : xm_U) : xm_E y ([], ls, st, u) = none := by
  cases h : xm_E y ([], ls, st, u) with
  | none => rfl
  | some r =>
    obtain ⟨n, h⟩ := xm_E_iff.mp h
    cases n <;> cases h
theorem xm_E_cons (y : Nat) (x : xm_I) (is : List xm_I) (ls : xm_L) (st : List xm_V) (u : xm_U) : xm_E y (x :: is, ls, st, u) = xm_run (xm_E y) xm_C (xm_step (xm_cod y) (xm_rt y) x is ls st u) := by
  have key : ∀ r, xm_E y (x :: is, ls, st, u) = some r ↔ xm_run (xm_E y) xm_C (xm_step (xm_cod y) (xm_rt y) x is ls st u) = some r := by
    intro r
    rw [xm_E_iff]
    constructor
    · rintro ⟨n, h⟩
      cases n with
      | zero => cases h
      | succ n =>
        rw [xm_ev_cons] at h
        exact xm_run_mono (fun s r h => xm_E_iff.mpr ⟨n, h⟩) (fun z b u r h => xm_E_iff.mpr ⟨n, h⟩) h
    · intro h
      rcases xm_run_some h with h | ⟨s, h1, h2⟩ | ⟨z, b, u', w, s, h1, h2, h3⟩
      · exact ⟨1, by rw [xm_ev_cons]; exact h _ _⟩
      · obtain ⟨n, h1⟩ := xm_E_iff.mp h1
        exact ⟨n + 1, by rw [xm_ev_cons]; exact h2 (xm_ev n y) _ h1⟩
      · obtain ⟨n, h1⟩ := xm_E_iff.mp h1
        obtain ⟨k, h2⟩ := xm_E_iff.mp h2
        exact ⟨max n k + 1, by rw [xm_ev_cons]; exact h3 (xm_ev (max n k) y) (fun z a u => xm_ev (max n k) z (xm_cod z, xm_ent (xm_mx z) a, [], u)) (xm_ev_le (Nat.le_max_left n k) h1) (xm_ev_le (Nat.le_max_right n k) h2)⟩
  cases h : xm_E y (x :: is, ls, st, u) with
  | some r => exact ((key r).mp h).symm
  | none =>
    cases h2 : xm_run (xm_E y) xm_C (xm_step (xm_cod y) (xm_rt y) x is ls st u) with
    | none => rfl
    | some r => rw [(key r).mpr h2] at h; cases h
def xm_mem (n : Nat) : List Nat → Bool
  | [] => false
  | a :: l => bif Nat.beq n a then true else xm_mem n l
def xm_stop (sp : List Nat) (s : xm_S) : Bool := match s.1 with
  | [] => false
  | x :: _ => xm_mem x.1 sp
/-- a stretch: up to n instructions on each way, to those at the bytes sp -/
noncomputable def xm_F (cd : List xm_I) (rt : Option FieldType) (sp : List Nat) (y : Nat) : Nat → xm_S → Option xm_R
  | 0, s => xm_E y s
  | n + 1, s => match s.1 with
    | [] => none
    | x :: is => xm_run (fun s' => bif xm_stop sp s' then xm_E y s' else xm_F cd rt sp y n s') xm_C (xm_step cd rt x is s.2.1 s.2.2.1 s.2.2.2)
theorem xm_F_eq {cd : List xm_I} {rt : Option FieldType} {sp : List Nat} {y : Nat} (hc : xm_cod y = cd) (hr : xm_rt y = rt) : ∀ (n : Nat) (s : xm_S), xm_F cd rt sp y n s = xm_E y s := by
  subst hc
  subst hr
  intro n
  induction n with
  | zero => intro s; rfl
  | succ n ih =>
    intro s
    obtain ⟨is, ls, st, u⟩ := s
    cases is with
    | nil => rw [xm_E_nil]; rfl
    | cons x is =>
      rw [xm_E_cons]
      show xm_run (fun s' => bif xm_stop sp s' then xm_E y s' else xm_F (xm_cod y) (xm_rt y) sp y n s') xm_C _ = _
      have e : (fun s' => bif xm_stop sp s' then xm_E y s' else xm_F (xm_cod y) (xm_rt y) sp y n s') = xm_E y := by
        funext s'
        rw [ih]
        cases xm_stop sp s' <;> rfl
      rw [e]
/-- an equation of a stretch, by the kernel -/
theorem xm_eq {cd : List xm_I} {rt : Option FieldType} {y : Nat} (sp : List Nat) (n : Nat) {s : xm_S} {r : Option xm_R} (hc : xm_cod y = cd) (hr : xm_rt y = rt) (h : xm_F cd rt sp y n s = r) : xm_E y s = r := (xm_F_eq hc hr n s).symm.trans h
theorem xm_ceq {cd : List xm_I} {rt : Option FieldType} {y mx : Nat} (sp : List Nat) (n : Nat) {a : List xm_V} {u : xm_U} {r : Option xm_R} (hc : xm_cod y = cd) (hr : xm_rt y = rt) (hm : xm_mx y = mx) (h : xm_F cd rt sp y n (cd, xm_ent mx a, [], u) = r) : xm_C y a u = r := by
  unfold xm_C
  rw [hm, hc]
  exact xm_eq sp n hc hr h
/-- a name for a value -/
def xm_let {α : Type} (a : α) (k : α → Option xm_R) : Option xm_R := k a
