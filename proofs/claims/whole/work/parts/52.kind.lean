/-! WHAT KIND OF RESULT A METHOD GIVES: by the returns in its code -/
def rkI (x : xm_I) : Nat := match x.2.1 with
  | .ireturn => 1
  | .lreturn => 2
  | .areturn => 3
  | .return_ => 4
  | _ => 0
theorem rk1 {x : xm_I} (e : x.2.1 = .ireturn) : rkI x = 1 := by unfold rkI; rw [e]
theorem rk2 {x : xm_I} (e : x.2.1 = .lreturn) : rkI x = 2 := by unfold rkI; rw [e]
theorem rk3 {x : xm_I} (e : x.2.1 = .areturn) : rkI x = 3 := by unfold rkI; rw [e]
theorem rk4 {x : xm_I} (e : x.2.1 = .return_) : rkI x = 4 := by unfold rkI; rw [e]
def rkP (x : xm_I) (r : xm_R) : Prop := (rkI x = 1 ∧ ∃ v, r.1 = some (.inl v)) ∨ (rkI x = 2 ∧ ∃ v, r.1 = some (.inr (.inl v))) ∨ rkI x = 3 ∨ rkI x = 4
def okS (cd : List xm_I) (s : xm_S) : Prop := ∀ y ∈ s.1, y ∈ cd
def xm_aK (cd : List xm_I) (x : xm_I) (a : xm_A) : Prop := match a with
  | none => True
  | some (.inl r) => rkP x r
  | some (.inr (.inl s)) => okS cd s
  | some (.inr (.inr (.inl (_, .inl r)))) => rkP x r
  | some (.inr (.inr (.inl (_, .inr s)))) => okS cd s
  | some (.inr (.inr (.inr (.inl (_, s, t))))) => okS cd s ∧ okS cd t
  | some (.inr (.inr (.inr (.inr (.inl (_, l, d)))))) => (∀ q ∈ l, okS cd q.2) ∧ okS cd d
  | some (.inr (.inr (.inr (.inr (.inr (_, _, _, _, s)))))) => okS cd s
theorem okS_d {cd : List xm_I} (t : Nat) (ls : xm_L) (st : List xm_V) (u : xm_U) : okS cd (cd.drop t, ls, st, u) := fun _ hy => List.mem_of_mem_drop hy
section SK
variable {cd is : List xm_I} {ls : xm_L} {st : List xm_V} {u : xm_U} {o : List Nat} {k : Nat} {rt : Option FieldType} {x : xm_I}
theorem yK_lds (h : ∀ y ∈ is, y ∈ cd) : xm_aK cd x (xm_lds ls k is st u) := by
  unfold xm_lds
  split <;> first | exact h | exact True.intro
theorem yK_ldl (h : ∀ y ∈ is, y ∈ cd) : xm_aK cd x (xm_ldl ls k is st u) := by
  unfold xm_ldl
  split <;> first | exact h | exact True.intro
theorem yK_lda (h : ∀ y ∈ is, y ∈ cd) : xm_aK cd x (xm_lda ls k is st u) := by
  unfold xm_lda
  split <;> first | exact h | exact True.intro
theorem yK_sti (h : ∀ y ∈ is, y ∈ cd) : xm_aK cd x (xm_sti ls k is st u) := by
  unfold xm_sti
  split
  · cases Nat.blt _ ls.length <;> first | exact h | exact True.intro
  · exact True.intro
theorem yK_sta (h : ∀ y ∈ is, y ∈ cd) : xm_aK cd x (xm_sta ls k is st u) := by
  unfold xm_sta
  split
  · cases Nat.blt _ ls.length <;> first | exact h | exact True.intro
  · exact True.intro
theorem yK_stl (h : ∀ y ∈ is, y ∈ cd) : xm_aK cd x (xm_stl ls k is st u) := by
  unfold xm_stl
  split
  · cases Nat.blt _ ls.length <;> first | exact h | exact True.intro
  · exact True.intro
theorem yK_i2 (h : ∀ y ∈ is, y ∈ cd) {f : Int32 → Int32 → Int32} : xm_aK cd x (xm_i2 f ls is st u) := by
  unfold xm_i2
  split <;> first | exact h | exact True.intro
theorem yK_l2 (h : ∀ y ∈ is, y ∈ cd) {f : Int64 → Int64 → Int64} : xm_aK cd x (xm_l2 f ls is st u) := by
  unfold xm_l2
  split <;> first | exact h | exact True.intro
theorem yK_i1 (h : ∀ y ∈ is, y ∈ cd) {f : Int32 → Int32} : xm_aK cd x (xm_i1 f ls is st u) := by
  unfold xm_i1
  split <;> first | exact h | exact True.intro
theorem yK_if1 (h : ∀ y ∈ is, y ∈ cd) {f : Int32 → Prop} : xm_aK cd x (xm_if1 f cd o ls is st u) := by
  unfold xm_if1
  split <;> first | exact ⟨okS_d _ _ _ _, h⟩ | exact True.intro
theorem yK_if2 (h : ∀ y ∈ is, y ∈ cd) {f : Int32 → Int32 → Prop} : xm_aK cd x (xm_if2 f cd o ls is st u) := by
  unfold xm_if2
  split <;> first | exact ⟨okS_d _ _ _ _, h⟩ | exact True.intro
theorem yK_getf (h : ∀ y ∈ is, y ∈ cd) : xm_aK cd x (xm_getf o ls is st u) := by
  unfold xm_getf
  split <;> first | exact h | exact True.intro | (split <;> first | exact h | exact True.intro)
theorem yK_putf (h : ∀ y ∈ is, y ∈ cd) : xm_aK cd x (xm_putf o ls is st u) := by
  unfold xm_putf
  split <;> first | exact h | exact True.intro | (split <;> first | exact h | exact True.intro)
theorem yK_gets (h : ∀ y ∈ is, y ∈ cd) : xm_aK cd x (xm_gets o ls is st u) := by
  unfold xm_gets
  split <;> first | exact h | exact True.intro
theorem yK_iald (h : ∀ y ∈ is, y ∈ cd) : xm_aK cd x (xm_iald ls is st u) := by
  unfold xm_iald
  split <;> first | exact h | exact True.intro
theorem yK_bald (h : ∀ y ∈ is, y ∈ cd) : xm_aK cd x (xm_bald ls is st u) := by
  unfold xm_bald
  split <;> first | exact h | exact True.intro
theorem yK_iast (h : ∀ y ∈ is, y ∈ cd) : xm_aK cd x (xm_iast ls is st u) := by
  unfold xm_iast
  split <;> first | exact h | exact True.intro
theorem yK_bast (h : ∀ y ∈ is, y ∈ cd) : xm_aK cd x (xm_bast ls is st u) := by
  unfold xm_bast
  split <;> first | exact h | exact True.intro
theorem yK_aald (h : ∀ y ∈ is, y ∈ cd) : xm_aK cd x (xm_aald ls is st u) := by
  unfold xm_aald
  split <;> first | exact h | exact True.intro
theorem yK_alen (h : ∀ y ∈ is, y ∈ cd) : xm_aK cd x (xm_alen ls is st u) := by
  unfold xm_alen
  split <;> first | exact h | exact True.intro
theorem yK_cal (h : ∀ y ∈ is, y ∈ cd) {c : Option Prop} {z n : Nat} : xm_aK cd x (xm_cal c z n ls is st u) := by
  unfold xm_cal
  generalize (Nat.ble (xm_cats (st.drop n)) 8 && (Nat.beq (st.take n).length n && Nat.ble (xm_slo (st.take n).reverse).length (xm_mx z))) = b
  cases b <;> first | exact h | exact True.intro
theorem yK_invs (h : ∀ y ∈ is, y ∈ cd) : xm_aK cd x (xm_invs o ls is st u) := by
  unfold xm_invs
  split
  · split
    · cases Nat.ble _ 8 <;> first | exact h | exact True.intro
    · exact True.intro
  · split
    · cases Nat.ble _ 8 <;> first | exact h | exact True.intro
    · exact True.intro
  · split
    · cases Nat.ble _ 8 <;> first | exact h | exact True.intro
    · exact True.intro
  · cases Nat.beq _ 50
    · exact True.intro
    · exact yK_cal h
  · exact True.intro
theorem yK_invv (h : ∀ y ∈ is, y ∈ cd) : xm_aK cd x (xm_invv o ls is st u) := by
  unfold xm_invv
  split
  · split
    · cases Nat.blt _ 5
      · exact True.intro
      · exact yK_cal h
    · cases Nat.beq _ 10
      · exact True.intro
      · exact yK_cal h
    · exact True.intro
  · exact True.intro
theorem yK_rei (hx : rkI x = 1) : xm_aK cd x (xm_rei rt st u) := by
  unfold xm_rei
  split
  · split <;> first | exact Or.inl ⟨hx, _, rfl⟩ | exact True.intro
  · exact True.intro
theorem yK_swt {ks : List Int32} : xm_aK cd x (xm_swt cd o ks ls st u) := by
  unfold xm_swt
  split
  · refine ⟨fun q hq => ?_, okS_d _ _ _ _⟩
    obtain ⟨p, -, rfl⟩ := List.mem_map.mp hq
    exact okS_d _ _ _ _
  · exact True.intro
theorem yK_step (h : ∀ y ∈ is, y ∈ cd) : xm_aK cd x (xm_step cd rt x is ls st u) := by
  unfold xm_step
  split <;> first | exact yK_lds h | exact yK_ldl h | exact yK_lda h | exact yK_sti h | exact yK_sta h | exact yK_stl h | exact yK_i2 h | exact yK_l2 h | exact yK_i1 h | exact yK_if1 h | exact yK_if2 h | exact yK_getf h | exact yK_putf h | exact yK_gets h | exact yK_iald h | exact yK_bald h | exact yK_iast h | exact yK_bast h | exact yK_aald h | exact yK_alen h | exact yK_invs h | exact yK_invv h | exact yK_swt | exact h | exact True.intro | (rename_i e; exact yK_rei (rk1 e)) | (split <;> first | exact h | exact True.intro | exact okS_d _ _ _ _) | (rename_i e; split <;> first | exact True.intro | exact Or.inr (Or.inl ⟨rk2 e, _, rfl⟩) | exact Or.inr (Or.inr (Or.inl (rk3 e))) | exact Or.inr (Or.inr (Or.inr (rk4 e))))
end SK
theorem yK_sw {P : xm_S → Prop} {f : xm_S → Option xm_R} {v : Int32} {l : List (Int32 × xm_S)} {d : xm_S} {r : xm_R} (h : xm_sw v (l.map (fun q => (q.1, f q.2))) (f d) = some r) (hl : ∀ q ∈ l, P q.2) (hd : P d) : ∃ s : xm_S, f s = some r ∧ P s := by
  induction l with
  | nil => exact ⟨d, h, hd⟩
  | cons a l ih =>
    obtain ⟨k, s⟩ := a
    by_cases c : v = k
    · exact ⟨s, by simpa [xm_sw, xm_if_t c] using h, hl (k, s) List.mem_cons_self⟩
    · exact ih (by simpa [xm_sw, xm_if_f c] using h) (fun q hq => hl q (List.mem_cons_of_mem _ hq))
theorem xm_ev_K : ∀ (n y : Nat) (s : xm_S) (r : xm_R), okS (xm_cod y) s → xm_ev n y s = some r → ∃ x ∈ xm_cod y, rkP x r := by
  intro n
  induction n with
  | zero => intro y s r _ h; cases h
  | succ n ih =>
    intro y s r hs h
    obtain ⟨is, ls, st, u⟩ := s
    cases is with
    | nil => cases h
    | cons x is =>
      rw [xm_ev_cons] at h
      have hx : x ∈ xm_cod y := hs x List.mem_cons_self
      have hX := yK_step (cd := xm_cod y) (rt := xm_rt y) (x := x) (is := is) (ls := ls) (st := st) (u := u) (fun y' h' => hs y' (List.mem_cons_of_mem _ h'))
      generalize xm_step (xm_cod y) (xm_rt y) x is ls st u = a at h hX
      match a, h, hX with
      | none, h, _ => cases h
      | some (.inl q), h, hX => cases h; exact ⟨x, hx, hX⟩
      | some (.inr (.inl s)), h, hX => exact ih y s r hX h
      | some (.inr (.inr (.inl (c, .inl q)))), h, hX =>
        by_cases hc : c
        · have h' : some q = some r := by simpa [xm_run, xm_tt, xm_if_t hc] using h
          cases h'
          exact ⟨x, hx, hX⟩
        · simp [xm_run, xm_if_f hc] at h
      | some (.inr (.inr (.inl (c, .inr s)))), h, hX =>
        by_cases hc : c
        · have h' : xm_ev n y s = some r := by simpa [xm_run, xm_tt, xm_if_t hc] using h
          exact ih y s r hX h'
        · simp [xm_run, xm_if_f hc] at h
      | some (.inr (.inr (.inr (.inl (c, s, t))))), h, hX =>
        by_cases hc : c
        · have h' : xm_ev n y s = some r := by simpa [xm_run, xm_if_t hc] using h
          exact ih y s r hX.1 h'
        · have h' : xm_ev n y t = some r := by simpa [xm_run, xm_if_f hc] using h
          exact ih y t r hX.2 h'
      | some (.inr (.inr (.inr (.inr (.inl (v, l, d)))))), h, hX =>
        obtain ⟨s, h1, h2⟩ := yK_sw (P := okS (xm_cod y)) h hX.1 hX.2
        exact ih y s r h2 h1
      | some (.inr (.inr (.inr (.inr (.inr (none, z, b, kd, s)))))), h, hX =>
        obtain ⟨w, h1, h2⟩ := xm_bk_inv h
        exact ih y (s.1, s.2.1, w.1.toList ++ s.2.2.1, w.2) r hX h2
      | some (.inr (.inr (.inr (.inr (.inr (some c, z, b, kd, s)))))), h, hX =>
        by_cases hc : c
        · have h' : xm_bk kd (xm_ev n z (xm_cod z, xm_ent (xm_mx z) b, [], s.2.2.2)) (xm_ev n y) s = some r := by simpa [xm_run, xm_if_t hc] using h
          obtain ⟨w, h1, h2⟩ := xm_bk_inv h'
          exact ih y (s.1, s.2.1, w.1.toList ++ s.2.2.1, w.2) r hX h2
        · simp [xm_run, xm_if_f hc] at h
/-- of a call: its result's kind, and the script stays -/
theorem xm_C_K {y : Nat} {a : List xm_V} {u : xm_U} {r : xm_R} (h : xm_C y a u = some r) : (∃ x ∈ xm_cod y, rkP x r) ∧ r.2.2.2 = u.2.2 := by
  obtain ⟨n, hn⟩ := xm_E_iff.mp h
  exact ⟨xm_ev_K n y _ r (fun _ h => h) hn, xm_ev_X n y _ r hn⟩
theorem rk_int {y : Nat} (hy : (xm_cod y).all (fun x => rkI x == 0 || rkI x == 1) = true) {x : xm_I} {r : xm_R} (hx : x ∈ xm_cod y) (h : rkP x r) : ∃ v, r.1 = some (xv_i v) := by
  have := List.all_eq_true.mp hy x hx
  rcases h with ⟨-, h⟩ | ⟨h, -⟩ | h | h
  · exact h
  · rw [h] at this; exact absurd this (by decide)
  · rw [h] at this; exact absurd this (by decide)
  · rw [h] at this; exact absurd this (by decide)
theorem rk_long {y : Nat} (hy : (xm_cod y).all (fun x => rkI x == 0 || rkI x == 2) = true) {x : xm_I} {r : xm_R} (hx : x ∈ xm_cod y) (h : rkP x r) : ∃ v, r.1 = some (xv_l v) := by
  have := List.all_eq_true.mp hy x hx
  rcases h with ⟨h, -⟩ | ⟨-, h⟩ | h | h
  · rw [h] at this; exact absurd this (by decide)
  · exact h
  · rw [h] at this; exact absurd this (by decide)
  · rw [h] at this; exact absurd this (by decide)
theorem same_i {x y : Nat} {a : List xm_V} (h : Same x y a) (hx : (xm_cod x).all (fun q => rkI q == 0 || rkI q == 1) = true) {u : xm_U} (hu : Rel u) : ∃ (r : Int32) (u1 u2 : xm_U), xm_C x (xv_r 0 0 :: a) u = some (some (xv_i r), u1) ∧ xm_C y (xv_r 9 0 :: a) u1 = some (some (xv_i r), u2) ∧ Rel u2 ∧ u1.2.2 = u.2.2 ∧ u2.2.2 = u.2.2 := by
  obtain ⟨r, u1, u2, e1, e2, hR⟩ := h u hu
  obtain ⟨⟨q, hq, hk⟩, h1⟩ := xm_C_K e1
  obtain ⟨v, hv⟩ := rk_int hx hq hk
  obtain ⟨-, h2⟩ := xm_C_K e2
  have e : r = xv_i v := by injection hv
  subst e
  exact ⟨v, u1, u2, e1, e2, hR, h1, h2.trans h1⟩
theorem same_l {x y : Nat} {a : List xm_V} (h : Same x y a) (hx : (xm_cod x).all (fun q => rkI q == 0 || rkI q == 2) = true) {u : xm_U} (hu : Rel u) : ∃ (r : Int64) (u1 u2 : xm_U), xm_C x (xv_r 0 0 :: a) u = some (some (xv_l r), u1) ∧ xm_C y (xv_r 9 0 :: a) u1 = some (some (xv_l r), u2) ∧ Rel u2 ∧ u1.2.2 = u.2.2 ∧ u2.2.2 = u.2.2 := by
  obtain ⟨r, u1, u2, e1, e2, hR⟩ := h u hu
  obtain ⟨⟨q, hq, hk⟩, h1⟩ := xm_C_K e1
  obtain ⟨v, hv⟩ := rk_long hx hq hk
  obtain ⟨-, h2⟩ := xm_C_K e2
  have e : r = xv_l v := by injection hv
  subst e
  exact ⟨v, u1, u2, e1, e2, hR, h1, h2.trans h1⟩

theorem rc_52 : (xm_cod 52).all (fun q => rkI q == 0 || rkI q == 1) = true := by decide +kernel
theorem rc_53 : (xm_cod 53).all (fun q => rkI q == 0 || rkI q == 1) = true := by decide +kernel
theorem rc_54 : (xm_cod 54).all (fun q => rkI q == 0 || rkI q == 1) = true := by decide +kernel
theorem rc_55 : (xm_cod 55).all (fun q => rkI q == 0 || rkI q == 1) = true := by decide +kernel
theorem rc_56 : (xm_cod 56).all (fun q => rkI q == 0 || rkI q == 1) = true := by decide +kernel
theorem rc_57 : (xm_cod 57).all (fun q => rkI q == 0 || rkI q == 1) = true := by decide +kernel
theorem rc_58 : (xm_cod 58).all (fun q => rkI q == 0 || rkI q == 1) = true := by decide +kernel
theorem rc_59 : (xm_cod 59).all (fun q => rkI q == 0 || rkI q == 1) = true := by decide +kernel
theorem rc_60 : (xm_cod 60).all (fun q => rkI q == 0 || rkI q == 1) = true := by decide +kernel
theorem rc_61 : (xm_cod 61).all (fun q => rkI q == 0 || rkI q == 1) = true := by decide +kernel
theorem rc_62 : (xm_cod 62).all (fun q => rkI q == 0 || rkI q == 1) = true := by decide +kernel
theorem rc_63 : (xm_cod 63).all (fun q => rkI q == 0 || rkI q == 1) = true := by decide +kernel
theorem rc_64 : (xm_cod 64).all (fun q => rkI q == 0 || rkI q == 1) = true := by decide +kernel
theorem rc_65 : (xm_cod 65).all (fun q => rkI q == 0 || rkI q == 1) = true := by decide +kernel
theorem rc_66 : (xm_cod 66).all (fun q => rkI q == 0 || rkI q == 1) = true := by decide +kernel
theorem rc_67 : (xm_cod 67).all (fun q => rkI q == 0 || rkI q == 1) = true := by decide +kernel
theorem rc_68 : (xm_cod 68).all (fun q => rkI q == 0 || rkI q == 1) = true := by decide +kernel
theorem rc_69 : (xm_cod 69).all (fun q => rkI q == 0 || rkI q == 1) = true := by decide +kernel
theorem rc_70 : (xm_cod 70).all (fun q => rkI q == 0 || rkI q == 1) = true := by decide +kernel
theorem rc_71 : (xm_cod 71).all (fun q => rkI q == 0 || rkI q == 1) = true := by decide +kernel
theorem rc_72 : (xm_cod 72).all (fun q => rkI q == 0 || rkI q == 1) = true := by decide +kernel
theorem rc_73 : (xm_cod 73).all (fun q => rkI q == 0 || rkI q == 1) = true := by decide +kernel
theorem rc_74 : (xm_cod 74).all (fun q => rkI q == 0 || rkI q == 1) = true := by decide +kernel
theorem rc_75 : (xm_cod 75).all (fun q => rkI q == 0 || rkI q == 2) = true := by decide +kernel
theorem rc_76 : (xm_cod 76).all (fun q => rkI q == 0 || rkI q == 1) = true := by decide +kernel
theorem rc_77 : (xm_cod 77).all (fun q => rkI q == 0 || rkI q == 1) = true := by decide +kernel
theorem rc_78 : (xm_cod 78).all (fun q => rkI q == 0 || rkI q == 1) = true := by decide +kernel
theorem rc_79 : (xm_cod 79).all (fun q => rkI q == 0 || rkI q == 1) = true := by decide +kernel
theorem rc_80 : (xm_cod 80).all (fun q => rkI q == 0 || rkI q == 1) = true := by decide +kernel
theorem rc_81 : (xm_cod 81).all (fun q => rkI q == 0 || rkI q == 1) = true := by decide +kernel
theorem rc_82 : (xm_cod 82).all (fun q => rkI q == 0 || rkI q == 1) = true := by decide +kernel
theorem rc_83 : (xm_cod 83).all (fun q => rkI q == 0 || rkI q == 1) = true := by decide +kernel
theorem rc_84 : (xm_cod 84).all (fun q => rkI q == 0 || rkI q == 1) = true := by decide +kernel
theorem rc_85 : (xm_cod 85).all (fun q => rkI q == 0 || rkI q == 1) = true := by decide +kernel
theorem rc_86 : (xm_cod 86).all (fun q => rkI q == 0 || rkI q == 1) = true := by decide +kernel
theorem rc_87 : (xm_cod 87).all (fun q => rkI q == 0 || rkI q == 1) = true := by decide +kernel
theorem rc_88 : (xm_cod 88).all (fun q => rkI q == 0 || rkI q == 1) = true := by decide +kernel
theorem rc_89 : (xm_cod 89).all (fun q => rkI q == 0 || rkI q == 1) = true := by decide +kernel
theorem rc_90 : (xm_cod 90).all (fun q => rkI q == 0 || rkI q == 1) = true := by decide +kernel
theorem rc_91 : (xm_cod 91).all (fun q => rkI q == 0 || rkI q == 1) = true := by decide +kernel
