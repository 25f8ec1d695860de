/-! LESS KNOWN OF THE LOCALS: a run that ends with fewer known ends alike with more -/
def xm_le (a b : xm_L) : Prop := a.length = b.length ∧ ∀ (k : Nat) (v : xm_V), a[k]? = some (some v) → b[k]? = some (some v)
def xm_sR (s t : xm_S) : Prop := s.1 = t.1 ∧ xm_le s.2.1 t.2.1 ∧ s.2.2 = t.2.2
/-- the same act, with more known -/
def xm_aR (a b : xm_A) : Prop := ∀ (f g : xm_S → Option xm_R) (c : Nat → List xm_V → xm_U → Option xm_R) (d : Nat → List xm_V → xm_U → Option xm_R) (r : xm_R), (∀ s t, xm_sR s t → f s = some r → g t = some r) → (∀ z b u w, c z b u = some w → d z b u = some w) → xm_run f c a = some r → xm_run g d b = some r
theorem xR_none (b : xm_A) : xm_aR none b := fun f g c d r hf hc h => by cases h
theorem xR_re (r : xm_R) : xm_aR (some (.inl r)) (some (.inl r)) := fun f g c d r hf hc h => h
theorem xR_go {s t : xm_S} (h : xm_sR s t) : xm_aR (xm_go s) (xm_go t) := fun f g c d r hf hc h1 => hf s t h h1
theorem xR_gr {c : Prop} {r : xm_R} : xm_aR (some (.inr (.inr (.inl (c, .inl r))))) (some (.inr (.inr (.inl (c, .inl r))))) := fun f g c d r hf hc h => h
theorem xR_gd {p : Prop} {s t : xm_S} (h : xm_sR s t) : xm_aR (xm_gd p s) (xm_gd p t) := by
  intro f g c d r hf hc h1
  by_cases hp : p
  · have h2 : f s = some r := by simpa [xm_gd, xm_run, xm_tt, xm_if_t hp] using h1
    have h3 := hf s t h h2
    simpa [xm_gd, xm_run, xm_tt, xm_if_t hp] using h3
  · simp [xm_gd, xm_run, xm_if_f hp] at h1
theorem xR_br {p : Prop} {s t s' t' : xm_S} (h : xm_sR s t) (h' : xm_sR s' t') : xm_aR (xm_br p s s') (xm_br p t t') := by
  intro f g c d r hf hc h1
  by_cases hp : p
  · have h2 : f s = some r := by simpa [xm_br, xm_run, xm_if_t hp] using h1
    have h3 := hf s t h h2
    simpa [xm_br, xm_run, xm_if_t hp] using h3
  · have h2 : f s' = some r := by simpa [xm_br, xm_run, xm_if_f hp] using h1
    have h3 := hf s' t' h' h2
    simpa [xm_br, xm_run, xm_if_f hp] using h3
theorem xR_sw {v : Int32} {ks : List Int32} {ts : List Nat} {cd : List xm_I} {ls ls' : xm_L} {st : List xm_V} {u : xm_U} {d0 : Nat} (h : xm_le ls ls') : xm_aR (some (.inr (.inr (.inr (.inr (.inl (v, (ks.zip ts).map (fun q => (q.1, (cd.drop q.2, ls, st, u))), (cd.drop d0, ls, st, u)))))))) (some (.inr (.inr (.inr (.inr (.inl (v, (ks.zip ts).map (fun q => (q.1, (cd.drop q.2, ls', st, u))), (cd.drop d0, ls', st, u)))))))) := by
  intro f g c d r hf hc h1
  generalize ks.zip ts = l at h1 ⊢
  change xm_sw v ((l.map (fun q => (q.1, (cd.drop q.2, ls, st, u)))).map (fun q => (q.1, f q.2))) (f (cd.drop d0, ls, st, u)) = some r at h1
  change xm_sw v ((l.map (fun q => (q.1, (cd.drop q.2, ls', st, u)))).map (fun q => (q.1, g q.2))) (g (cd.drop d0, ls', st, u)) = some r
  induction l with
  | nil => exact hf (cd.drop d0, ls, st, u) (cd.drop d0, ls', st, u) ⟨rfl, h, rfl⟩ h1
  | cons a l ih =>
    obtain ⟨k, t⟩ := a
    by_cases e : v = k
    · have h2 : f (cd.drop t, ls, st, u) = some r := by simpa [xm_sw, xm_if_t e] using h1
      have h3 := hf (cd.drop t, ls, st, u) (cd.drop t, ls', st, u) ⟨rfl, h, rfl⟩ h2
      simpa [xm_sw, xm_if_t e] using h3
    · have h3 := ih (by simpa [xm_sw, xm_if_f e] using h1)
      simpa [xm_sw, xm_if_f e] using h3
theorem xR_bk {kd : Nat} {q q' : Option xm_R} {f g : xm_S → Option xm_R} {s t : xm_S} {r : xm_R} (hq : ∀ w, q = some w → q' = some w) (hs : xm_sR s t) (hf : ∀ s t, xm_sR s t → f s = some r → g t = some r) (h : xm_bk kd q f s = some r) : xm_bk kd q' g t = some r := by
  obtain ⟨a1, a2, a3⟩ := hs
  have e : ∀ v : List xm_V, ∀ u : xm_U, xm_sR (s.1, s.2.1, v ++ s.2.2.1, u) (t.1, t.2.1, v ++ t.2.2.1, u) := fun v u => ⟨a1, a2, by rw [a3]⟩
  unfold xm_bk at h ⊢
  split at h
  · unfold xm_bv at h ⊢
    split at h
    · rw [hq _ rfl]; exact hf _ _ (e [] _) h
    · cases h
  · unfold xm_bi at h ⊢
    split at h
    · rename_i x u
      rw [hq _ rfl]; exact hf _ _ (e [xv_i x] _) h
    · cases h
  · unfold xm_bl at h ⊢
    split at h
    · rename_i x u
      rw [hq _ rfl]; exact hf _ _ (e [xv_l x] _) h
    · cases h
  · unfold xm_bc at h ⊢
    split at h
    · rename_i x u
      rw [hq _ rfl]; exact hf _ _ (e [.inr (.inr (.inl x))] _) h
    · cases h
  · rename_i n0 n1 n2 n3
    unfold xm_bo at h ⊢
    split at h
    · rename_i x u
      rw [hq _ rfl]
      exact hf _ _ (e [.inr (.inr (.inr x))] _) h
    · cases h
theorem xR_call {c : Option Prop} {z kd : Nat} {a : List xm_V} {s t : xm_S} (h : xm_sR s t) : xm_aR (some (.inr (.inr (.inr (.inr (.inr (c, z, a, kd, s))))))) (some (.inr (.inr (.inr (.inr (.inr (c, z, a, kd, t))))))) := by
  intro f g c' d r hf hc h1
  have eu : s.2.2.2 = t.2.2.2 := by rw [h.2.2]
  cases c with
  | none =>
    change xm_bk kd (c' z a s.2.2.2) f s = some r at h1
    change xm_bk kd (d z a t.2.2.2) g t = some r
    refine xR_bk (fun w hw => ?_) h hf h1
    rw [← eu]
    exact hc _ _ _ _ hw
  | some p =>
    change xm_if p (xm_bk kd (c' z a s.2.2.2) f s) none = some r at h1
    change xm_if p (xm_bk kd (d z a t.2.2.2) g t) none = some r
    by_cases hp : p
    · rw [xm_if_t hp] at h1 ⊢
      refine xR_bk (fun w hw => ?_) h hf h1
      rw [← eu]
      exact hc _ _ _ _ hw
    · rw [xm_if_f hp] at h1
      cases h1
theorem xm_le_len {a b : xm_L} (h : xm_le a b) : a.length = b.length := h.1
theorem xm_le_clob {ls ls' : xm_L} (h : xm_le ls ls') (k : Nat) : xm_le (xm_clob ls k) (xm_clob ls' k) := by
  have hl : ∀ (l : xm_L) (k : Nat), (xm_clob l k).length = l.length := by
    intro l k
    unfold xm_clob
    split
    · rfl
    · split <;> simp
  refine ⟨by rw [hl, hl]; exact h.1, fun i v hv => ?_⟩
  unfold xm_clob at hv ⊢
  cases k with
  | zero => exact h.2 i v hv
  | succ j =>
    dsimp only at hv ⊢
    cases hj : ls[j]? with
    | none =>
      rw [hj] at hv
      have hn : ls'[j]? = none := by
        rw [List.getElem?_eq_none_iff] at hj ⊢
        rw [← h.1]
        exact hj
      rw [hn]
      exact h.2 i v hv
    | some o =>
      cases o with
      | none =>
        rw [hj] at hv
        by_cases e : i = j
        · subst e
          rw [hj] at hv
          cases hv
        · split
          · rw [List.getElem?_set_ne (Ne.symm e)]
            exact h.2 i v hv
          · exact h.2 i v hv
      | some w =>
        have hj' := h.2 j w hj
        rw [hj] at hv
        rw [hj']
        match w, hv with
        | .inr (.inl x), hv =>
          dsimp only at hv ⊢
          by_cases e : i = j
          · subst e
            rw [List.getElem?_set_self (List.getElem?_eq_some_iff.mp hj).1] at hv
            cases hv
          · rw [List.getElem?_set_ne (Ne.symm e)] at hv ⊢
            exact h.2 i v hv
        | .inl x, hv => exact h.2 i v hv
        | .inr (.inr x), hv => exact h.2 i v hv
theorem xm_le_set {a b : xm_L} (h : xm_le a b) (k : Nat) (o : Option xm_V) : xm_le (a.set k o) (b.set k o) := by
  refine ⟨by simp [h.1], fun i v hv => ?_⟩
  by_cases e : i = k
  · subst e
    have hl : i < a.length := by
      have := (List.getElem?_eq_some_iff.mp hv).1
      simpa using this
    rw [List.getElem?_set_self hl] at hv
    rw [List.getElem?_set_self (by rw [← h.1]; exact hl)]
    exact hv
  · rw [List.getElem?_set_ne (Ne.symm e)] at hv ⊢
    exact h.2 i v hv
theorem xm_le_s1 {ls ls' : xm_L} (h : xm_le ls ls') (k : Nat) (v : xm_V) : xm_le (xm_s1 ls k v) (xm_s1 ls' k v) := xm_le_set (xm_le_clob h k) k _
theorem xm_le_s2 {ls ls' : xm_L} (h : xm_le ls ls') (k : Nat) (v : xm_V) : xm_le (xm_s2 ls k v) (xm_s2 ls' k v) := xm_le_set (xm_le_set (xm_le_clob h k) k _) _ _
section MO
variable {cd is : List xm_I} {ls ls' : xm_L} {st : List xm_V} {u : xm_U} {o : List Nat} {k : Nat} {rt : Option FieldType}
theorem xR_lds (h : xm_le ls ls') : xm_aR (xm_lds ls k is st u) (xm_lds ls' k is st u) := by
  unfold xm_lds
  split
  · rename_i x hx
    rw [h.2 k _ hx]
    exact xR_go ⟨rfl, h, rfl⟩
  · exact xR_none _
theorem xR_ldl (h : xm_le ls ls') : xm_aR (xm_ldl ls k is st u) (xm_ldl ls' k is st u) := by
  unfold xm_ldl
  split
  · rename_i x hx
    rw [h.2 k _ hx]
    exact xR_go ⟨rfl, h, rfl⟩
  · exact xR_none _
theorem xR_lda (h : xm_le ls ls') : xm_aR (xm_lda ls k is st u) (xm_lda ls' k is st u) := by
  unfold xm_lda
  split
  · rename_i x hx
    rw [h.2 k _ hx]
    exact xR_go ⟨rfl, h, rfl⟩
  · rename_i x hx
    rw [h.2 k _ hx]
    exact xR_go ⟨rfl, h, rfl⟩
  · rename_i x hx
    rw [h.2 k _ hx]
    exact xR_go ⟨rfl, h, rfl⟩
  · rename_i x hx
    rw [h.2 k _ hx]
    exact xR_go ⟨rfl, h, rfl⟩
  · exact xR_none _
theorem xR_sti (h : xm_le ls ls') : xm_aR (xm_sti ls k is st u) (xm_sti ls' k is st u) := by
  unfold xm_sti
  rw [h.1]
  split
  · cases Nat.blt k ls'.length
    · exact xR_none _
    · exact xR_go ⟨rfl, xm_le_s1 h _ _, rfl⟩
  · exact xR_none _
theorem xR_sta (h : xm_le ls ls') : xm_aR (xm_sta ls k is st u) (xm_sta ls' k is st u) := by
  unfold xm_sta
  rw [h.1]
  split
  · cases Nat.blt k ls'.length
    · exact xR_none _
    · exact xR_go ⟨rfl, xm_le_s1 h _ _, rfl⟩
  · exact xR_none _
theorem xR_stl (h : xm_le ls ls') : xm_aR (xm_stl ls k is st u) (xm_stl ls' k is st u) := by
  unfold xm_stl
  rw [h.1]
  split
  · cases Nat.blt (k + 1) ls'.length
    · exact xR_none _
    · exact xR_go ⟨rfl, xm_le_s2 h _ _, rfl⟩
  · exact xR_none _
theorem xR_i2 {f : Int32 → Int32 → Int32} (h : xm_le ls ls') : xm_aR (xm_i2 f ls is st u) (xm_i2 f ls' is st u) := by
  unfold xm_i2
  split <;> first | exact xR_none _ | exact xR_go ⟨rfl, h, rfl⟩
theorem xR_l2 {f : Int64 → Int64 → Int64} (h : xm_le ls ls') : xm_aR (xm_l2 f ls is st u) (xm_l2 f ls' is st u) := by
  unfold xm_l2
  split <;> first | exact xR_none _ | exact xR_go ⟨rfl, h, rfl⟩
theorem xR_i1 {f : Int32 → Int32} (h : xm_le ls ls') : xm_aR (xm_i1 f ls is st u) (xm_i1 f ls' is st u) := by
  unfold xm_i1
  split <;> first | exact xR_none _ | exact xR_go ⟨rfl, h, rfl⟩
theorem xR_if1 {f : Int32 → Prop} (h : xm_le ls ls') : xm_aR (xm_if1 f cd o ls is st u) (xm_if1 f cd o ls' is st u) := by
  unfold xm_if1
  split <;> first | exact xR_none _ | exact xR_br ⟨rfl, h, rfl⟩ ⟨rfl, h, rfl⟩
theorem xR_if2 {f : Int32 → Int32 → Prop} (h : xm_le ls ls') : xm_aR (xm_if2 f cd o ls is st u) (xm_if2 f cd o ls' is st u) := by
  unfold xm_if2
  split <;> first | exact xR_none _ | exact xR_br ⟨rfl, h, rfl⟩ ⟨rfl, h, rfl⟩
theorem xR_getf (h : xm_le ls ls') : xm_aR (xm_getf o ls is st u) (xm_getf o ls' is st u) := by
  unfold xm_getf
  split
  · split <;> first | exact xR_none _ | exact xR_gd ⟨rfl, h, rfl⟩
  · exact xR_gd ⟨rfl, h, rfl⟩
  · exact xR_gd ⟨rfl, h, rfl⟩
  · exact xR_none _
theorem xR_putf (h : xm_le ls ls') : xm_aR (xm_putf o ls is st u) (xm_putf o ls' is st u) := by
  unfold xm_putf
  split
  · split <;> first | exact xR_none _ | exact xR_gd ⟨rfl, h, rfl⟩
  · split <;> first | exact xR_none _ | exact xR_gd ⟨rfl, h, rfl⟩
  · exact xR_none _
theorem xR_gets (h : xm_le ls ls') : xm_aR (xm_gets o ls is st u) (xm_gets o ls' is st u) := by
  unfold xm_gets
  split <;> first | exact xR_none _ | exact xR_go ⟨rfl, h, rfl⟩
theorem xR_iald (h : xm_le ls ls') : xm_aR (xm_iald ls is st u) (xm_iald ls' is st u) := by
  unfold xm_iald
  split <;> first | exact xR_none _ | exact xR_gd ⟨rfl, h, rfl⟩
theorem xR_bald (h : xm_le ls ls') : xm_aR (xm_bald ls is st u) (xm_bald ls' is st u) := by
  unfold xm_bald
  split <;> first | exact xR_none _ | exact xR_gd ⟨rfl, h, rfl⟩
theorem xR_iast (h : xm_le ls ls') : xm_aR (xm_iast ls is st u) (xm_iast ls' is st u) := by
  unfold xm_iast
  split <;> first | exact xR_none _ | exact xR_gd ⟨rfl, h, rfl⟩
theorem xR_bast (h : xm_le ls ls') : xm_aR (xm_bast ls is st u) (xm_bast ls' is st u) := by
  unfold xm_bast
  split <;> first | exact xR_none _ | exact xR_gd ⟨rfl, h, rfl⟩
theorem xR_aald (h : xm_le ls ls') : xm_aR (xm_aald ls is st u) (xm_aald ls' is st u) := by
  unfold xm_aald
  split <;> first | exact xR_none _ | exact xR_gd ⟨rfl, h, rfl⟩
theorem xR_alen (h : xm_le ls ls') : xm_aR (xm_alen ls is st u) (xm_alen ls' is st u) := by
  unfold xm_alen
  split <;> first | exact xR_none _ | exact xR_gd ⟨rfl, h, rfl⟩ | exact xR_go ⟨rfl, h, rfl⟩
theorem xR_cal {c : Option Prop} {z n : Nat} (h : xm_le ls ls') : xm_aR (xm_cal c z n ls is st u) (xm_cal c z n ls' is st u) := by
  unfold xm_cal
  generalize (Nat.ble (xm_cats (st.drop n)) 8 && (Nat.beq (st.take n).length n && Nat.ble (xm_slo (st.take n).reverse).length (xm_mx z))) = b
  cases b
  · exact xR_none _
  · exact xR_call ⟨rfl, h, rfl⟩
theorem xR_invs (h : xm_le ls ls') : xm_aR (xm_invs o ls is st u) (xm_invs o ls' is st u) := by
  unfold xm_invs
  split
  · split
    · cases Nat.ble _ 8 <;> first | exact xR_none _ | exact xR_go ⟨rfl, h, rfl⟩
    · exact xR_none _
  · split
    · cases Nat.ble _ 8 <;> first | exact xR_none _ | exact xR_go ⟨rfl, h, rfl⟩
    · exact xR_none _
  · split
    · cases Nat.ble _ 8 <;> first | exact xR_none _ | exact xR_gd ⟨rfl, h, rfl⟩
    · exact xR_none _
  · cases Nat.beq _ 50
    · exact xR_none _
    · exact xR_cal h
  · exact xR_none _
theorem xR_invv (h : xm_le ls ls') : xm_aR (xm_invv o ls is st u) (xm_invv o ls' is st u) := by
  unfold xm_invv
  split
  · split
    · cases Nat.blt _ 5
      · exact xR_none _
      · exact xR_cal h
    · cases Nat.beq _ 10
      · exact xR_none _
      · exact xR_cal h
    · exact xR_none _
  · exact xR_none _
theorem xR_rei : xm_aR (xm_rei rt st u) (xm_rei rt st u) := by
  unfold xm_rei
  split
  · split <;> first | exact xR_re _ | exact xR_gr | exact xR_none _
  · exact xR_none _
theorem xR_swt {ks : List Int32} (h : xm_le ls ls') : xm_aR (xm_swt cd o ks ls st u) (xm_swt cd o ks ls' st u) := by
  unfold xm_swt
  split
  · exact xR_sw h
  · exact xR_none _
theorem xR_step {x : xm_I} (h : xm_le ls ls') : xm_aR (xm_step cd rt x is ls st u) (xm_step cd rt x is ls' st u) := by
  unfold xm_step
  split
  all_goals first | exact xR_lds h | exact xR_ldl h | exact xR_lda h | exact xR_sti h | exact xR_sta h | exact xR_stl h | exact xR_i2 h | exact xR_l2 h | exact xR_i1 h | exact xR_if1 h | exact xR_if2 h | exact xR_getf h | exact xR_putf h | exact xR_gets h | exact xR_iald h | exact xR_bald h | exact xR_iast h | exact xR_bast h | exact xR_aald h | exact xR_alen h | exact xR_invs h | exact xR_invv h | exact xR_rei | exact xR_swt h | exact xR_none _ | exact xR_go ⟨rfl, h, rfl⟩ | (split <;> first | exact xR_none _ | exact xR_go ⟨rfl, h, rfl⟩ | exact xR_gd ⟨rfl, h, rfl⟩ | exact xR_re _ | (rename_i y v hy1 hy2; rw [h.2 _ _ hy1, hy2]; exact xR_go ⟨rfl, xm_le_s1 h _ _, rfl⟩))
end MO
theorem xm_ev_mono : ∀ (n y : Nat) (s t : xm_S) (r : xm_R), xm_sR s t → xm_ev n y s = some r → xm_ev n y t = some r := by
  intro n
  induction n with
  | zero => intro y s t r h1 h; cases h
  | succ n ih =>
    intro y s t r h1 h
    obtain ⟨is, ls, st, u⟩ := s
    obtain ⟨is', ls', st', u'⟩ := t
    obtain ⟨e1, e2, e3⟩ := h1
    dsimp only at e1 e2 e3
    cases e3
    subst e1
    cases is with
    | nil => cases h
    | cons x is =>
      rw [xm_ev_cons] at h ⊢
      exact xR_step e2 _ _ _ _ r (fun s t hs h => ih y s t r hs h) (fun z b u w hw => hw) h
/-- the known locals that nobody needs any more are let go -/
theorem xm_E_mono {y : Nat} {is : List xm_I} {ls ls' : xm_L} {st : List xm_V} {u : xm_U} {r : xm_R} (h : xm_le ls ls') (h1 : xm_E y (is, ls, st, u) = some r) : xm_E y (is, ls', st, u) = some r := by
  obtain ⟨n, hn⟩ := xm_E_iff.mp h1
  exact xm_E_iff.mpr ⟨n, xm_ev_mono n y (is, ls, st, u) (is, ls', st, u) r ⟨rfl, h, rfl⟩ hn⟩
