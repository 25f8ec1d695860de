/-! the script stays -/
def xm_aX (X : Nat × (Nat → Int32)) (a : xm_A) : Prop := match a with
  | none => True
  | some (.inl r) => r.2.2.2 = X
  | some (.inr (.inl s)) => s.2.2.2.2.2 = X
  | some (.inr (.inr (.inl (_, .inl r)))) => r.2.2.2 = X
  | some (.inr (.inr (.inl (_, .inr s)))) => s.2.2.2.2.2 = X
  | some (.inr (.inr (.inr (.inl (_, s, t))))) => s.2.2.2.2.2 = X ∧ t.2.2.2.2.2 = X
  | some (.inr (.inr (.inr (.inr (.inl (_, l, d)))))) => (∀ q ∈ l, q.2.2.2.2.2.2 = X) ∧ d.2.2.2.2.2 = X
  | some (.inr (.inr (.inr (.inr (.inr (_, _, _, _, s)))))) => s.2.2.2.2.2 = X
section SX
variable {cd is : List xm_I} {ls : xm_L} {st : List xm_V} {u : xm_U} {o : List Nat} {k : Nat} {rt : Option FieldType}
theorem xX_lds : xm_aX u.2.2 (xm_lds ls k is st u) := by
  unfold xm_lds
  split <;> first | exact rfl | exact True.intro
theorem xX_ldl : xm_aX u.2.2 (xm_ldl ls k is st u) := by
  unfold xm_ldl
  split <;> first | exact rfl | exact True.intro
theorem xX_lda : xm_aX u.2.2 (xm_lda ls k is st u) := by
  unfold xm_lda
  split <;> first | exact rfl | exact True.intro
theorem xX_sti : xm_aX u.2.2 (xm_sti ls k is st u) := by
  unfold xm_sti
  split
  · cases Nat.blt _ ls.length <;> first | exact rfl | exact True.intro
  · exact True.intro
theorem xX_sta : xm_aX u.2.2 (xm_sta ls k is st u) := by
  unfold xm_sta
  split
  · cases Nat.blt _ ls.length <;> first | exact rfl | exact True.intro
  · exact True.intro
theorem xX_stl : xm_aX u.2.2 (xm_stl ls k is st u) := by
  unfold xm_stl
  split
  · cases Nat.blt _ ls.length <;> first | exact rfl | exact True.intro
  · exact True.intro
theorem xX_i2 {f : Int32 → Int32 → Int32} : xm_aX u.2.2 (xm_i2 f ls is st u) := by
  unfold xm_i2
  split <;> first | exact rfl | exact True.intro
theorem xX_l2 {f : Int64 → Int64 → Int64} : xm_aX u.2.2 (xm_l2 f ls is st u) := by
  unfold xm_l2
  split <;> first | exact rfl | exact True.intro
theorem xX_i1 {f : Int32 → Int32} : xm_aX u.2.2 (xm_i1 f ls is st u) := by
  unfold xm_i1
  split <;> first | exact rfl | exact True.intro
theorem xX_if1 {f : Int32 → Prop} : xm_aX u.2.2 (xm_if1 f cd o ls is st u) := by
  unfold xm_if1
  split <;> first | exact ⟨rfl, rfl⟩ | exact True.intro
theorem xX_if2 {f : Int32 → Int32 → Prop} : xm_aX u.2.2 (xm_if2 f cd o ls is st u) := by
  unfold xm_if2
  split <;> first | exact ⟨rfl, rfl⟩ | exact True.intro
theorem xX_getf : xm_aX u.2.2 (xm_getf o ls is st u) := by
  unfold xm_getf
  split <;> first | exact rfl | exact True.intro | (split <;> first | exact rfl | exact True.intro)
theorem xX_putf : xm_aX u.2.2 (xm_putf o ls is st u) := by
  unfold xm_putf
  split <;> first | exact rfl | exact True.intro | (split <;> first | exact rfl | exact True.intro)
theorem xX_gets : xm_aX u.2.2 (xm_gets o ls is st u) := by
  unfold xm_gets
  split <;> first | exact rfl | exact True.intro
theorem xX_iald : xm_aX u.2.2 (xm_iald ls is st u) := by
  unfold xm_iald
  split <;> first | exact rfl | exact True.intro
theorem xX_bald : xm_aX u.2.2 (xm_bald ls is st u) := by
  unfold xm_bald
  split <;> first | exact rfl | exact True.intro
theorem xX_iast : xm_aX u.2.2 (xm_iast ls is st u) := by
  unfold xm_iast
  split <;> first | exact rfl | exact True.intro
theorem xX_bast : xm_aX u.2.2 (xm_bast ls is st u) := by
  unfold xm_bast
  split <;> first | exact rfl | exact True.intro
theorem xX_aald : xm_aX u.2.2 (xm_aald ls is st u) := by
  unfold xm_aald
  split <;> first | exact rfl | exact True.intro
theorem xX_alen : xm_aX u.2.2 (xm_alen ls is st u) := by
  unfold xm_alen
  split <;> first | exact rfl | exact True.intro
theorem xX_cal {c : Option Prop} {z n : Nat} : xm_aX u.2.2 (xm_cal c z n ls is st u) := by
  unfold xm_cal
  generalize (Nat.ble (xm_cats (st.drop n)) 8 && (Nat.beq (st.take n).length n && Nat.ble (xm_slo (st.take n).reverse).length (xm_mx z))) = b
  cases b <;> first | exact rfl | exact True.intro
theorem xX_invs : xm_aX u.2.2 (xm_invs o ls is st u) := by
  unfold xm_invs
  split
  · split
    · cases Nat.ble _ 8 <;> first | exact rfl | exact True.intro
    · exact True.intro
  · split
    · cases Nat.ble _ 8 <;> first | exact rfl | exact True.intro
    · exact True.intro
  · split
    · cases Nat.ble _ 8 <;> first | exact rfl | exact True.intro
    · exact True.intro
  · cases Nat.beq _ 50
    · exact True.intro
    · exact xX_cal
  · exact True.intro
theorem xX_invv : xm_aX u.2.2 (xm_invv o ls is st u) := by
  unfold xm_invv
  split
  · split
    · cases Nat.blt _ 5
      · exact True.intro
      · exact xX_cal
    · cases Nat.beq _ 10
      · exact True.intro
      · exact xX_cal
    · exact True.intro
  · exact True.intro
theorem xX_rei : xm_aX u.2.2 (xm_rei rt st u) := by
  unfold xm_rei
  split
  · split <;> first | exact rfl | exact True.intro
  · exact True.intro
theorem xX_swt {ks : List Int32} : xm_aX u.2.2 (xm_swt cd o ks ls st u) := by
  unfold xm_swt
  split
  · refine ⟨fun q hq => ?_, rfl⟩
    obtain ⟨p, -, rfl⟩ := List.mem_map.mp hq
    rfl
  · exact True.intro
theorem xX_step {x : xm_I} : xm_aX u.2.2 (xm_step cd rt x is ls st u) := by
  unfold xm_step
  split <;> first | exact xX_lds | exact xX_ldl | exact xX_lda | exact xX_sti | exact xX_sta | exact xX_stl | exact xX_i2 | exact xX_l2 | exact xX_i1 | exact xX_if1 | exact xX_if2 | exact xX_getf | exact xX_putf | exact xX_gets | exact xX_iald | exact xX_bald | exact xX_iast | exact xX_bast | exact xX_aald | exact xX_alen | exact xX_invs | exact xX_invv | exact xX_rei | exact xX_swt | exact rfl | exact True.intro | (split <;> first | exact rfl | exact True.intro)
end SX
theorem xm_bk_inv {kd : Nat} {q : Option xm_R} {f : xm_S → Option xm_R} {s : xm_S} {r : xm_R} (h : xm_bk kd q f s = some r) : ∃ w : xm_R, q = some w ∧ f (s.1, s.2.1, w.1.toList ++ s.2.2.1, w.2) = some r := by
  unfold xm_bk at h
  split at h
  · unfold xm_bv at h
    split at h
    · exact ⟨_, rfl, h⟩
    · cases h
  · unfold xm_bi at h
    split at h
    · exact ⟨_, rfl, h⟩
    · cases h
  · unfold xm_bl at h
    split at h
    · exact ⟨_, rfl, h⟩
    · cases h
  · unfold xm_bc at h
    split at h
    · exact ⟨_, rfl, h⟩
    · cases h
  · unfold xm_bo at h
    split at h
    · exact ⟨_, rfl, h⟩
    · cases h
theorem xm_sw_inv {X : Nat × (Nat → Int32)} {f : xm_S → Option xm_R} {v : Int32} {l : List (Int32 × xm_S)} {d : xm_S} {r : xm_R} (h : xm_sw v (l.map (fun q => (q.1, f q.2))) (f d) = some r) (hl : ∀ q ∈ l, q.2.2.2.2.2.2 = X) (hd : d.2.2.2.2.2 = X) : ∃ s : xm_S, f s = some r ∧ s.2.2.2.2.2 = X := by
  induction l with
  | nil => exact ⟨d, h, hd⟩
  | cons a l ih =>
    obtain ⟨k, s⟩ := a
    by_cases c : v = k
    · exact ⟨s, by simpa [xm_sw, xm_if_t c] using h, hl (k, s) List.mem_cons_self⟩
    · exact ih (by simpa [xm_sw, xm_if_f c] using h) (fun q hq => hl q (List.mem_cons_of_mem _ hq))
theorem xm_ev_X : ∀ (n y : Nat) (s : xm_S) (r : xm_R), xm_ev n y s = some r → r.2.2.2 = s.2.2.2.2.2 := by
  intro n
  induction n with
  | zero => intro y s r h; cases h
  | succ n ih =>
    intro y s r h
    obtain ⟨is, ls, st, u⟩ := s
    cases is with
    | nil => cases h
    | cons x is =>
      rw [xm_ev_cons] at h
      have hX := xX_step (cd := xm_cod y) (rt := xm_rt y) (x := x) (is := is) (ls := ls) (st := st) (u := u)
      generalize xm_step (xm_cod y) (xm_rt y) x is ls st u = a at h hX
      show r.2.2.2 = u.2.2
      match a, h, hX with
      | none, h, _ => cases h
      | some (.inl q), h, hX => cases h; exact hX
      | some (.inr (.inl s)), h, hX => exact (ih y s r h).trans hX
      | some (.inr (.inr (.inl (c, .inl q)))), h, hX =>
        by_cases hc : c
        · have h' : some q = some r := by simpa [xm_run, xm_tt, xm_if_t hc] using h
          cases h'
          exact hX
        · simp [xm_run, xm_if_f hc] at h
      | some (.inr (.inr (.inl (c, .inr s)))), h, hX =>
        by_cases hc : c
        · have h' : xm_ev n y s = some r := by simpa [xm_run, xm_tt, xm_if_t hc] using h
          exact (ih y s r h').trans hX
        · simp [xm_run, xm_if_f hc] at h
      | some (.inr (.inr (.inr (.inl (c, s, t))))), h, hX =>
        by_cases hc : c
        · have h' : xm_ev n y s = some r := by simpa [xm_run, xm_if_t hc] using h
          exact (ih y s r h').trans hX.1
        · have h' : xm_ev n y t = some r := by simpa [xm_run, xm_if_f hc] using h
          exact (ih y t r h').trans hX.2
      | some (.inr (.inr (.inr (.inr (.inl (v, l, d)))))), h, hX =>
        obtain ⟨s, h1, h2⟩ := xm_sw_inv h hX.1 hX.2
        exact (ih y s r h1).trans h2
      | some (.inr (.inr (.inr (.inr (.inr (none, z, b, kd, s)))))), h, hX =>
        obtain ⟨w, h1, h2⟩ := xm_bk_inv h
        exact (ih y _ r h2).trans ((ih z _ w h1).trans hX)
      | some (.inr (.inr (.inr (.inr (.inr (some c, z, b, kd, s)))))), h, hX =>
        by_cases hc : c
        · have h' : xm_bk kd (xm_ev n z (xm_cod z, xm_ent (xm_mx z) b, [], s.2.2.2)) (xm_ev n y) s = some r := by simpa [xm_run, xm_if_t hc] using h
          obtain ⟨w, h1, h2⟩ := xm_bk_inv h'
          exact (ih y _ r h2).trans ((ih z _ w h1).trans hX)
        · simp [xm_run, xm_if_f hc] at h
/-! soundness, as it is proved by induction on the fuel -/
def xm_P (n : Nat) : Prop := ∀ (K : xm_K) (X : Nat × (Nat → Int32)) (y : Nat) (q : xm_M) (r : xm_R), xm_tab[y]? = some q → xm_Kx K X q → xm_Kr K q r →
  ∀ (j : Nat) (x : xm_I) (is : List xm_I) (ls : xm_L) (st : List xm_V) (u : xm_U), (xm_cod y).drop j = x :: is → xm_ev n y (x :: is, ls, st, u) = some r → u.2.2 = X → xm_Wk K x.1 ls st u
/-! a call: the contract of the callee at this state -/
def xm_Pc (A : Nat → Prop) (ad ro : Nat × Nat → Nat) (vq : Value) (cA : Nat → ClassId) (D : va_G) (X : Nat × (Nat → Int32)) (a : List xm_V) (u : xm_U) : Array Value → State → Prop :=
  va_Pc (a.map (xm_cv ad ro vq)) (fun U => va_P D xm_cl (xm_wl ad cA u) U.heap ∧ va_K D xm_cl (xm_tys cA) U ∧ xm_X A ro vq X U U.heap ∧ ∀ a : Nat, U.heap.size ≤ a → A a)
def xm_Qc (A : Nat → Prop) (ad ro : Nat × Nat → Nat) (vq : Value) (cA : Nat → ClassId) (D : va_G) (r : xm_R) : Array Value → State → Outcome → State → Prop :=
  fun _ st o t => o = .returned (r.1.map (xm_cv ad ro vq)) ∧ va_P D xm_cl (xm_wl ad cA r.2) t.heap ∧ va_F A st t
def xm_rm (q : xm_M) : Room := { frames := xm_frl q, cells := 0, slots := 0, locals := xm_lol q }
def xm_ws (q : xm_M) : List Cond := Cond.code q.1 q.2.1 q.2.2.1 q.2.2.2.1 :: xm_tb
theorem xm_cod_of {y : Nat} {q : xm_M} (hy : xm_tab[y]? = some q) : xm_cod y = q.2.2.2.2.1 ∧ xm_rt y = q.2.2.2.1 ∧ xm_mx y = q.2.2.1 ∧ ∀ k, xm_nu y k = q.2.2.2.2.2.1.getD k 0 := by
  refine ⟨?_, ?_, ?_, fun k => ?_⟩
  · simp [xm_cod, hy]
  · simp [xm_rt, hy]
  · simp [xm_mx, hy]
  · simp [xm_nu, hy]
theorem xm_plain {q : xm_M} (h : xm_chm q = true) : plainName q.1.cls = true := by
  unfold xm_chm at h
  split at h
  · exact (Bool.and_eq_true_iff.mp h).1
  · cases h
theorem xm_met {n : Nat} (ih : xm_P n) (l : Launch) {A : Nat → Prop} {ad ro : Nat × Nat → Nat} {vq : Value} {cA : Nat → ClassId} {D : va_G} {X : Nat × (Nat → Int32)} (hG : xm_G A ad) {z : Nat} {q : xm_M} (hz : xm_tab[z]? = some q) (hm : xm_chm q = true) {a : List xm_V} {u : xm_U} {r : xm_R} (hsl : (xm_slo a).length ≤ xm_mx z) (hev : xm_ev n z (xm_cod z, xm_ent (xm_mx z) a, [], u) = some r) (hu : u.2.2 = X) :
    Met l q.1 (xm_ws q) (xm_rm q) (xm_Pc A ad ro vq cA D X a u) (xm_Qc A ad ro vq cA D r) 0 0 A := by
  obtain ⟨hcd, hrt, hmx, -⟩ := xm_cod_of hz
  refine Met.ofW (cc := q.2.1) (maxL := q.2.2.1) (ret := q.2.2.2.1) (xm_plain hm) rfl ?_
  intro p e s m args below meth c s₁ B hml hv
  obtain ⟨rfl, hP, hK, hX, hA⟩ := hv
  have hx := B.exec
  have hb := B.bytes
  have hr := B.returns
  have hts := atoms_spec (ws := xm_ws q) B.pre
  have hown : s.vm.findClass q.1.cls = some m.cls := findClass_of_methodNamed B.named
  have hlocks := B.notSynchronized
  obtain ⟨rv, ur⟩ := r
  let K : xm_K := (p, l, e, xm_rm q, s, m, (a.map (xm_cv ad ro vq)).toArray, below, meth, c, 0, 0, MQ below (xm_Qc A ad ro vq cA D (rv, ur)) (a.map (xm_cv ad ro vq)).toArray s 0 0 A, D, A, ad, ro, vq, cA)
  have hKx : xm_Kx K X q := ⟨hx, hb, hml, hown, fun w hw => hts w (List.mem_cons_of_mem _ hw), hK, hX, hG, hA, Nat.le_refl _, Nat.le_refl _, Nat.le_refl _, Nat.le_refl _⟩
  have hKr : xm_Kr K q (rv, ur) := by
    intro H locs als pc st hP1 hS hend
    rcases hend with ⟨hd, v, ty, rfl, e1, e2, e3⟩ | ⟨hd, v, rfl, e1, e2⟩ | ⟨hd, v, ty, ad', rfl, e1, e2, e3, e4⟩ | ⟨hd, rfl, e1, e2⟩
    · cases e1
      exact W.zret (v := v) (ty := ty) hx hb (hr.trans e2) e3 (fun t ht hW => ⟨rfl, by rw [ht]; exact hP1, hS.F ht⟩) hS.2.2 hd
    · cases e1
      exact W.lret (v := v) hx hb (hr.trans e2) (fun t ht hW => ⟨rfl, by rw [ht]; exact hP1, hS.F ht⟩) hS.2.2 hd
    · cases e1
      exact W.aret (v := xm_cv ad ro vq v) (rt := ty) hx hb (hr.trans e2) e3 (Or.inr ⟨ad', e4⟩) (fun t ht hW => ⟨rfl, by rw [ht]; exact hP1, hS.F ht⟩) hS.2.2 hd
    · cases e1
      exact W.vret hx hb (hr.trans e2) (fun t ht hW => ⟨rfl, by rw [ht]; exact hP1, hS.F ht⟩) hS.2.2 hd
  have hck := (Bool.and_eq_true_iff.mp (xm_chk_all z q hz)).1
  have hhead := of_decide_eq_true hck
  cases hcode : xm_cod z with
  | nil => rw [hcode] at hev; cases n <;> cases hev
  | cons x is =>
    have hx0 : x.1 = 0 := by
      rw [← hcd, hcode] at hhead
      simpa using hhead
    rw [hcode] at hev
    have hW := ih K X z q (rv, ur) hz hKx hKr 0 x is (xm_ent (xm_mx z) a) [] u (by rw [hcode]; rfl) hev hu
    rw [hx0] at hW
    rw [lg_entry_eq]
    have hcat := xm_cv_cat (ad := ad) (ro := ro) hX.2.2.2.2.2.2.2.2.2
    refine hW s.heap [] _ hP ?_ ?_ va_S.rf
    · rw [← hmx]
      exact xm_lr_ent hcat hsl
    · show (xm_ent (xm_mx z) a).length = c.maxLocals
      rw [hml, ← hmx]
      simp [xm_ent]
      omega
theorem xm_callrow {p : Program} {l : Launch} {e : Env} {R : Room} {s : State} {m : MethodId} {args : Array Value} {below : List Frame} {meth : Method} {c : Code} {H : Heap} {locs : List Loc} {cells slots : Nat} {Q : State → Prop} {A : Nat → Prop} {ad ro : Nat × Nat → Nat} {vq : Value} {cA : Nat → ClassId} {D : va_G} {w : xm_R} {a : Array Value} {pc : Nat} {als : Array Slot} {st0 rest : List Value}
    (hr : va_Run p l e R s m args below meth c H locs cells slots 0 0 (F0 m pc als st0) rest (xm_Qc A ad ro vq cA D w a) A) (hS : va_S A s.heap H locs)
    (kk : ∀ (H1 : Heap) (locs1 : List Loc), va_P D xm_cl (xm_wl ad cA w.2) H1 → va_S A s.heap H1 locs1 → W p l e R s m args below meth c H1 locs1 cells slots Q (F0 m (pc + 3) als ((w.1.map (xm_cv ad ro vq)).toList ++ rest))) : W p l e R s m args below meth c H locs cells slots Q (F0 m pc als st0) := by
  intro T hT X
  obtain ⟨v, st₀, t, T', L, h0, X', hL, e1, e2, ⟨hv, hp, hz, hk⟩, st⟩ := hr T hT X
  cases hv
  rw [h0] at hz hk
  obtain ⟨t2, a1, b1⟩ := kk T'.heap (locs ++ L) (by rw [e1]; exact hp) ⟨Nat.le_trans hS.1 (by rw [e1]; exact hz), fun q h1 h2 => by rw [e1, hk q (Nat.lt_of_lt_of_le h1 hS.1) h2]; exact hS.2.1 q h1 h2, fun q hq => by
      rcases List.mem_append.mp hq with h | h
      · exact hS.2.2 q h
      · exact hL q h⟩ T' rfl X'
  exact ⟨t2, st t2 a1, b1⟩
theorem xm_goodIn {ws : List Cond} (h : ∀ w ∈ ws, w ∈ xm_tb) : GoodIn xm_tb ws := fun w hw => ⟨h w hw, good_of_word (List.mem_filter.mp (h w hw)).2⟩
section XC
variable {K : xm_K} {X : Nat × (Nat → Int32)} {q : xm_M} {pc : Nat} {ls : xm_L} {st : List xm_V} {u : xm_U}
/-- what the callee asks for, at the caller's heap -/
theorem xk_pre (hK : xm_Kx K X q) {a : List xm_V} {H : Heap} {locs : List Loc} (hP : va_P (xk_D K) xm_cl (xm_wl (xk_ad K) (xk_cA K) u) H) (hS : va_S (xk_A K) (xk_s K).heap H locs) :
    FrameBlind (xm_Pc (xk_A K) (xk_ad K) (xk_ro K) (xk_vq K) (xk_cA K) (xk_D K) X a u) ∧ ∀ U : State, U.heap = H → (xk_s K).WarmedH U.vm → xm_Pc (xk_A K) (xk_ad K) (xk_ro K) (xk_vq K) (xk_cA K) (xk_D K) X a u (a.map (xk_cv K)).toArray U := by
  obtain ⟨hx, hb, hml, hown, hts, hKK, hX, hG, hA, hfr, hlo, hce, hsl⟩ := hK
  refine ⟨fun b U g mk z => ?_, fun U hU hW => ?_⟩
  · obtain ⟨z0, z1, z2, z3, z4⟩ := z
    exact ⟨z0, z1, va_K.moved (u := U) (U := U.calling g mk b) (Vm.Alike.refl U.vm) z2, xm_X.same (s := U) (U := U.calling g mk b) rfl z3, z4⟩
  · refine ⟨rfl, by rw [hU]; exact hP, va_K.moved hW.alike hKK, ?_, fun a ha => ?_⟩
    · rw [hU]
      exact xm_X.moved hW (hX.kept hS.2.1)
    · rw [hU] at ha
      exact hA a (Nat.le_trans hS.1 ha)
theorem xk_callS {n : Nat} (ih : xm_P n) (hK : xm_Kx K X q) {z idx : Nat} {qz : xm_M} (hz : xm_tab[z]? = some qz) (hz2 : z < 201) (hd : decode q.2.1 pc = .ok (.invokestatic idx, 3)) (hlink : Cond.methodLink q.1.cls idx qz.1 ∈ xm_tb) (hf1 : xm_frl qz + 1 ≤ xm_frl q) (hl1 : 8 + (qz.2.2.1 + 11) + xm_lol qz ≤ xm_lol q) (hst : xm_nu z 2 = 50) {w : xm_R}
    (hev : xm_ev n z (xm_cod z, xm_ent (xm_mx z) (st.take (xm_nu z 3)).reverse, [], u) = some w) (hcs : xm_cats (st.drop (xm_nu z 3)) ≤ 8) (hn : (st.take (xm_nu z 3)).length = xm_nu z 3) (hsl : (xm_slo (st.take (xm_nu z 3)).reverse).length ≤ xm_mx z) (hu : u.2.2 = X) (h : xm_Wk K (pc + 3) ls (w.1.toList ++ st.drop (xm_nu z 3)) w.2) : xm_Wk K pc ls st u := by
  have hm := xm_chm_all z qz hz hz2
  have hM := xm_met ih (xk_l K) (A := xk_A K) (ad := xk_ad K) (ro := xk_ro K) (vq := xk_vq K) (cA := xk_cA K) (D := xk_D K) hK.2.2.2.2.2.2.2.1 hz hm hsl hev hu
  have hsum := xk_sum hK
  have hpre := fun (H : Heap) (locs : List Loc) => xk_pre (u := u) (a := (st.take (xm_nu z 3)).reverse) (H := H) (locs := locs) hK
  obtain ⟨hx, hb, hml, hown, hts, hKK, hX, hG, hA, hfr, hlo, hce, hsl'⟩ := hK
  intro H locs als hP hL hnl hS
  obtain ⟨-, -, hmx, hnu⟩ := xm_cod_of hz
  have hmf := hm
  unfold xm_chm at hmf
  rw [hnu 2] at hst
  generalize hst3 : xm_nu z 3 = n3 at *
  split at hmf
  · rename_i f0 f1 f2 f3 f4 p0 p1 p2 p3 e1 e2
    rw [e1] at hst
    have hst : f2 = 50 := hst
    subst hst
    have hn3 : n3 = f3 := by rw [← hst3, hnu 3, e1]; rfl
    obtain ⟨g1, hmf⟩ := Bool.and_eq_true_iff.mp hmf
    obtain ⟨g2, hmf⟩ := Bool.and_eq_true_iff.mp hmf
    obtain ⟨g3, hmf⟩ := Bool.and_eq_true_iff.mp hmf
    obtain ⟨g4, hmf⟩ := Bool.and_eq_true_iff.mp hmf
    obtain ⟨g5, g6⟩ := Bool.and_eq_true_iff.mp hmf
    have g2 := of_decide_eq_true g2
    have g6 := of_decide_eq_true g6
    refine xm_callrow (va_runS (Ts := xm_tb) (nL := q.2.2.1) (As := ((st.take n3).reverse).map (xk_cv K)) (rest := (st.drop n3).map (xk_cv K)) ⟨hx, hb, hml, hown, hts⟩ hM (va_cwS f3 hts (xm_goodIn ?_) rfl rfl rfl ⟨g2.1, g2.2, g6⟩ ⟨?_, ?_⟩) (hpre H locs hP hS) rfl ?_ ?_ ?_ (lv_room ?_) hd ⟨hce, hsl'⟩) hS (fun H1 locs1 hP1 hS1 => ?_)
    · intro w hw
      rcases List.mem_append.mp hw with hw | hw
      · rcases List.mem_cons.mp hw with rfl | hw
        · exact hlink
        rcases List.mem_cons.mp hw with rfl | hw
        · exact xm_wd_in g5
        rcases List.mem_cons.mp hw with rfl | hw
        · exact xm_wd_in g3
        cases hw
      · rcases List.mem_cons.mp hw with rfl | hw
        · exact xm_wd_in g4
        · exact hw
    · exact Nat.le_trans hf1 hfr
    · exact Nat.le_trans hl1 hlo
    · rw [List.length_map, List.length_reverse, hn, hn3]
    · show als.size = _
      rw [hL.1, hnl, hml]
    · show st.map (xk_cv K) = _
      rw [← List.map_reverse, List.reverse_reverse, ← List.map_append, List.take_append_drop]
    · rw [hsum]
      exact hcs
    · have := h H1 locs1 als hP1 hL hnl hS1
      rw [List.map_append] at this
      have e : (w.1.map (xk_cv K)).toList = w.1.toList.map (xk_cv K) := by cases w.1 <;> rfl
      show W _ _ _ _ _ _ _ _ _ _ _ _ _ _ _ (F0 _ _ _ ((w.1.map (xk_cv K)).toList ++ _))
      rw [e]
      exact this
  · cases hmf
theorem xk_callV {n : Nat} (ih : xm_P n) (hK : xm_Kx K X q) {z idx b : Nat} {qz : xm_M} {v0 : xm_V} {C : String} (hz : xm_tab[z]? = some qz) (hz2 : z < 201) (hd : decode q.2.1 pc = .ok (.invokevirtual idx, 3)) (hlink : Cond.methodLink q.1.cls idx qz.1 ∈ xm_tb) (hf1 : xm_frl qz + 1 ≤ xm_frl q) (hl1 : 8 + (qz.2.2.1 + 11) + xm_lol qz ≤ xm_lol q) (hst : ¬ xm_nu z 2 = 50) {w : xm_R}
    (hv0 : (st.drop (xm_nu z 3 - 1)).head? = some v0) (hb0 : xk_cv K v0 = .ref b) (hC : qz.1.cls = C) (hrecv : ∀ (H : Heap) (locs : List Loc), va_P (xk_D K) xm_cl (xm_wl (xk_ad K) (xk_cA K) u) H → va_S (xk_A K) (xk_s K).heap H locs → ∃ cell : Cell, H[b]? = some cell ∧ cell.vm.isStatics = false ∧ (xk_s K).vm.findClass C = some cell.cls)
    (hev : xm_ev n z (xm_cod z, xm_ent (xm_mx z) (st.take (xm_nu z 3)).reverse, [], u) = some w) (hcs : xm_cats (st.drop (xm_nu z 3)) ≤ 8) (hn : (st.take (xm_nu z 3)).length = xm_nu z 3) (hsl : (xm_slo (st.take (xm_nu z 3)).reverse).length ≤ xm_mx z) (hu : u.2.2 = X) (h : xm_Wk K (pc + 3) ls (w.1.toList ++ st.drop (xm_nu z 3)) w.2) : xm_Wk K pc ls st u := by
  have hm := xm_chm_all z qz hz hz2
  have hM := xm_met ih (xk_l K) (A := xk_A K) (ad := xk_ad K) (ro := xk_ro K) (vq := xk_vq K) (cA := xk_cA K) (D := xk_D K) hK.2.2.2.2.2.2.2.1 hz hm hsl hev hu
  have hsum := xk_sum hK
  have hpre := fun (H : Heap) (locs : List Loc) => xk_pre (u := u) (a := (st.take (xm_nu z 3)).reverse) (H := H) (locs := locs) hK
  obtain ⟨hx, hb, hml, hown, hts, hKK, hX, hG, hA, hfr, hlo, hce, hsl'⟩ := hK
  intro H locs als hP hL hnl hS
  obtain ⟨-, -, hmx, hnu⟩ := xm_cod_of hz
  have hmf := hm
  unfold xm_chm at hmf
  rw [hnu 2] at hst
  generalize hst3 : xm_nu z 3 = n3 at *
  split at hmf
  · rename_i f0 f1 f2 f3 f4 p0 p1 p2 p3 e1 e2
    rw [e1] at hst
    have hst : ¬ f2 = 50 := hst
    have hn3 : n3 = f3 := by rw [← hst3, hnu 3, e1]; rfl
    obtain ⟨g1, hmf⟩ := Bool.and_eq_true_iff.mp hmf
    obtain ⟨g2, hmf⟩ := Bool.and_eq_true_iff.mp hmf
    obtain ⟨g3, hmf⟩ := Bool.and_eq_true_iff.mp hmf
    obtain ⟨g4, hmf⟩ := Bool.and_eq_true_iff.mp hmf
    have hbeq : Nat.beq f2 50 = false := by
      cases hq : Nat.beq f2 50 with
      | false => rfl
      | true => exact absurd (Nat.eq_of_beq_eq_true hq) hst
    rw [hbeq] at hmf
    have hmf : (xm_wd p0 (.instanceMethod qz.1) && (xm_wd p1 (.selects qz.1.cls qz.1 qz.1) && (decide ((parseMethodDescriptor qz.1.desc).map (fun d => d.parameters.length + 1) = some f3) && _))) = true := hmf
    obtain ⟨g5, hmf⟩ := Bool.and_eq_true_iff.mp hmf
    obtain ⟨g6, hmf⟩ := Bool.and_eq_true_iff.mp hmf
    obtain ⟨g7, -⟩ := Bool.and_eq_true_iff.mp hmf
    have g2 := of_decide_eq_true g2
    have g7 := of_decide_eq_true g7
    obtain ⟨sig, hsig, hsn⟩ : ∃ sig, parseMethodDescriptor qz.1.desc = some sig ∧ sig.parameters.length + 1 = f3 := by
      cases hq : parseMethodDescriptor qz.1.desc with
      | none => rw [hq] at g7; cases g7
      | some sig => rw [hq] at g7; exact ⟨sig, rfl, by simpa using g7⟩
    have h1 : 1 ≤ n3 := by omega
    obtain ⟨tl, htl⟩ : ∃ tl, st.drop (n3 - 1) = v0 :: tl := by
      cases hq : st.drop (n3 - 1) with
      | nil => rw [hq] at hv0; cases hv0
      | cons a tl => rw [hq] at hv0; cases hv0; exact ⟨tl, rfl⟩
    have hstE : st = st.take (n3 - 1) ++ v0 :: tl := by rw [← htl, List.take_append_drop]
    have hlen1 : (st.take (n3 - 1)).length = n3 - 1 := by
      rw [List.length_take] at hn ⊢
      omega
    have htake : st.take n3 = st.take (n3 - 1) ++ [v0] := by
      have : st.take n3 = (st.take (n3 - 1) ++ v0 :: tl).take n3 := by rw [← hstE]
      rw [this, List.take_append, hlen1, List.take_of_length_le (by omega), show n3 - (n3 - 1) = 1 by omega]
      rfl
    have hdrop : st.drop n3 = tl := by
      have : st.drop n3 = (st.take (n3 - 1) ++ v0 :: tl).drop n3 := by rw [← hstE]
      rw [this, List.drop_append, hlen1, List.drop_eq_nil_of_le (by omega), show n3 - (n3 - 1) = 1 by omega]
      rfl
    have hargs : ((st.take n3).reverse).map (xk_cv K) = Value.ref b :: ((st.take (n3 - 1)).reverse).map (xk_cv K) := by
      rw [htake, List.reverse_append]
      show (xk_cv K v0) :: _ = _
      rw [hb0]
      rfl
    have hpr := hpre H locs hP hS
    rw [hargs] at hpr
    subst hC
    have hrun := va_runV (g := F0 (xk_m K) pc als (st.map (xk_cv K))) (b := b) (Ts := xm_tb) (nL := q.2.2.1) (C := qz.1.cls) (As := ((st.take (n3 - 1)).reverse).map (xk_cv K)) (rest := tl.map (xk_cv K)) (cells := xk_n K) (slots := xk_k K) (e := xk_e K) (below := xk_b K) (meth := xk_h K) (locs := locs) (R := xk_R K) ⟨hx, hb, hml, hown, hts⟩ hM (cwV (index := idx) sig.parameters.length hts (xm_goodIn (by
        intro w hw
        rcases List.mem_append.mp hw with hw | hw
        · rcases List.mem_cons.mp hw with rfl | hw
          · exact hlink
          rcases List.mem_cons.mp hw with rfl | hw
          · exact xm_wd_in g5
          rcases List.mem_cons.mp hw with rfl | hw
          · exact xm_wd_in g6
          rcases List.mem_cons.mp hw with rfl | hw
          · exact xm_wd_in g3
          cases hw
        · rcases List.mem_cons.mp hw with rfl | hw
          · exact xm_wd_in g4
          · exact hw)) rfl rfl rfl ⟨rfl, g2.1, g2.2, by rw [hsig]; rfl⟩ ⟨Nat.le_trans hf1 hfr, Nat.le_trans hl1 hlo⟩) ⟨hpr.1, hrecv H locs hP hS, hpr.2⟩ rfl (by rw [List.length_map, List.length_reverse, hlen1]; omega) (by show als.size = _; rw [hL.1, hnl, hml]) (by
          show st.map (xk_cv K) = _
          rw [← List.map_reverse, List.reverse_reverse, ← hb0]
          conv => lhs; rw [hstE]
          rw [List.map_append]
          rfl) (lv_room (by rw [hsum, ← hdrop]; exact hcs)) hd ⟨hce, hsl'⟩
    refine xm_callrow hrun hS (fun H1 locs1 hP1 hS1 => ?_)
    have := h H1 locs1 als hP1 hL hnl hS1
    rw [List.map_append, hdrop] at this
    have e : (w.1.map (xk_cv K)).toList = w.1.toList.map (xk_cv K) := by cases w.1 <;> rfl
    show W _ _ _ _ _ _ _ _ _ _ _ _ _ _ _ (F0 _ _ _ ((w.1.map (xk_cv K)).toList ++ _))
    rw [e]
    exact this
  · cases hmf
end XC
