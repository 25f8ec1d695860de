theorem xm_gd_inv {f : xm_S → Option xm_R} {cl : Nat → List xm_V → xm_U → Option xm_R} {c : Prop} {s : xm_S} {r : xm_R} (h : xm_run f cl (xm_gd c s) = some r) : c ∧ f s = some r := by
  by_cases hc : c
  · exact ⟨hc, by simpa [xm_gd, xm_run, xm_tt, xm_if_t hc] using h⟩
  · simp [xm_gd, xm_run, xm_if_f hc] at h
theorem xm_gr_inv {f : xm_S → Option xm_R} {cl : Nat → List xm_V → xm_U → Option xm_R} {c : Prop} {s r : xm_R} (h : xm_run f cl (some (.inr (.inr (.inl (c, .inl s))))) = some r) : c ∧ s = r := by
  by_cases hc : c
  · refine ⟨hc, ?_⟩
    have : some s = some r := by simpa [xm_run, xm_tt, xm_if_t hc] using h
    exact Option.some.inj this
  · simp [xm_run, xm_if_f hc] at h
theorem xm_br_inv {f : xm_S → Option xm_R} {cl : Nat → List xm_V → xm_U → Option xm_R} {c : Prop} {s t : xm_S} {r : xm_R} (h : xm_run f cl (xm_br c s t) = some r) : (c ∧ f s = some r) ∨ (¬ c ∧ f t = some r) := by
  by_cases hc : c
  · exact Or.inl ⟨hc, by simpa [xm_br, xm_run, xm_if_t hc] using h⟩
  · exact Or.inr ⟨hc, by simpa [xm_br, xm_run, xm_if_f hc] using h⟩
theorem xm_sw_at {f : xm_S → Option xm_R} {v : Int32} {l : List (Int32 × xm_S)} {d : xm_S} {r : xm_R} (h : xm_sw v (l.map (fun q => (q.1, f q.2))) (f d) = some r) : (∃ (i : Nat) (s : xm_S), l[i]? = some (v, s) ∧ f s = some r) ∨ ((∀ q ∈ l, q.1 ≠ v) ∧ f d = some r) := by
  induction l with
  | nil => exact Or.inr ⟨fun q hq => (by cases hq), h⟩
  | cons a l ih =>
    obtain ⟨k, s⟩ := a
    by_cases c : v = k
    · subst c
      exact Or.inl ⟨0, s, rfl, by rw [← h]; exact (xm_if_t rfl _ _).symm⟩
    · rcases ih (by simpa [xm_sw, xm_if_f c] using h) with ⟨i, s', h1, h2⟩ | ⟨h1, h2⟩
      · exact Or.inl ⟨i + 1, s', h1, h2⟩
      · refine Or.inr ⟨fun q hq => ?_, h2⟩
        rcases List.mem_cons.mp hq with rfl | hq
        · exact fun z => c z.symm
        · exact h1 q hq
theorem xm_wd_nat : Cond.native arraycopyName ∈ xm_tb ∧ Cond.static arraycopyName ∈ xm_tb ∧ Cond.initialized "java/lang/System" ∈ xm_tb := ⟨xm_wd_in (pl := 392) (by decide +kernel), xm_wd_in (pl := 391) (by decide +kernel), xm_wd_in (pl := 71) (by decide +kernel)⟩
theorem xm_wd_max : Cond.static Lib.Math.max.name ∈ xm_tb ∧ Cond.initialized "java/lang/Math" ∈ xm_tb ∧ Cond.code Lib.Math.max.name Lib.Math.max.code 2 (some .int) ∈ xm_tb := ⟨xm_wd_in (pl := 289) (by decide +kernel), xm_wd_in (pl := 69) (by decide +kernel), xm_wd_in (pl := 290) (by decide +kernel)⟩
theorem xm_wd_min : Cond.static Lib.Math.min.name ∈ xm_tb ∧ Cond.code Lib.Math.min.name Lib.Math.min.code 2 (some .int) ∈ xm_tb := ⟨xm_wd_in (pl := 354) (by decide +kernel), xm_wd_in (pl := 355) (by decide +kernel)⟩
theorem xm_fy_int : ∀ c, c < 5 → ∀ k, k < xm_nf c → xm_fk c k = 1 → xm_fy c k = .int := by decide +kernel
theorem xm_fy_bool : ∀ c, c < 5 → ∀ k, k < xm_nf c → xm_fk c k = 3 → xm_fy c k = .boolean := by decide +kernel
theorem xm_fk_long : ∀ c, c < 5 → ∀ k, k < xm_nf c → xm_fk c k = 2 → c = 4 ∧ k = 11 := by decide +kernel
theorem xm_ev_tab {n z : Nat} {ls : xm_L} {st : List xm_V} {u : xm_U} {w : xm_R} (h : xm_ev n z (xm_cod z, ls, st, u) = some w) : ∃ q, xm_tab[z]? = some q := by
  cases hz : xm_tab[z]? with
  | some q => exact ⟨q, rfl⟩
  | none =>
    have e : xm_cod z = [] := by simp [xm_cod, hz]
    rw [e] at h
    cases n <;> cases h
theorem xm_chm_cn {z : Nat} {q : xm_M} (hz : xm_tab[z]? = some q) (h : xm_chm q = true) (h5 : xm_nu z 2 < 5) : q.1.cls = xm_cn (xm_nu z 2) := by
  obtain ⟨-, -, -, hnu⟩ := xm_cod_of hz
  unfold xm_chm at h
  split at h
  · rename_i f0 f1 f2 f3 f4 p0 p1 p2 p3 e1 e2
    have ef : xm_nu z 2 = f2 := by rw [hnu 2, e1]; rfl
    rw [ef] at h5 ⊢
    obtain ⟨-, h⟩ := Bool.and_eq_true_iff.mp h
    obtain ⟨-, h⟩ := Bool.and_eq_true_iff.mp h
    obtain ⟨-, h⟩ := Bool.and_eq_true_iff.mp h
    obtain ⟨-, h⟩ := Bool.and_eq_true_iff.mp h
    have hbeq : Nat.beq f2 50 = false := by
      cases hq : Nat.beq f2 50 with
      | false => rfl
      | true => have := Nat.eq_of_beq_eq_true hq; omega
    rw [hbeq] at h
    obtain ⟨-, h⟩ := Bool.and_eq_true_iff.mp (show (_ && _) = true from h)
    obtain ⟨-, h⟩ := Bool.and_eq_true_iff.mp h
    obtain ⟨-, h⟩ := Bool.and_eq_true_iff.mp h
    rw [show Nat.blt f2 5 = true from Nat.ble_eq_true_of_le h5] at h
    exact (of_decide_eq_true h).symm
  · cases h
theorem xm_chm_st {z : Nat} {q : xm_M} (hz : xm_tab[z]? = some q) (h : xm_chm q = true) (h5 : xm_nu z 2 = 10) : q.1.cls = "java/lang/String" := by
  obtain ⟨-, -, -, hnu⟩ := xm_cod_of hz
  unfold xm_chm at h
  split at h
  · rename_i f0 f1 f2 f3 f4 p0 p1 p2 p3 e1 e2
    have ef : xm_nu z 2 = f2 := by rw [hnu 2, e1]; rfl
    rw [ef] at h5
    subst h5
    obtain ⟨-, h⟩ := Bool.and_eq_true_iff.mp h
    obtain ⟨-, h⟩ := Bool.and_eq_true_iff.mp h
    obtain ⟨-, h⟩ := Bool.and_eq_true_iff.mp h
    obtain ⟨-, h⟩ := Bool.and_eq_true_iff.mp h
    obtain ⟨-, h⟩ := Bool.and_eq_true_iff.mp (show (_ && _) = true from h)
    obtain ⟨-, h⟩ := Bool.and_eq_true_iff.mp h
    obtain ⟨-, h⟩ := Bool.and_eq_true_iff.mp h
    exact of_decide_eq_true h
  · cases h
set_option maxHeartbeats 4000000 in
set_option maxRecDepth 100000 in
/-- SOUNDNESS -/
theorem xm_sound : ∀ n, xm_P n := by
  intro n
  induction n with
  | zero =>
    intro K X y q r hy hK hr j x is ls st u hdr h hu
    cases h
  | succ n ih =>
    intro K X y q r hy hK hr j x is ls st u hdr h hu
    have hK' := hK
    obtain ⟨hx, hb, hml, hown, hts, hKK, hX, hG, hA, hfr, hlo, hce, hsl⟩ := hK'
    obtain ⟨hcd, hrt, hmx, hnu⟩ := xm_cod_of hy
    rw [xm_ev_cons, hcd, hrt] at h
    rw [hcd] at hdr
    have hj : q.2.2.2.2.1[j]? = some x := by
      have := congrArg (fun l => l[0]?) hdr
      simpa using this
    have hnextd : q.2.2.2.2.1.drop (j + 1) = is := by
      have := congrArg (fun l => l.drop 1) hdr
      simpa [Nat.add_comm] using this
    have hc0 := List.all_eq_true.mp (Bool.and_eq_true_iff.mp (xm_chk_all y q hy)).2 j (List.mem_range.mpr (List.getElem?_eq_some_iff.mp hj).1)
    unfold xm_chj at hc0
    rw [hj] at hc0
    have hc1 : xm_ck1 q.1.cls q.2.1 q.2.2.2.1 (xm_frl q) (xm_lol q) q.2.2.2.2.1 j x = true := hc0
    clear hc0
    unfold xm_ck1 at hc1
    obtain ⟨ins0, len, hdec⟩ : ∃ ins0 len, decode q.2.1 x.1 = .ok (ins0, len) := by
      cases hdec0 : decode q.2.1 x.1 with
      | error e => rw [hdec0] at hc1; cases hc1
      | ok il => exact ⟨il.1, il.2, rfl⟩
    rw [hdec] at hc1
    obtain ⟨hc2, hc3⟩ := Bool.and_eq_true_iff.mp hc1
    obtain ⟨hlen, hc4⟩ := Bool.and_eq_true_iff.mp hc3
    obtain ⟨hnx, hI⟩ := Bool.and_eq_true_iff.mp hc4
    have hi5 := of_decide_eq_true hc2
    clear hc1 hc2 hc3 hc4
    subst hi5
    obtain ⟨pc, ins, o, ks, kl, sp⟩ := x
    have hN : ∀ (ls : xm_L) (st : List xm_V) (u : xm_U), xm_ev n y (is, ls, st, u) = some r → u.2.2 = X → xm_Wk K (pc + len) ls st u := by
      intro ls st u h hu
      cases his : is with
      | nil => rw [his] at h; cases n <;> cases h
      | cons x2 is2 =>
        have hx2 : q.2.2.2.2.1[j + 1]? = some x2 := by
          have := congrArg (fun l => l[0]?) (hnextd.trans his)
          simpa using this
        rw [hx2] at hnx
        have hpc : x2.1 = pc + len := Nat.eq_of_beq_eq_true hnx
        rw [his] at h hnextd
        rw [← hpc]
        exact ih K X y q r hy hK hr (j + 1) x2 is2 ls st u (by rw [hcd]; exact hnextd) h hu
    have hJ : ∀ (t : Nat) (off : Int), xm_tg q.2.2.2.2.1 pc off t = true → ∀ (ls : xm_L) (st : List xm_V) (u : xm_U), xm_ev n y (q.2.2.2.2.1.drop t, ls, st, u) = some r → u.2.2 = X → ∃ tgt : Nat, (pc : Int) + off = (tgt : Int) ∧ xm_Wk K tgt ls st u := by
      intro t off htg ls st u h hu
      unfold xm_tg at htg
      split at htg
      · rename_i x2 hx2
        have htg := of_decide_eq_true htg
        obtain ⟨hlt, hx2e⟩ := List.getElem?_eq_some_iff.mp hx2
        have hd2 : q.2.2.2.2.1.drop t = x2 :: q.2.2.2.2.1.drop (t + 1) := by rw [List.drop_eq_getElem_cons hlt, hx2e]
        rw [hd2] at h
        exact ⟨x2.1, htg, ih K X y q r hy hK hr t x2 _ ls st u (by rw [hcd]; exact hd2) h hu⟩
      · cases htg
    have hTG : ∀ (t : Nat) (off : Int), xm_tg q.2.2.2.2.1 pc off t = true → ∃ tgt : Nat, (pc : Int) + off = (tgt : Int) := by
      intro t off htg
      unfold xm_tg at htg
      split at htg
      · exact ⟨_, of_decide_eq_true htg⟩
      · cases htg
    cases ins with
    | iload_n k =>
      have hl : len = 1 := Nat.eq_of_beq_eq_true hlen
      subst hl
      change xm_run _ _ (xm_lds ls k.val is st u) = some r at h
      unfold xm_lds at h
      split at h
      · rename_i w hw
        exact fun H locs als hP hL hn hS => lv_iload_n hx hb hdec rfl (hL.2.2 _ _ hw) (hN _ _ _ h hu H locs als hP hL hn hS)
      · cases h
    | iload k =>
      have hl : len = 2 := Nat.eq_of_beq_eq_true hlen
      subst hl
      change xm_run _ _ (xm_lds ls k is st u) = some r at h
      unfold xm_lds at h
      split at h
      · rename_i w hw
        exact fun H locs als hP hL hn hS => lv_iload hx hb hdec (hL.2.2 _ _ hw) (hN _ _ _ h hu H locs als hP hL hn hS)
      · cases h
    | lload_n k =>
      have hl : len = 1 := Nat.eq_of_beq_eq_true hlen
      subst hl
      change xm_run _ _ (xm_ldl ls k.val is st u) = some r at h
      unfold xm_ldl at h
      split at h
      · rename_i w hw
        exact fun H locs als hP hL hn hS => lv_lload_n hx hb hdec rfl (hL.2.2 _ _ hw) (hN _ _ _ h hu H locs als hP hL hn hS)
      · cases h
    | lload k =>
      have hl : len = 2 := Nat.eq_of_beq_eq_true hlen
      subst hl
      change xm_run _ _ (xm_ldl ls k is st u) = some r at h
      unfold xm_ldl at h
      split at h
      · rename_i w hw
        exact fun H locs als hP hL hn hS => lv_lload hx hb hdec (hL.2.2 _ _ hw) (hN _ _ _ h hu H locs als hP hL hn hS)
      · cases h
    | aload_n k =>
      have hl : len = 1 := Nat.eq_of_beq_eq_true hlen
      subst hl
      change xm_run _ _ (xm_lda ls k.val is st u) = some r at h
      unfold xm_lda at h
      split at h
      · rename_i w hw
        exact fun H locs als hP hL hn hS => lv_aload_n hx hb hdec rfl (hL.2.2 _ _ hw) (hN _ _ _ h hu H locs als hP hL hn hS)
      · rename_i w hw
        exact fun H locs als hP hL hn hS => lv_aload_n hx hb hdec rfl (hL.2.2 _ _ hw) (hN _ _ _ h hu H locs als hP hL hn hS)
      · rename_i w hw
        exact fun H locs als hP hL hn hS => lv_aload_n hx hb hdec rfl (hL.2.2 _ _ hw) (hN _ _ _ h hu H locs als hP hL hn hS)
      · rename_i w hw
        exact fun H locs als hP hL hn hS => lv_aload_n hx hb hdec rfl (hL.2.2 _ _ hw) (hN _ _ _ h hu H locs als hP hL hn hS)
      · cases h
    | aload k =>
      have hl : len = 2 := Nat.eq_of_beq_eq_true hlen
      subst hl
      change xm_run _ _ (xm_lda ls k is st u) = some r at h
      unfold xm_lda at h
      split at h
      · rename_i w hw
        exact fun H locs als hP hL hn hS => lv_aload hx hb hdec (hL.2.2 _ _ hw) (hN _ _ _ h hu H locs als hP hL hn hS)
      · rename_i w hw
        exact fun H locs als hP hL hn hS => lv_aload hx hb hdec (hL.2.2 _ _ hw) (hN _ _ _ h hu H locs als hP hL hn hS)
      · rename_i w hw
        exact fun H locs als hP hL hn hS => lv_aload hx hb hdec (hL.2.2 _ _ hw) (hN _ _ _ h hu H locs als hP hL hn hS)
      · rename_i w hw
        exact fun H locs als hP hL hn hS => lv_aload hx hb hdec (hL.2.2 _ _ hw) (hN _ _ _ h hu H locs als hP hL hn hS)
      · cases h
    | istore_n k =>
      have hl : len = 1 := Nat.eq_of_beq_eq_true hlen
      subst hl
      change xm_run _ _ (xm_sti ls k.val is st u) = some r at h
      unfold xm_sti at h
      split at h
      · rename_i w st
        cases hbl : Nat.blt k.val ls.length with
        | false => rw [hbl] at h; cases h
        | true =>
          rw [hbl] at h
          exact fun H locs als hP hL hn hS => lv_istore_n hx hb hdec rfl (xm_lr_has hL) (Nat.le_of_ble_eq_true hbl) rfl (fun als2 hl2 => hN _ _ _ h hu H locs als2 hP (xk_store hK hL hl2) (by rw [xm_s1_len]; exact hn) hS)
      · cases h
    | istore k =>
      have hl : len = 2 := Nat.eq_of_beq_eq_true hlen
      subst hl
      change xm_run _ _ (xm_sti ls k is st u) = some r at h
      unfold xm_sti at h
      split at h
      · rename_i w st
        cases hbl : Nat.blt k ls.length with
        | false => rw [hbl] at h; cases h
        | true =>
          rw [hbl] at h
          exact fun H locs als hP hL hn hS => lv_istore hx hb hdec (xm_lr_has hL) (Nat.le_of_ble_eq_true hbl) rfl (fun als2 hl2 => hN _ _ _ h hu H locs als2 hP (xk_store hK hL hl2) (by rw [xm_s1_len]; exact hn) hS)
      · cases h
    | astore_n k =>
      have hl : len = 1 := Nat.eq_of_beq_eq_true hlen
      subst hl
      change xm_run _ _ (xm_sta ls k.val is st u) = some r at h
      unfold xm_sta at h
      split at h
      · rename_i w st
        cases hbl : Nat.blt k.val ls.length with
        | false => rw [hbl] at h; cases h
        | true =>
          rw [hbl] at h
          exact fun H locs als hP hL hn hS => lv_astore_n hx hb hdec rfl (xm_lr_has hL) (Nat.le_of_ble_eq_true hbl) rfl (fun als2 hl2 => hN _ _ _ h hu H locs als2 hP (xk_store hK hL hl2) (by rw [xm_s1_len]; exact hn) hS)
      · cases h
    | astore k =>
      have hl : len = 2 := Nat.eq_of_beq_eq_true hlen
      subst hl
      change xm_run _ _ (xm_sta ls k is st u) = some r at h
      unfold xm_sta at h
      split at h
      · rename_i w st
        cases hbl : Nat.blt k ls.length with
        | false => rw [hbl] at h; cases h
        | true =>
          rw [hbl] at h
          exact fun H locs als hP hL hn hS => lv_astore hx hb hdec (xm_lr_has hL) (Nat.le_of_ble_eq_true hbl) rfl (fun als2 hl2 => hN _ _ _ h hu H locs als2 hP (xk_store hK hL hl2) (by rw [xm_s1_len]; exact hn) hS)
      · cases h
    | lstore_n k =>
      have hl : len = 1 := Nat.eq_of_beq_eq_true hlen
      subst hl
      change xm_run _ _ (xm_stl ls k.val is st u) = some r at h
      unfold xm_stl at h
      split at h
      · rename_i w st
        cases hbl : Nat.blt (k.val + 1) ls.length with
        | false => rw [hbl] at h; cases h
        | true =>
          rw [hbl] at h
          exact fun H locs als hP hL hn hS => lv_lstore_n hx hb hdec rfl (xm_lr_has hL) (Nat.le_of_ble_eq_true hbl) rfl (fun als2 hl2 => hN _ _ _ h hu H locs als2 hP (xk_store2 hK hL hl2) (by rw [xm_s2_len]; exact hn) hS)
      · cases h
    | lstore k =>
      have hl : len = 2 := Nat.eq_of_beq_eq_true hlen
      subst hl
      change xm_run _ _ (xm_stl ls k is st u) = some r at h
      unfold xm_stl at h
      split at h
      · rename_i w st
        cases hbl : Nat.blt (k + 1) ls.length with
        | false => rw [hbl] at h; cases h
        | true =>
          rw [hbl] at h
          exact fun H locs als hP hL hn hS => lv_lstore hx hb hdec (xm_lr_has hL) (Nat.le_of_ble_eq_true hbl) rfl (fun als2 hl2 => hN _ _ _ h hu H locs als2 hP (xk_store2 hK hL hl2) (by rw [xm_s2_len]; exact hn) hS)
      · cases h
    | iconst n0 =>
      have hl : len = 1 := Nat.eq_of_beq_eq_true hlen
      subst hl
      cases ks with
      | nil => cases h
      | cons v ks => cases ks with
        | cons v2 ks => cases h
        | nil =>
          exact fun H locs als hP hL hn hS => lv_iconst hx hb hdec (of_decide_eq_true hI) (hN _ _ _ h hu H locs als hP hL hn hS)
    | bipush n0 =>
      have hl : len = 2 := Nat.eq_of_beq_eq_true hlen
      subst hl
      cases ks with
      | nil => cases h
      | cons v ks => cases ks with
        | cons v2 ks => cases h
        | nil =>
          exact fun H locs als hP hL hn hS => lv_bipush hx hb hdec (of_decide_eq_true hI) (hN _ _ _ h hu H locs als hP hL hn hS)
    | sipush n0 =>
      have hl : len = 3 := Nat.eq_of_beq_eq_true hlen
      subst hl
      cases ks with
      | nil => cases h
      | cons v ks => cases ks with
        | cons v2 ks => cases h
        | nil =>
          exact fun H locs als hP hL hn hS => lv_sipush hx hb hdec (of_decide_eq_true hI) (hN _ _ _ h hu H locs als hP hL hn hS)
    | lconst n0 =>
      have hl : len = 1 := Nat.eq_of_beq_eq_true hlen
      subst hl
      exact fun H locs als hP hL hn hS => lv_lconst hx hb hdec (of_decide_eq_true hI) (hN _ _ _ h hu H locs als hP hL hn hS)
    | ldc2_w n0 =>
      have hl : len = 3 := Nat.eq_of_beq_eq_true hlen
      subst hl
      cases o with
      | nil => cases hI
      | cons pl o => cases o with
        | cons a o => cases hI
        | nil => exact fun H locs als hP hL hn hS => lv_ldc2 hx hb hown (hts _ (xm_wd_in hI)) hdec (hN _ _ _ h hu H locs als hP hL hn hS)
    | ldc_w n0 =>
      have hl : len = 3 := Nat.eq_of_beq_eq_true hlen
      subst hl
      cases ks with
      | nil => cases h
      | cons v ks => cases ks with
        | cons v2 ks => cases h
        | nil => cases o with
          | nil => cases hI
          | cons pl o => cases o with
            | cons a o => cases hI
            | nil => exact fun H locs als hP hL hn hS => lv_ldcw hx hb hown (hts _ (xm_wd_in hI)) hdec (hN _ _ _ h hu H locs als hP hL hn hS)
    | ldc n0 =>
      have hl : len = 2 := Nat.eq_of_beq_eq_true hlen
      subst hl
      change xm_run _ _ (match (generalizing := false) o, ks with | [0, _], [v] => xm_go (is, ls, .inl v :: st, u) | [1, _, q], [] => xm_go (is, ls, xv_o 1 q :: st, u) | _, _ => none) = some r at h
      change (match (generalizing := false) o, ks with | [0, pl], [v] => xm_wd pl (.constant q.1.cls n0 v) | [1, _, q1], [] => decide (q.1.cls = RX1) && (Nat.blt q1 15 && Nat.beq (xm_sx.getD q1 0) n0) | _, _ => true) = true at hI
      split at h
      · exact fun H locs als hP hL hn hS => lv_ldc hx hb hown (hts _ (xm_wd_in hI)) hdec (hN _ _ _ h hu H locs als hP hL hn hS)
      · rename_i z0 z1 z2 qq
        obtain ⟨i1, i2⟩ := Bool.and_eq_true_iff.mp hI
        obtain ⟨i2, i3⟩ := Bool.and_eq_true_iff.mp i2
        have i1 := of_decide_eq_true i1
        have i2 : qq < 15 := Nat.le_of_ble_eq_true i2
        have i3 := Nat.eq_of_beq_eq_true i3
        have hR := hX.2.2.2.2.2.2.2.2.1 qq i2
        rw [i3] at hR
        rw [i1] at hown
        exact fun H locs als hP hL hn hS => va_ldcS hx hb hown hR hdec (hN _ _ _ h hu H locs als hP hL hn hS)
      · cases h
    | iinc k n0 =>
      have hl : len = 3 := Nat.eq_of_beq_eq_true hlen
      subst hl
      change xm_run _ _ (match (generalizing := false) ls[k]?, ks with | some (some (.inl y)), [v] => xm_go (is, xm_s1 ls k (.inl (y + v)), st, u) | _, _ => none) = some r at h
      split at h
      · rename_i w v hw
        intro H locs als hP hL hn hS
        obtain ⟨k9, hk9⟩ := List.getElem?_of_mem (xm_as_mem (cv := xk_cv K).mpr ⟨_, hw, rfl⟩)
        exact lv_iinc hx hb hdec (xm_lr_has hL) hk9 (by rw [of_decide_eq_true hI]) (List.getElem?_eq_some_iff.mp hw).1 rfl (fun als2 hl2 => hN _ _ _ h hu H locs als2 hP (xk_store hK hL hl2) (by rw [xm_s1_len]; exact hn) hS)
      · cases h
    | iadd =>
      have hl : len = 1 := Nat.eq_of_beq_eq_true hlen
      subst hl
      change xm_run _ _ (xm_i2 _ ls is st u) = some r at h
      unfold xm_i2 at h
      split at h
      · exact fun H locs als hP hL hn hS => lv_iadd hx hb hdec (hN _ _ _ h hu H locs als hP hL hn hS)
      · cases h
    | isub =>
      have hl : len = 1 := Nat.eq_of_beq_eq_true hlen
      subst hl
      change xm_run _ _ (xm_i2 _ ls is st u) = some r at h
      unfold xm_i2 at h
      split at h
      · exact fun H locs als hP hL hn hS => lv_isub hx hb hdec (hN _ _ _ h hu H locs als hP hL hn hS)
      · cases h
    | imul =>
      have hl : len = 1 := Nat.eq_of_beq_eq_true hlen
      subst hl
      change xm_run _ _ (xm_i2 _ ls is st u) = some r at h
      unfold xm_i2 at h
      split at h
      · exact fun H locs als hP hL hn hS => lv_imul hx hb hdec (hN _ _ _ h hu H locs als hP hL hn hS)
      · cases h
    | iand =>
      have hl : len = 1 := Nat.eq_of_beq_eq_true hlen
      subst hl
      change xm_run _ _ (xm_i2 _ ls is st u) = some r at h
      unfold xm_i2 at h
      split at h
      · exact fun H locs als hP hL hn hS => lv_iand hx hb hdec (hN _ _ _ h hu H locs als hP hL hn hS)
      · cases h
    | ior =>
      have hl : len = 1 := Nat.eq_of_beq_eq_true hlen
      subst hl
      change xm_run _ _ (xm_i2 _ ls is st u) = some r at h
      unfold xm_i2 at h
      split at h
      · exact fun H locs als hP hL hn hS => lv_ior hx hb hdec (hN _ _ _ h hu H locs als hP hL hn hS)
      · cases h
    | ixor =>
      have hl : len = 1 := Nat.eq_of_beq_eq_true hlen
      subst hl
      change xm_run _ _ (xm_i2 _ ls is st u) = some r at h
      unfold xm_i2 at h
      split at h
      · exact fun H locs als hP hL hn hS => lv_ixor hx hb hdec (hN _ _ _ h hu H locs als hP hL hn hS)
      · cases h
    | ishl =>
      have hl : len = 1 := Nat.eq_of_beq_eq_true hlen
      subst hl
      change xm_run _ _ (xm_i2 _ ls is st u) = some r at h
      unfold xm_i2 at h
      split at h
      · exact fun H locs als hP hL hn hS => lv_ishl hx hb hdec (hN _ _ _ h hu H locs als hP hL hn hS)
      · cases h
    | ishr =>
      have hl : len = 1 := Nat.eq_of_beq_eq_true hlen
      subst hl
      change xm_run _ _ (xm_i2 _ ls is st u) = some r at h
      unfold xm_i2 at h
      split at h
      · exact fun H locs als hP hL hn hS => lv_ishr hx hb hdec (hN _ _ _ h hu H locs als hP hL hn hS)
      · cases h
    | iushr =>
      have hl : len = 1 := Nat.eq_of_beq_eq_true hlen
      subst hl
      change xm_run _ _ (xm_i2 _ ls is st u) = some r at h
      unfold xm_i2 at h
      split at h
      · exact fun H locs als hP hL hn hS => lv_iushr hx hb hdec rfl (hN _ _ _ h hu H locs als hP hL hn hS)
      · cases h
    | ladd =>
      have hl : len = 1 := Nat.eq_of_beq_eq_true hlen
      subst hl
      change xm_run _ _ (xm_l2 _ ls is st u) = some r at h
      unfold xm_l2 at h
      split at h
      · exact fun H locs als hP hL hn hS => lv_ladd hx hb hdec (hN _ _ _ h hu H locs als hP hL hn hS)
      · cases h
    | lsub =>
      have hl : len = 1 := Nat.eq_of_beq_eq_true hlen
      subst hl
      change xm_run _ _ (xm_l2 _ ls is st u) = some r at h
      unfold xm_l2 at h
      split at h
      · exact fun H locs als hP hL hn hS => lv_lsub hx hb hdec (hN _ _ _ h hu H locs als hP hL hn hS)
      · cases h
    | lmul =>
      have hl : len = 1 := Nat.eq_of_beq_eq_true hlen
      subst hl
      change xm_run _ _ (xm_l2 _ ls is st u) = some r at h
      unfold xm_l2 at h
      split at h
      · exact fun H locs als hP hL hn hS => lv_lmul hx hb hdec (hN _ _ _ h hu H locs als hP hL hn hS)
      · cases h
    | i2b =>
      have hl : len = 1 := Nat.eq_of_beq_eq_true hlen
      subst hl
      change xm_run _ _ (xm_i1 _ ls is st u) = some r at h
      unfold xm_i1 at h
      split at h
      · exact fun H locs als hP hL hn hS => lv_i2b hx hb hdec rfl (hN _ _ _ h hu H locs als hP hL hn hS)
      · cases h
    | i2s =>
      have hl : len = 1 := Nat.eq_of_beq_eq_true hlen
      subst hl
      change xm_run _ _ (xm_i1 _ ls is st u) = some r at h
      unfold xm_i1 at h
      split at h
      · exact fun H locs als hP hL hn hS => lv_i2s hx hb hdec rfl (hN _ _ _ h hu H locs als hP hL hn hS)
      · cases h
    | i2c =>
      have hl : len = 1 := Nat.eq_of_beq_eq_true hlen
      subst hl
      change xm_run _ _ (xm_i1 _ ls is st u) = some r at h
      unfold xm_i1 at h
      split at h
      · exact fun H locs als hP hL hn hS => lv_i2c hx hb hdec rfl (hN _ _ _ h hu H locs als hP hL hn hS)
      · cases h
    | idiv =>
      have hl : len = 1 := Nat.eq_of_beq_eq_true hlen
      subst hl
      change xm_run _ _ (match (generalizing := false) st with | .inl y :: .inl x :: st => xm_gd (¬ y = 0) (is, ls, .inl (x / y) :: st, u) | _ => none) = some r at h
      split at h
      · obtain ⟨hne, h⟩ := xm_gd_inv h
        exact fun H locs als hP hL hn hS => lv_idiv hx hb hdec hne (hN _ _ _ h hu H locs als hP hL hn hS)
      · cases h
    | irem =>
      have hl : len = 1 := Nat.eq_of_beq_eq_true hlen
      subst hl
      change xm_run _ _ (match (generalizing := false) st with | .inl y :: .inl x :: st => xm_gd (¬ y = 0) (is, ls, .inl (x - x / y * y) :: st, u) | _ => none) = some r at h
      split at h
      · obtain ⟨hne, h⟩ := xm_gd_inv h
        exact fun H locs als hP hL hn hS => lv_irem hx hb hdec hne (hN _ _ _ h hu H locs als hP hL hn hS)
      · cases h
    | i2l =>
      have hl : len = 1 := Nat.eq_of_beq_eq_true hlen
      subst hl
      change xm_run _ _ (match (generalizing := false) st with | .inl x :: st => xm_go (is, ls, .inr (.inl x.toInt64) :: st, u) | _ => none) = some r at h
      split at h
      · exact fun H locs als hP hL hn hS => lv_i2l hx hb hdec rfl (hN _ _ _ h hu H locs als hP hL hn hS)
      · cases h
    | l2i =>
      have hl : len = 1 := Nat.eq_of_beq_eq_true hlen
      subst hl
      change xm_run _ _ (match (generalizing := false) st with | .inr (.inl x) :: st => xm_go (is, ls, .inl x.toInt32 :: st, u) | _ => none) = some r at h
      split at h
      · exact fun H locs als hP hL hn hS => lv_l2i hx hb hdec rfl (hN _ _ _ h hu H locs als hP hL hn hS)
      · cases h
    | lcmp =>
      have hl : len = 1 := Nat.eq_of_beq_eq_true hlen
      subst hl
      change xm_run _ _ (match (generalizing := false) st with | .inr (.inl y) :: .inr (.inl x) :: st => xm_go (is, ls, .inl (lg_cmp x y) :: st, u) | _ => none) = some r at h
      split at h
      · exact fun H locs als hP hL hn hS => W.lcmp hx hb hdec (hN _ _ _ h hu H locs als hP hL hn hS)
      · cases h
    | dup =>
      have hl : len = 1 := Nat.eq_of_beq_eq_true hlen
      subst hl
      change xm_run _ _ (match (generalizing := false) st with | .inl x :: st => xm_go (is, ls, .inl x :: .inl x :: st, u) | .inr (.inr (.inl q)) :: st => xm_go (is, ls, .inr (.inr (.inl q)) :: .inr (.inr (.inl q)) :: st, u) | _ => none) = some r at h
      split at h
      · exact fun H locs als hP hL hn hS => lv_dup hx hb hdec rfl (hN _ _ _ h hu H locs als hP hL hn hS)
      · exact fun H locs als hP hL hn hS => lv_dup hx hb hdec rfl (hN _ _ _ h hu H locs als hP hL hn hS)
      · cases h
    | dup2 =>
      have hl : len = 1 := Nat.eq_of_beq_eq_true hlen
      subst hl
      change xm_run _ _ (match (generalizing := false) st with | .inl x :: .inr (.inr (.inl q)) :: st => xm_go (is, ls, .inl x :: .inr (.inr (.inl q)) :: .inl x :: .inr (.inr (.inl q)) :: st, u) | _ => none) = some r at h
      split at h
      · exact fun H locs als hP hL hn hS => lv_dup2_11 hx hb hdec rfl rfl (hN _ _ _ h hu H locs als hP hL hn hS)
      · cases h
    | pop =>
      have hl : len = 1 := Nat.eq_of_beq_eq_true hlen
      subst hl
      change xm_run _ _ (match (generalizing := false) st with | .inl _ :: st => xm_go (is, ls, st, u) | _ => none) = some r at h
      split at h
      · exact fun H locs als hP hL hn hS => lv_pop hx hb hdec rfl (hN _ _ _ h hu H locs als hP hL hn hS)
      · cases h
    | goto off =>
      have hl : len = 3 := Nat.eq_of_beq_eq_true hlen
      subst hl
      cases o with
      | nil => cases h
      | cons t o => cases o with
        | cons a o => cases h
        | nil =>
          obtain ⟨tgt, e1, e2⟩ := hJ t off hI _ _ _ h hu
          exact fun H locs als hP hL hn hS => lv_goto hx hb hdec e1 (e2 H locs als hP hL hn hS)
    | ifCond cc off =>
      have hl : len = 3 := Nat.eq_of_beq_eq_true hlen
      subst hl
      cases cc with
      | eq =>
        change xm_run _ _ (xm_if1 _ q.2.2.2.2.1 o ls is st u) = some r at h
        unfold xm_if1 at h
        split at h
        · rcases xm_br_inv h with ⟨hc, h⟩ | ⟨hc, h⟩
          · obtain ⟨tgt, e1, e2⟩ := hJ _ off hI _ _ _ h hu
            exact fun H locs als hP hL hn hS => lv_if_eq hx hb hdec e1 (fun _ => e2 H locs als hP hL hn hS) (fun z => absurd hc z)
          · exact fun H locs als hP hL hn hS => lv_if_eq hx hb hdec (hTG _ off hI).choose_spec (fun z => absurd z hc) (fun _ => hN _ _ _ h hu H locs als hP hL hn hS)
        · cases h
      | ne =>
        change xm_run _ _ (xm_if1 _ q.2.2.2.2.1 o ls is st u) = some r at h
        unfold xm_if1 at h
        split at h
        · rcases xm_br_inv h with ⟨hc, h⟩ | ⟨hc, h⟩
          · obtain ⟨tgt, e1, e2⟩ := hJ _ off hI _ _ _ h hu
            exact fun H locs als hP hL hn hS => lv_if_ne hx hb hdec e1 (fun _ => e2 H locs als hP hL hn hS) (fun z => absurd z hc)
          · exact fun H locs als hP hL hn hS => lv_if_ne hx hb hdec (hTG _ off hI).choose_spec (fun z => absurd z hc) (fun _ => hN _ _ _ h hu H locs als hP hL hn hS)
        · cases h
      | lt =>
        change xm_run _ _ (xm_if1 _ q.2.2.2.2.1 o ls is st u) = some r at h
        unfold xm_if1 at h
        split at h
        · rcases xm_br_inv h with ⟨hc, h⟩ | ⟨hc, h⟩
          · obtain ⟨tgt, e1, e2⟩ := hJ _ off hI _ _ _ h hu
            exact fun H locs als hP hL hn hS => lv_if_lt hx hb hdec e1 (fun _ => e2 H locs als hP hL hn hS) (fun z => absurd hc z)
          · exact fun H locs als hP hL hn hS => lv_if_lt hx hb hdec (hTG _ off hI).choose_spec (fun z => absurd z hc) (fun _ => hN _ _ _ h hu H locs als hP hL hn hS)
        · cases h
      | ge =>
        change xm_run _ _ (xm_if1 _ q.2.2.2.2.1 o ls is st u) = some r at h
        unfold xm_if1 at h
        split at h
        · rcases xm_br_inv h with ⟨hc, h⟩ | ⟨hc, h⟩
          · obtain ⟨tgt, e1, e2⟩ := hJ _ off hI _ _ _ h hu
            exact fun H locs als hP hL hn hS => lv_if_ge hx hb hdec e1 (fun _ => e2 H locs als hP hL hn hS) (fun z => absurd hc z)
          · exact fun H locs als hP hL hn hS => lv_if_ge hx hb hdec (hTG _ off hI).choose_spec (fun z => absurd z hc) (fun _ => hN _ _ _ h hu H locs als hP hL hn hS)
        · cases h
      | gt =>
        change xm_run _ _ (xm_if1 _ q.2.2.2.2.1 o ls is st u) = some r at h
        unfold xm_if1 at h
        split at h
        · rcases xm_br_inv h with ⟨hc, h⟩ | ⟨hc, h⟩
          · obtain ⟨tgt, e1, e2⟩ := hJ _ off hI _ _ _ h hu
            exact fun H locs als hP hL hn hS => lv_if_gt hx hb hdec e1 (fun _ => e2 H locs als hP hL hn hS) (fun z => absurd hc z)
          · exact fun H locs als hP hL hn hS => lv_if_gt hx hb hdec (hTG _ off hI).choose_spec (fun z => absurd z hc) (fun _ => hN _ _ _ h hu H locs als hP hL hn hS)
        · cases h
      | le =>
        change xm_run _ _ (xm_if1 _ q.2.2.2.2.1 o ls is st u) = some r at h
        unfold xm_if1 at h
        split at h
        · rcases xm_br_inv h with ⟨hc, h⟩ | ⟨hc, h⟩
          · obtain ⟨tgt, e1, e2⟩ := hJ _ off hI _ _ _ h hu
            exact fun H locs als hP hL hn hS => lv_if_le hx hb hdec e1 (fun _ => e2 H locs als hP hL hn hS) (fun z => absurd hc z)
          · exact fun H locs als hP hL hn hS => lv_if_le hx hb hdec (hTG _ off hI).choose_spec (fun z => absurd z hc) (fun _ => hN _ _ _ h hu H locs als hP hL hn hS)
        · cases h
    | if_icmp cc off =>
      have hl : len = 3 := Nat.eq_of_beq_eq_true hlen
      subst hl
      cases cc with
      | eq =>
        change xm_run _ _ (xm_if2 _ q.2.2.2.2.1 o ls is st u) = some r at h
        unfold xm_if2 at h
        split at h
        · rcases xm_br_inv h with ⟨hc, h⟩ | ⟨hc, h⟩
          · obtain ⟨tgt, e1, e2⟩ := hJ _ off hI _ _ _ h hu
            exact fun H locs als hP hL hn hS => lv_icmp_eq hx hb hdec e1 (fun _ => e2 H locs als hP hL hn hS) (fun z => absurd hc z)
          · exact fun H locs als hP hL hn hS => lv_icmp_eq hx hb hdec (hTG _ off hI).choose_spec (fun z => absurd z hc) (fun _ => hN _ _ _ h hu H locs als hP hL hn hS)
        · cases h
      | ne =>
        change xm_run _ _ (xm_if2 _ q.2.2.2.2.1 o ls is st u) = some r at h
        unfold xm_if2 at h
        split at h
        · rcases xm_br_inv h with ⟨hc, h⟩ | ⟨hc, h⟩
          · obtain ⟨tgt, e1, e2⟩ := hJ _ off hI _ _ _ h hu
            exact fun H locs als hP hL hn hS => lv_icmp_ne hx hb hdec e1 (fun _ => e2 H locs als hP hL hn hS) (fun z => absurd z hc)
          · exact fun H locs als hP hL hn hS => lv_icmp_ne hx hb hdec (hTG _ off hI).choose_spec (fun z => absurd z hc) (fun _ => hN _ _ _ h hu H locs als hP hL hn hS)
        · cases h
      | lt =>
        change xm_run _ _ (xm_if2 _ q.2.2.2.2.1 o ls is st u) = some r at h
        unfold xm_if2 at h
        split at h
        · rcases xm_br_inv h with ⟨hc, h⟩ | ⟨hc, h⟩
          · obtain ⟨tgt, e1, e2⟩ := hJ _ off hI _ _ _ h hu
            exact fun H locs als hP hL hn hS => lv_icmp_lt hx hb hdec e1 (fun _ => e2 H locs als hP hL hn hS) (fun z => absurd hc z)
          · exact fun H locs als hP hL hn hS => lv_icmp_lt hx hb hdec (hTG _ off hI).choose_spec (fun z => absurd z hc) (fun _ => hN _ _ _ h hu H locs als hP hL hn hS)
        · cases h
      | ge =>
        change xm_run _ _ (xm_if2 _ q.2.2.2.2.1 o ls is st u) = some r at h
        unfold xm_if2 at h
        split at h
        · rcases xm_br_inv h with ⟨hc, h⟩ | ⟨hc, h⟩
          · obtain ⟨tgt, e1, e2⟩ := hJ _ off hI _ _ _ h hu
            exact fun H locs als hP hL hn hS => lv_icmp_ge hx hb hdec e1 (fun _ => e2 H locs als hP hL hn hS) (fun z => absurd hc z)
          · exact fun H locs als hP hL hn hS => lv_icmp_ge hx hb hdec (hTG _ off hI).choose_spec (fun z => absurd z hc) (fun _ => hN _ _ _ h hu H locs als hP hL hn hS)
        · cases h
      | gt =>
        change xm_run _ _ (xm_if2 _ q.2.2.2.2.1 o ls is st u) = some r at h
        unfold xm_if2 at h
        split at h
        · rcases xm_br_inv h with ⟨hc, h⟩ | ⟨hc, h⟩
          · obtain ⟨tgt, e1, e2⟩ := hJ _ off hI _ _ _ h hu
            exact fun H locs als hP hL hn hS => lv_icmp_gt hx hb hdec e1 (fun _ => e2 H locs als hP hL hn hS) (fun z => absurd hc z)
          · exact fun H locs als hP hL hn hS => lv_icmp_gt hx hb hdec (hTG _ off hI).choose_spec (fun z => absurd z hc) (fun _ => hN _ _ _ h hu H locs als hP hL hn hS)
        · cases h
      | le =>
        change xm_run _ _ (xm_if2 _ q.2.2.2.2.1 o ls is st u) = some r at h
        unfold xm_if2 at h
        split at h
        · rcases xm_br_inv h with ⟨hc, h⟩ | ⟨hc, h⟩
          · obtain ⟨tgt, e1, e2⟩ := hJ _ off hI _ _ _ h hu
            exact fun H locs als hP hL hn hS => lv_icmp_le hx hb hdec e1 (fun _ => e2 H locs als hP hL hn hS) (fun z => absurd hc z)
          · exact fun H locs als hP hL hn hS => lv_icmp_le hx hb hdec (hTG _ off hI).choose_spec (fun z => absurd z hc) (fun _ => hN _ _ _ h hu H locs als hP hL hn hS)
        · cases h
    | tableswitch df lo hi offs =>
      change xm_run _ _ (xm_swt q.2.2.2.2.1 o ks ls st u) = some r at h
      unfold xm_swt at h
      split at h
      · rename_i x st d ts
        obtain ⟨j1, hI⟩ := Bool.and_eq_true_iff.mp (show (xm_tg q.2.2.2.2.1 pc df d && _) = true from hI)
        obtain ⟨j2, hI⟩ := Bool.and_eq_true_iff.mp hI
        obtain ⟨j3, hI⟩ := Bool.and_eq_true_iff.mp hI
        obtain ⟨j4, hI⟩ := Bool.and_eq_true_iff.mp hI
        obtain ⟨j5, j6⟩ := Bool.and_eq_true_iff.mp hI
        have j2 := Nat.eq_of_beq_eq_true j2
        have j3 := Nat.eq_of_beq_eq_true j3
        have j4 := of_decide_eq_true j4
        have j5 := of_decide_eq_true j5
        have j6 := List.all_eq_true.mp j6
        have key : ∀ i : Nat, i < offs.size → ∃ (f : Int) (t : Nat) (k : Int32), offs[i]? = some f ∧ ts[i]? = some t ∧ ks[i]? = some k ∧ xm_tg q.2.2.2.2.1 pc f t = true ∧ k.toInt = lo + (i : Int) := by
          intro i hi
          have := j6 i (List.mem_range.mpr hi)
          split at this
          · rename_i f t k e1 e2 e3
            obtain ⟨a1, a2⟩ := Bool.and_eq_true_iff.mp this
            exact ⟨f, t, k, e1, e2, e3, a1, of_decide_eq_true a2⟩
          · cases this
        rcases xm_sw_at h with ⟨i, s, h1, h2⟩ | ⟨h1, h2⟩
        · rw [List.getElem?_map] at h1
          cases hz : (ks.zip ts)[i]? with
          | none => rw [hz] at h1; cases h1
          | some kt =>
            rw [hz] at h1
            obtain ⟨k0, t0⟩ := kt
            have h1 := Option.some.inj h1
            have ek : k0 = x := (Prod.mk.inj h1).1
            have es := (Prod.mk.inj h1).2
            obtain ⟨z1, z2⟩ := List.getElem?_zip_eq_some.mp hz
            have hi : i < offs.size := by rw [← j3]; exact (List.getElem?_eq_some_iff.mp z1).1
            obtain ⟨f, t, k, e1, e2, e3, e4, e5⟩ := key i hi
            cases z1.symm.trans e3
            cases z2.symm.trans e2
            have e5 : k0.toInt = lo + (i : Int) := e5
            subst ek
            rw [← es] at h2
            obtain ⟨tgt, g1, g2⟩ := hJ t0 f e4 _ _ _ h2 hu
            exact fun H locs als hP hL hn hS => lv_tableIn hx hb hdec (by omega) (by omega) (by rw [e5, show (lo + (i : Int) - lo).toNat = i by omega]; exact e1) g1 (g2 H locs als hP hL hn hS)
        · obtain ⟨tgt, g1, g2⟩ := hJ d df j1 _ _ _ h2 hu
          have hout : x.toInt < lo ∨ hi < x.toInt := by
            rcases Int.lt_or_le x.toInt lo with z | z
            · exact Or.inl z
            · refine Or.inr ?_
              rcases Int.lt_or_le hi x.toInt with y | y
              · exact y
              · exfalso
                have hi : (x.toInt - lo).toNat < offs.size := by omega
                obtain ⟨f, t, k, e1, e2, e3, e4, e5⟩ := key _ hi
                have hkx : k = x := by
                  apply Int32.toInt_inj.mp
                  rw [e5]
                  omega
                subst hkx
                exact h1 (k, (q.2.2.2.2.1.drop t, ls, st, u)) (List.mem_map.mpr ⟨(k, t), List.mem_of_getElem? (List.getElem?_zip_eq_some.mpr ⟨e3, e2⟩), rfl⟩) rfl
          exact fun H locs als hP hL hn hS => lv_tableOut hx hb hdec hout g1 (g2 H locs als hP hL hn hS)
      · cases h
    | getfield n0 =>
      have hl : len = 3 := Nat.eq_of_beq_eq_true hlen
      subst hl
      change xm_run _ _ (xm_getf o ls is st u) = some r at h
      unfold xm_getf at h
      split at h
      · rename_i i0 st c0 k0 pl0
        split at h
        · rename_i hk0
          obtain ⟨hcl, h⟩ := xm_gd_inv h
          obtain ⟨hc5, hk5⟩ := xm_fk_lt hk0 (by decide)
          change (bif Nat.blt c0 5 then Nat.blt k0 (xm_nf c0) && xm_wd pl0 (.fieldLink q.1.cls n0 (xm_fT c0 k0).1 (xm_fT c0 k0).2.1 (xm_fT c0 k0).2.2.1) else _) = true at hI
          rw [show Nat.blt c0 5 = true from Nat.ble_eq_true_of_le hc5] at hI
          obtain ⟨-, hw⟩ := Bool.and_eq_true_iff.mp hI
          exact xk_get hK hdec hc5 hk5 (xm_wd_in hw) hcl (v := xv_r i0 (k0 + 1)) (by subst hcl; unfold xm_fv; rw [hk0]; rfl) (hN _ _ _ h hu)
        · rename_i hk0
          obtain ⟨hcl, h⟩ := xm_gd_inv h
          obtain ⟨hc5, hk5⟩ := xm_fk_lt hk0 (by decide)
          change (bif Nat.blt c0 5 then Nat.blt k0 (xm_nf c0) && xm_wd pl0 (.fieldLink q.1.cls n0 (xm_fT c0 k0).1 (xm_fT c0 k0).2.1 (xm_fT c0 k0).2.2.1) else _) = true at hI
          rw [show Nat.blt c0 5 = true from Nat.ble_eq_true_of_le hc5] at hI
          obtain ⟨-, hw⟩ := Bool.and_eq_true_iff.mp hI
          exact xk_get hK hdec hc5 hk5 (xm_wd_in hw) hcl (v := xv_i (u.1 i0 0 k0)) (by subst hcl; unfold xm_fv; rw [hk0]; rfl) (hN _ _ _ h hu)
        · rename_i hk0
          obtain ⟨hcl, h⟩ := xm_gd_inv h
          obtain ⟨hc5, hk5⟩ := xm_fk_lt hk0 (by decide)
          change (bif Nat.blt c0 5 then Nat.blt k0 (xm_nf c0) && xm_wd pl0 (.fieldLink q.1.cls n0 (xm_fT c0 k0).1 (xm_fT c0 k0).2.1 (xm_fT c0 k0).2.2.1) else _) = true at hI
          rw [show Nat.blt c0 5 = true from Nat.ble_eq_true_of_le hc5] at hI
          obtain ⟨-, hw⟩ := Bool.and_eq_true_iff.mp hI
          exact xk_get hK hdec hc5 hk5 (xm_wd_in hw) hcl (v := xv_l u.2.1) (by subst hcl; unfold xm_fv; rw [hk0]; rfl) (hN _ _ _ h hu)
        · rename_i hk0
          obtain ⟨hcl, h⟩ := xm_gd_inv h
          obtain ⟨hc5, hk5⟩ := xm_fk_lt hk0 (by decide)
          change (bif Nat.blt c0 5 then Nat.blt k0 (xm_nf c0) && xm_wd pl0 (.fieldLink q.1.cls n0 (xm_fT c0 k0).1 (xm_fT c0 k0).2.1 (xm_fT c0 k0).2.2.1) else _) = true at hI
          rw [show Nat.blt c0 5 = true from Nat.ble_eq_true_of_le hc5] at hI
          obtain ⟨-, hw⟩ := Bool.and_eq_true_iff.mp hI
          exact xk_get hK hdec hc5 hk5 (xm_wd_in hw) hcl (v := xv_i (u.1 i0 0 k0)) (by subst hcl; unfold xm_fv; rw [hk0]; rfl) (hN _ _ _ h hu)
        · rename_i hk0
          obtain ⟨hcl, h⟩ := xm_gd_inv h
          obtain ⟨hc5, hk5⟩ := xm_fk_lt hk0 (by decide)
          change (bif Nat.blt c0 5 then Nat.blt k0 (xm_nf c0) && xm_wd pl0 (.fieldLink q.1.cls n0 (xm_fT c0 k0).1 (xm_fT c0 k0).2.1 (xm_fT c0 k0).2.2.1) else _) = true at hI
          rw [show Nat.blt c0 5 = true from Nat.ble_eq_true_of_le hc5] at hI
          obtain ⟨-, hw⟩ := Bool.and_eq_true_iff.mp hI
          exact xk_get hK hdec hc5 hk5 (xm_wd_in hw) hcl (v := xv_r (xm_ft k0) 0) (by subst hcl; unfold xm_fv; rw [hk0]; rfl) (hN _ _ _ h hu)
        · cases h
      · rename_i q1 st pl0
        change xm_wd pl0 (.fieldLink q.1.cls n0 "java/lang/String" "value" "[B") = true at hI
        obtain ⟨hq1, h⟩ := xm_gd_inv h
        exact fun H locs als hP hL hn hS => vk_getf hx hb ((hX.2.2.2.2.2.2.2.1).1 q1 hq1).2.2.1 hS hown (hts _ (xm_wd_in hI)) (fun _ h9 => h9) hdec (hN _ _ _ h hu H locs als hP hL hn hS)
      · rename_i q1 st pl0
        change xm_wd pl0 (.fieldLink q.1.cls n0 "java/lang/String" "coder" "B") = true at hI
        obtain ⟨hq1, h⟩ := xm_gd_inv h
        exact fun H locs als hP hL hn hS => vk_getf hx hb ((hX.2.2.2.2.2.2.2.1).1 q1 hq1).2.1 hS hown (hts _ (xm_wd_in hI)) (fun _ h9 => h9) hdec (hN _ _ _ h hu H locs als hP hL hn hS)
      · cases h
    | putfield n0 =>
      have hl : len = 3 := Nat.eq_of_beq_eq_true hlen
      subst hl
      change xm_run _ _ (xm_putf o ls is st u) = some r at h
      unfold xm_putf at h
      split at h
      · rename_i v0 i0 st c0 k0 pl0
        obtain ⟨i1, hI⟩ := Bool.and_eq_true_iff.mp (show (Nat.blt c0 5 && _) = true from hI)
        obtain ⟨i2, hI⟩ := Bool.and_eq_true_iff.mp hI
        obtain ⟨i3, i4⟩ := Bool.and_eq_true_iff.mp hI
        have i1 : c0 < 5 := Nat.le_of_ble_eq_true i1
        have i2 : k0 < xm_nf c0 := Nat.le_of_ble_eq_true i2
        have i4 : (xm_fT c0 k0).2.2.2 = false := by simpa using i4
        split at h
        · rename_i hk0
          obtain ⟨hcl, h⟩ := xm_gd_inv h
          have hty := xm_fy_int c0 i1 k0 i2 hk0
          exact xk_put hK hdec i1 i2 (xm_wd_in i3) i4 hcl (Or.inl hk0) (by rw [hty]; rfl) (by rw [hty]; rfl) (hN _ _ _ h hu)
        · rename_i hk0
          obtain ⟨⟨hcl, hv01⟩, h⟩ := xm_gd_inv h
          have hty := xm_fy_bool c0 i1 k0 i2 hk0
          exact xk_put hK hdec i1 i2 (xm_wd_in i3) i4 hcl (Or.inr hk0) (by rw [hty]; rcases hv01 with rfl | rfl <;> decide) (by rw [hty]; rcases hv01 with rfl | rfl <;> decide) (hN _ _ _ h hu)
        · cases h
      · rename_i v0 i0 st c0 k0 pl0
        obtain ⟨i1, hI⟩ := Bool.and_eq_true_iff.mp (show (Nat.blt c0 5 && _) = true from hI)
        obtain ⟨i2, hI⟩ := Bool.and_eq_true_iff.mp hI
        obtain ⟨i3, i4⟩ := Bool.and_eq_true_iff.mp hI
        have i1 : c0 < 5 := Nat.le_of_ble_eq_true i1
        have i2 : k0 < xm_nf c0 := Nat.le_of_ble_eq_true i2
        split at h
        · rename_i hk0
          obtain ⟨rfl, rfl⟩ := xm_fk_long c0 i1 k0 i2 hk0
          obtain ⟨hcl, h⟩ := xm_gd_inv h
          exact xk_putl hK hdec (xm_wd_in i3) hcl (hN _ _ _ h hu)
        · cases h
      · cases h
    | getstatic n0 =>
      have hl : len = 3 := Nat.eq_of_beq_eq_true hlen
      subst hl
      change xm_run _ _ (xm_gets o ls is st u) = some r at h
      unfold xm_gets at h
      split at h
      · rename_i pl0
        change xm_wd pl0 (.fieldLink q.1.cls n0 (xm_sn 0).1 (xm_sn 0).2.1 (xm_sn 0).2.2) = true at hI
        exact fun H locs als hP hL hn hS => va_gets hx hb hX.2.2.2.1 hS hown (hts _ (xm_wd_in hI)) (fun _ h9 => h9) hdec (hN _ _ _ h hu H locs als hP hL hn hS)
      · rename_i pl0
        change xm_wd pl0 (.fieldLink q.1.cls n0 (xm_sn 1).1 (xm_sn 1).2.1 (xm_sn 1).2.2) = true at hI
        exact fun H locs als hP hL hn hS => va_gets hx hb hX.2.2.2.2.1 hS hown (hts _ (xm_wd_in hI)) (fun _ h9 => h9) hdec (hN _ _ _ h hu H locs als hP hL hn hS)
      · rename_i pl0
        change xm_wd pl0 (.fieldLink q.1.cls n0 (xm_sn 2).1 (xm_sn 2).2.1 (xm_sn 2).2.2) = true at hI
        exact fun H locs als hP hL hn hS => va_gets hx hb hX.2.2.2.2.2.1 hS hown (hts _ (xm_wd_in hI)) (fun _ h9 => h9) hdec (hN _ _ _ h hu H locs als hP hL hn hS)
      · rename_i pl0
        change xm_wd pl0 (.fieldLink q.1.cls n0 (xm_sn 3).1 (xm_sn 3).2.1 (xm_sn 3).2.2) = true at hI
        exact fun H locs als hP hL hn hS => va_gets hx hb hX.2.2.2.2.2.2.1 hS hown (hts _ (xm_wd_in hI)) (fun _ h9 => h9) hdec (hN _ _ _ h hu H locs als hP hL hn hS)
      · cases h
    | iaload =>
      have hl : len = 1 := Nat.eq_of_beq_eq_true hlen
      subst hl
      change xm_run _ _ (xm_iald ls is st u) = some r at h
      unfold xm_iald at h
      split at h
      · obtain ⟨hin, h⟩ := xm_gd_inv h
        exact xk_iald hK hdec hin (hN _ _ _ h hu)
      · obtain ⟨hin, h⟩ := xm_gd_inv h
        exact fun H locs als hP hL hn hS => va_ti hx hb (show va_T .int (xk_ro K (0, 0)) u.2.2.1 (fun k => .int (u.2.2.2 k)) (xk_A K) (xk_s K) (xk_s K).heap from by rw [hu]; exact hX.1) hS hin rfl hdec (hN _ _ _ h hu H locs als hP hL hn hS)
      · obtain ⟨hin, h⟩ := xm_gd_inv h
        exact fun H locs als hP hL hn hS => va_ti hx hb hX.2.1 hS hin rfl hdec (hN _ _ _ h hu H locs als hP hL hn hS)
      · obtain ⟨hin, h⟩ := xm_gd_inv h
        exact fun H locs als hP hL hn hS => va_ti hx hb hX.2.2.1 hS hin rfl hdec (hN _ _ _ h hu H locs als hP hL hn hS)
      · cases h
    | baload =>
      have hl : len = 1 := Nat.eq_of_beq_eq_true hlen
      subst hl
      change xm_run _ _ (xm_bald ls is st u) = some r at h
      unfold xm_bald at h
      split at h
      · obtain ⟨hin, h⟩ := xm_gd_inv h
        exact xk_bald hK hdec hin (hN _ _ _ h hu)
      · obtain ⟨⟨hq1, hin⟩, h⟩ := xm_gd_inv h
        exact fun H locs als hP hL hn hS => va_tb hx hb ((hX.2.2.2.2.2.2.2.1).1 _ hq1).2.2.2 hS hin rfl hdec (hN _ _ _ h hu H locs als hP hL hn hS)
      · cases h
    | aaload =>
      have hl : len = 1 := Nat.eq_of_beq_eq_true hlen
      subst hl
      change xm_run _ _ (xm_aald ls is st u) = some r at h
      unfold xm_aald at h
      split at h
      · obtain ⟨hin, h⟩ := xm_gd_inv h
        exact xk_aald hK hdec hin (hN _ _ _ h hu)
      · cases h
    | iastore =>
      have hl : len = 1 := Nat.eq_of_beq_eq_true hlen
      subst hl
      change xm_run _ _ (xm_iast ls is st u) = some r at h
      unfold xm_iast at h
      split at h
      · obtain ⟨hin, h⟩ := xm_gd_inv h
        exact xk_iast hK hdec hin (hN _ _ _ h hu)
      · cases h
    | bastore =>
      have hl : len = 1 := Nat.eq_of_beq_eq_true hlen
      subst hl
      change xm_run _ _ (xm_bast ls is st u) = some r at h
      unfold xm_bast at h
      split at h
      · obtain ⟨hin, h⟩ := xm_gd_inv h
        exact xk_bast hK hdec hin (hN _ _ _ h hu)
      · cases h
    | arraylength =>
      have hl : len = 1 := Nat.eq_of_beq_eq_true hlen
      subst hl
      change xm_run _ _ (xm_alen ls is st u) = some r at h
      unfold xm_alen at h
      split at h
      · exact fun H locs als hP hL hn hS => va_tlen hx hb (show va_T .int (xk_ro K (0, 0)) u.2.2.1 (fun k => .int (u.2.2.2 k)) (xk_A K) (xk_s K) (xk_s K).heap from by rw [hu]; exact hX.1) hS rfl hdec (hN _ _ _ h hu H locs als hP hL hn hS)
      · exact fun H locs als hP hL hn hS => va_tlen hx hb hX.2.1 hS rfl hdec (hN _ _ _ h hu H locs als hP hL hn hS)
      · obtain ⟨hq1, h⟩ := xm_gd_inv h
        exact fun H locs als hP hL hn hS => va_tlen hx hb ((hX.2.2.2.2.2.2.2.1).1 _ hq1).2.2.2 hS rfl hdec (hN _ _ _ h hu H locs als hP hL hn hS)
      · cases h
    | ireturn =>
      have hl : len = 1 := Nat.eq_of_beq_eq_true hlen
      subst hl
      change xm_run _ _ (xm_rei q.2.2.2.1 st u) = some r at h
      unfold xm_rei at h
      split at h
      · rename_i v0
        split at h
        · rename_i rt0 ert
          cases h
          exact fun H locs als hP hL hn hS => hr H locs als pc _ hP hS (Or.inl ⟨hdec, v0, .int, rfl, rfl, ert, rfl⟩)
        · rename_i rt0 ert
          obtain ⟨hnar, e⟩ := xm_gr_inv h
          subst e
          exact fun H locs als hP hL hn hS => hr H locs als pc _ hP hS (Or.inl ⟨hdec, v0, .boolean, rfl, rfl, ert, hnar⟩)
        · rename_i rt0 ert
          obtain ⟨hnar, e⟩ := xm_gr_inv h
          subst e
          exact fun H locs als hP hL hn hS => hr H locs als pc _ hP hS (Or.inl ⟨hdec, v0, .char, rfl, rfl, ert, hnar⟩)
        · rename_i rt0 ert
          obtain ⟨hnar, e⟩ := xm_gr_inv h
          subst e
          exact fun H locs als hP hL hn hS => hr H locs als pc _ hP hS (Or.inl ⟨hdec, v0, .byte, rfl, rfl, ert, hnar⟩)
        · cases h
      · cases h
    | lreturn =>
      have hl : len = 1 := Nat.eq_of_beq_eq_true hlen
      subst hl
      change xm_run _ _ (match (generalizing := false) st with | [.inr (.inl v)] => xm_re (some (.inr (.inl v)), u) | _ => none) = some r at h
      split at h
      · cases h
        exact fun H locs als hP hL hn hS => hr H locs als pc _ hP hS (Or.inr (Or.inl ⟨hdec, _, rfl, rfl, of_decide_eq_true hI⟩))
      · cases h
    | areturn =>
      have hl : len = 1 := Nat.eq_of_beq_eq_true hlen
      subst hl
      have hrt2 : ∃ ty, q.2.2.2.1 = some ty ∧ ((∃ n, ty = .object n) ∨ ∃ t, ty = .array t) := by
        have hI : (match (generalizing := false) q.2.2.2.1 with | some (.object _) => true | some (.array _) => true | _ => false) = true := hI
        split at hI
        · rename_i n1 e1
          exact ⟨_, e1, Or.inl ⟨_, rfl⟩⟩
        · rename_i n1 e1
          exact ⟨_, e1, Or.inr ⟨_, rfl⟩⟩
        · cases hI
      obtain ⟨ty, ety, hty⟩ := hrt2
      change xm_run _ _ (match (generalizing := false) st with | [.inr (.inr (.inl q))] => xm_re (some (.inr (.inr (.inl q))), u) | [.inr (.inr (.inr (1, q)))] => xm_re (some (.inr (.inr (.inr (1, q)))), u) | _ => none) = some r at h
      split at h
      · cases h
        exact fun H locs als hP hL hn hS => hr H locs als pc _ hP hS (Or.inr (Or.inr (Or.inl ⟨hdec, _, ty, _, rfl, rfl, ety, hty, rfl⟩)))
      · cases h
        exact fun H locs als hP hL hn hS => hr H locs als pc _ hP hS (Or.inr (Or.inr (Or.inl ⟨hdec, _, ty, _, rfl, rfl, ety, hty, rfl⟩)))
      · cases h
    | return_ =>
      have hl : len = 1 := Nat.eq_of_beq_eq_true hlen
      subst hl
      change xm_run _ _ (match (generalizing := false) st with | [] => xm_re (none, u) | _ => none) = some r at h
      split at h
      · cases h
        exact fun H locs als hP hL hn hS => hr H locs als pc _ hP hS (Or.inr (Or.inr (Or.inr ⟨hdec, rfl, rfl, of_decide_eq_true hI⟩)))
      · cases h
    | invokestatic n0 =>
      have hl : len = 3 := Nat.eq_of_beq_eq_true hlen
      subst hl
      change xm_run _ _ (xm_invs o ls is st u) = some r at h
      unfold xm_invs at h
      split at h
      · rename_i pl0
        obtain ⟨k2, hI⟩ := Bool.and_eq_true_iff.mp (show (xm_wd pl0 (.methodLink q.1.cls n0 Lib.Math.max.name) && (Nat.ble 1 (xm_frl q) && Nat.ble 21 (xm_lol q))) = true from hI)
        obtain ⟨k3, k4⟩ := Bool.and_eq_true_iff.mp hI
        have k3 := Nat.le_of_ble_eq_true k3
        have k4 := Nat.le_of_ble_eq_true k4
        split at h
        · rename_i y0 x0 st
          cases hbb : Nat.ble (xm_cats st) 8 with
          | false => rw [hbb] at h; cases h
          | true =>
            rw [hbb] at h
            have b1 := Nat.le_of_ble_eq_true hbb
            exact fun H locs als hP hL hn hS => va_mmax hx hb (by rw [hL.1]; exact hn.symm) hown (hts _ (xm_wd_in k2)) (hts _ xm_wd_max.1) (hts _ xm_wd_max.2.1) (hts _ xm_wd_max.2.2) (Nat.le_trans k3 hfr) (by rw [xk_sum hK]; omega) hce hsl hdec (hN _ _ _ h hu H locs als hP hL hn hS)
        · cases h
      · rename_i pl0
        obtain ⟨k2, hI⟩ := Bool.and_eq_true_iff.mp (show (xm_wd pl0 (.methodLink q.1.cls n0 Lib.Math.min.name) && (Nat.ble 1 (xm_frl q) && Nat.ble 21 (xm_lol q))) = true from hI)
        obtain ⟨k3, k4⟩ := Bool.and_eq_true_iff.mp hI
        have k3 := Nat.le_of_ble_eq_true k3
        have k4 := Nat.le_of_ble_eq_true k4
        split at h
        · rename_i y0 x0 st
          cases hbb : Nat.ble (xm_cats st) 8 with
          | false => rw [hbb] at h; cases h
          | true =>
            rw [hbb] at h
            have b1 := Nat.le_of_ble_eq_true hbb
            exact fun H locs als hP hL hn hS => va_mmin hx hb (by rw [hL.1]; exact hn.symm) hown (hts _ (xm_wd_in k2)) (hts _ xm_wd_min.1) (hts _ xm_wd_max.2.1) (hts _ xm_wd_min.2) (Nat.le_trans k3 hfr) (by rw [xk_sum hK]; omega) hce hsl hdec (hN _ _ _ h hu H locs als hP hL hn hS)
        · cases h
      · rename_i pl0
        obtain ⟨k2, hI⟩ := Bool.and_eq_true_iff.mp (show (xm_wd pl0 (.methodLink q.1.cls n0 arraycopyName) && (Nat.ble 1 (xm_frl q) && Nat.ble (8 + (nativeFrameWords "java/lang/System" "arraycopy" 5 + 11)) (xm_lol q))) = true from hI)
        obtain ⟨k3, k4⟩ := Bool.and_eq_true_iff.mp hI
        have k3 := Nat.le_of_ble_eq_true k3
        have k4 := Nat.le_of_ble_eq_true k4
        split at h
        · rename_i n1 dp0 i1 p1 sp0 a1 b1 st
          cases hbb : Nat.ble (xm_cats st) 8 with
          | false => rw [hbb] at h; cases h
          | true =>
            rw [hbb] at h
            obtain ⟨⟨g1, g2⟩, h⟩ := xm_gd_inv h
            exact xk_copy hK hdec (xm_wd_in k2) xm_wd_nat.1 xm_wd_nat.2.1 xm_wd_nat.2.2 k3 k4 (Nat.le_of_ble_eq_true hbb) g1 g2 (hN _ _ _ h hu)
        · cases h
      · rename_i z0 pl0 nz0 nz1 nz2
        cases hst1 : Nat.beq (xm_nu z0 2) 50 with
        | false => rw [hst1] at h; cases h
        | true =>
          rw [hst1] at h
          have hst0 := Nat.eq_of_beq_eq_true hst1
          have hI : xm_ckc q.1.cls n0 (xm_frl q) (xm_lol q) [z0, pl0] = true := by
            have hI : (match (generalizing := false) ([z0, pl0] : List Nat) with | [900, pl] => xm_wd pl (.methodLink q.1.cls n0 Lib.Math.max.name) && (Nat.ble 1 (xm_frl q) && Nat.ble 21 (xm_lol q)) | [901, pl] => xm_wd pl (.methodLink q.1.cls n0 Lib.Math.min.name) && (Nat.ble 1 (xm_frl q) && Nat.ble 21 (xm_lol q)) | [902, pl] => xm_wd pl (.methodLink q.1.cls n0 arraycopyName) && (Nat.ble 1 (xm_frl q) && Nat.ble (8 + (nativeFrameWords "java/lang/System" "arraycopy" 5 + 11)) (xm_lol q)) | o => xm_ckc q.1.cls n0 (xm_frl q) (xm_lol q) o) = true := hI
            split at hI
            · rename_i e; cases e; first | exact (nz0 rfl).elim | exact (nz0 _ rfl).elim | exact (nz0 rfl rfl).elim
            · rename_i e; cases e; first | exact (nz1 rfl).elim | exact (nz1 _ rfl).elim | exact (nz1 rfl rfl).elim
            · rename_i e; cases e; first | exact (nz2 rfl).elim | exact (nz2 _ rfl).elim | exact (nz2 rfl rfl).elim
            · exact hI
          change xm_run _ _ (xm_cal none z0 (xm_nu z0 3) ls is st u) = some r at h
          unfold xm_cal at h
          cases hbb : (Nat.ble (xm_cats (st.drop (xm_nu z0 3))) 8 && (Nat.beq (st.take (xm_nu z0 3)).length (xm_nu z0 3) && Nat.ble (xm_slo (st.take (xm_nu z0 3)).reverse).length (xm_mx z0))) with
          | false => rw [hbb] at h; cases h
          | true =>
            rw [hbb] at h
            obtain ⟨b1, b2⟩ := Bool.and_eq_true_iff.mp hbb
            obtain ⟨b2, b3⟩ := Bool.and_eq_true_iff.mp b2
            have b1 := Nat.le_of_ble_eq_true b1
            have b2 := Nat.eq_of_beq_eq_true b2
            have b3 := Nat.le_of_ble_eq_true b3
            obtain ⟨w, w1, w2⟩ := xm_bk_inv (show xm_bk (xm_nu z0 4) (xm_ev n z0 (xm_cod z0, xm_ent (xm_mx z0) (st.take (xm_nu z0 3)).reverse, [], u)) (xm_ev n y) (is, ls, st.drop (xm_nu z0 3), u) = some r from h)
            obtain ⟨qz, hz0⟩ := xm_ev_tab w1
            unfold xm_ckc at hI
            dsimp only at hI
            rw [hz0] at hI
            obtain ⟨k1, hI⟩ := Bool.and_eq_true_iff.mp (show (Nat.blt z0 201 && _) = true from hI)
            obtain ⟨k2, hI⟩ := Bool.and_eq_true_iff.mp hI
            obtain ⟨k3, k4⟩ := Bool.and_eq_true_iff.mp hI
            have k1 : z0 < 201 := Nat.le_of_ble_eq_true k1
            have k3 := Nat.le_of_ble_eq_true k3
            have k4 := Nat.le_of_ble_eq_true k4
            exact xk_callS ih hK hz0 k1 hdec (xm_wd_in k2) k3 k4 hst0 w1 b1 b2 b3 hu (hN _ _ _ w2 ((xm_ev_X _ _ _ _ w1).trans hu))
      · cases h
    | invokevirtual n0 =>
      have hl : len = 3 := Nat.eq_of_beq_eq_true hlen
      subst hl
      change xm_run _ _ (xm_invv o ls is st u) = some r at h
      unfold xm_invv at h
      split at h
      · rename_i z0 pl0
        split at h
        · rename_i i0 hv0
          cases hst1 : Nat.blt (xm_nu z0 2) 5 with
          | false => rw [hst1] at h; cases h
          | true =>
            rw [hst1] at h
            have hst0 : xm_nu z0 2 < 5 := Nat.le_of_ble_eq_true hst1
            change xm_ckc q.1.cls n0 (xm_frl q) (xm_lol q) [z0, pl0] = true at hI
            change xm_run _ _ (xm_cal (some (xm_cls i0 = xm_nu z0 2)) z0 (xm_nu z0 3) ls is st u) = some r at h
            unfold xm_cal at h
            cases hbb : (Nat.ble (xm_cats (st.drop (xm_nu z0 3))) 8 && (Nat.beq (st.take (xm_nu z0 3)).length (xm_nu z0 3) && Nat.ble (xm_slo (st.take (xm_nu z0 3)).reverse).length (xm_mx z0))) with
            | false => rw [hbb] at h; cases h
            | true =>
              rw [hbb] at h
              obtain ⟨b1, b2⟩ := Bool.and_eq_true_iff.mp hbb
              obtain ⟨b2, b3⟩ := Bool.and_eq_true_iff.mp b2
              have b1 := Nat.le_of_ble_eq_true b1
              have b2 := Nat.eq_of_beq_eq_true b2
              have b3 := Nat.le_of_ble_eq_true b3
              change xm_if (xm_cls i0 = xm_nu z0 2) (xm_bk (xm_nu z0 4) (xm_ev n z0 (xm_cod z0, xm_ent (xm_mx z0) (st.take (xm_nu z0 3)).reverse, [], u)) (xm_ev n y) (is, ls, st.drop (xm_nu z0 3), u)) none = some r at h
              by_cases hcl : xm_cls i0 = xm_nu z0 2
              · rw [xm_if_t hcl] at h
                obtain ⟨w, w1, w2⟩ := xm_bk_inv h
                obtain ⟨qz, hz0⟩ := xm_ev_tab w1
                unfold xm_ckc at hI
                dsimp only at hI
                rw [hz0] at hI
                obtain ⟨k1, hI⟩ := Bool.and_eq_true_iff.mp (show (Nat.blt z0 201 && _) = true from hI)
                obtain ⟨k2, hI⟩ := Bool.and_eq_true_iff.mp hI
                obtain ⟨k3, k4⟩ := Bool.and_eq_true_iff.mp hI
                have k1 : z0 < 201 := Nat.le_of_ble_eq_true k1
                have k3 := Nat.le_of_ble_eq_true k3
                have k4 := Nat.le_of_ble_eq_true k4
                have hC : qz.1.cls = xm_cn (xm_nu z0 2) := by
                  have hmf := xm_chm_all z0 qz hz0 k1
                  exact xm_chm_cn hz0 hmf hst0
                refine xk_callV ih hK hz0 k1 hdec (xm_wd_in k2) k3 k4 (by omega) (b := xk_ad K (i0, 0)) (v0 := xv_r i0 0) (C := xm_cn (xm_nu z0 2)) hv0 rfl hC (fun H locs hP hS => ?_) w1 b1 b2 b3 hu (hN _ _ _ w2 ((xm_ev_X _ _ _ _ w1).trans hu))
                obtain ⟨w9, -, hw9⟩ := xk_wl (K := K) (xm_pl_0 hcl hst0)
                exact va_recv (q := (xm_cn (xm_nu z0 2), xm_fT (xm_nu z0 2), xm_nf (xm_nu z0 2))) hKK hP (xm_cl_at _ hst0) (q0 := w9) (by rw [hw9 u, xm_ct_0, hcl])
              · rw [xm_if_f hcl] at h
                cases h
        · rename_i q1 hv0
          cases hst1 : Nat.beq (xm_nu z0 2) 10 with
          | false => rw [hst1] at h; cases h
          | true =>
            rw [hst1] at h
            have hst0 := Nat.eq_of_beq_eq_true hst1
            change xm_ckc q.1.cls n0 (xm_frl q) (xm_lol q) [z0, pl0] = true at hI
            change xm_run _ _ (xm_cal (some (q1 < 15)) z0 (xm_nu z0 3) ls is st u) = some r at h
            unfold xm_cal at h
            cases hbb : (Nat.ble (xm_cats (st.drop (xm_nu z0 3))) 8 && (Nat.beq (st.take (xm_nu z0 3)).length (xm_nu z0 3) && Nat.ble (xm_slo (st.take (xm_nu z0 3)).reverse).length (xm_mx z0))) with
            | false => rw [hbb] at h; cases h
            | true =>
              rw [hbb] at h
              obtain ⟨b1, b2⟩ := Bool.and_eq_true_iff.mp hbb
              obtain ⟨b2, b3⟩ := Bool.and_eq_true_iff.mp b2
              have b1 := Nat.le_of_ble_eq_true b1
              have b2 := Nat.eq_of_beq_eq_true b2
              have b3 := Nat.le_of_ble_eq_true b3
              change xm_if (q1 < 15) (xm_bk (xm_nu z0 4) (xm_ev n z0 (xm_cod z0, xm_ent (xm_mx z0) (st.take (xm_nu z0 3)).reverse, [], u)) (xm_ev n y) (is, ls, st.drop (xm_nu z0 3), u)) none = some r at h
              by_cases hcl : q1 < 15
              · rw [xm_if_t hcl] at h
                obtain ⟨w, w1, w2⟩ := xm_bk_inv h
                obtain ⟨qz, hz0⟩ := xm_ev_tab w1
                unfold xm_ckc at hI
                dsimp only at hI
                rw [hz0] at hI
                obtain ⟨k1, hI⟩ := Bool.and_eq_true_iff.mp (show (Nat.blt z0 201 && _) = true from hI)
                obtain ⟨k2, hI⟩ := Bool.and_eq_true_iff.mp hI
                obtain ⟨k3, k4⟩ := Bool.and_eq_true_iff.mp hI
                have k1 : z0 < 201 := Nat.le_of_ble_eq_true k1
                have k3 := Nat.le_of_ble_eq_true k3
                have k4 := Nat.le_of_ble_eq_true k4
                have hC : qz.1.cls = "java/lang/String" := xm_chm_st hz0 (xm_chm_all z0 qz hz0 k1) hst0
                exact xk_callV ih hK hz0 k1 hdec (xm_wd_in k2) k3 k4 (by omega) (b := xk_ro K (1, q1)) (v0 := xv_o 1 q1) (C := "java/lang/String") hv0 rfl hC (fun H locs hP hS => vk_recv hX.2.2.2.2.2.2.2.1 hcl hS) w1 b1 b2 b3 hu (hN _ _ _ w2 ((xm_ev_X _ _ _ _ w1).trans hu))
              · rw [xm_if_f hcl] at h
                cases h
        · cases h
      · cases h
    | _ => cases h
