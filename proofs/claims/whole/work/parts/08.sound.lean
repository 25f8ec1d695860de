/-! SOUNDNESS: rows of the machine for the states of the abstract one -/
theorem xm_fk_lt {c k n : Nat} (h : xm_fk c k = n) (hn : n < 9) : c < 5 ∧ k < xm_nf c := by
  unfold xm_fk at h
  rcases Nat.lt_or_ge c 5 with hc | hc
  · refine ⟨hc, ?_⟩
    have key : ∀ c, c < 5 → ((([[1, 1, 0], [0, 1, 1, 1, 1, 1], [0, 0, 0, 1, 1, 1, 1, 1, 0, 0, 0, 0, 0, 0, 0, 0], [4, 4, 4, 3, 4, 0, 0], [0, 0, 0, 0, 3, 0, 0, 1, 1, 1, 1, 2, 1, 0, 0, 0, 0]] : List (List Nat)).getD c []).length = xm_nf c) := by decide +kernel
    rcases Nat.lt_or_ge k (xm_nf c) with hk | hk
    · exact hk
    · exfalso
      rw [List.getD_eq_getElem?_getD (i := k), List.getElem?_eq_none (by rw [key c hc]; exact hk)] at h
      have : (9 : Nat) = n := h
      omega
  · exfalso
    have e : (([[1, 1, 0], [0, 1, 1, 1, 1, 1], [0, 0, 0, 1, 1, 1, 1, 1, 0, 0, 0, 0, 0, 0, 0, 0], [4, 4, 4, 3, 4, 0, 0], [0, 0, 0, 0, 3, 0, 0, 1, 1, 1, 1, 2, 1, 0, 0, 0, 0]] : List (List Nat)).getD c []) = [] := by
      rw [List.getD_eq_getElem?_getD, List.getElem?_eq_none (by simpa using hc)]
      rfl
    rw [e] at h
    have : (9 : Nat) = n := h
    omega
section XS
variable {K : xm_K} {X : Nat × (Nat → Int32)} {q : xm_M} {pc : Nat} {ls : xm_L} {st : List xm_V} {u : xm_U}
theorem xk_wl {q0 : Nat × Nat} (h : q0 ∈ xm_pl) : ∃ k : Nat, xm_pl[k]? = some q0 ∧ ∀ u : xm_U, (xm_wl (xk_ad K) (xk_cA K) u)[k]? = some (xk_ad K q0, xm_ct (xk_ad K) (xk_cA K) u q0) := xm_wl_at h
theorem xk_get (hK : xm_Kx K X q) {i c k idx : Nat} (hd : decode q.2.1 pc = .ok (.getfield idx, 3)) (hc : c < 5) (hk : k < xm_nf c) (hl : Cond.fieldLink q.1.cls idx (xm_fT c k).1 (xm_fT c k).2.1 (xm_fT c k).2.2.1 ∈ xm_tb) (hi : xm_cls i = c) {v : xm_V} (hv : xm_fv (xk_ad K) u i k = xk_cv K v) (h : xm_Wk K (pc + 3) ls (v :: st) u) : xm_Wk K pc ls (xv_r i 0 :: st) u := by
  obtain ⟨hx, hb, hml, hown, hts, hKK, hX, hG, hA, hfr, hlo, hce, hsl⟩ := hK
  intro H locs als hP hL hn hS
  subst hi
  obtain ⟨w, -, hw⟩ := xk_wl (K := K) (xm_pl_0 rfl hc)
  refine va_get (D := xk_D K) (cl := xm_cl) (tys := xm_tys (xk_cA K)) (ws := xm_wl (xk_ad K) (xk_cA K) u) (C := xm_cn (xm_cls i)) (T := xm_fT (xm_cls i)) (N := xm_nf (xm_cls i)) (ci := xm_cls i) (fs := (List.range (xm_nf (xm_cls i))).map (xm_fv (xk_ad K) u i)) (v := xk_cv K v) hx hb hts (xm_lays_ok _ hc) hown hKK hP w ?_ (xm_cl_at _ hc) k hk (hts _ hl) (fun _ h9 => h9) ?_ hd (h H locs als hP hL hn hS)
  · rw [hw u, xm_ct_0]
  · simp [hk, hv]
theorem xk_put (hK : xm_Kx K X q) {i c k idx : Nat} {v : Int32} (hd : decode q.2.1 pc = .ok (.putfield idx, 3)) (hc : c < 5) (hk : k < xm_nf c) (hl : Cond.fieldLink q.1.cls idx (xm_fT c k).1 (xm_fT c k).2.1 (xm_fT c k).2.2.1 ∈ xm_tb) (hf : (xm_fT c k).2.2.2 = false) (hi : xm_cls i = c) (hk13 : xm_fk c k = 1 ∨ xm_fk c k = 3) (hn : narrow (xm_fy c k) (.int v) = .int v) (hfit : fits (xm_fy c k) (.int v) = true) (h : xm_Wk K (pc + 3) ls st (xm_us u i 0 k v)) : xm_Wk K pc ls (xv_i v :: xv_r i 0 :: st) u := by
  obtain ⟨hx, hb, hml, hown, hts, hKK, hX, hG, hA, hfr, hlo, hce, hsl⟩ := hK
  intro H locs als hP hL hnl hS
  subst hi
  obtain ⟨w, hw0, hw⟩ := xk_wl (K := K) (xm_pl_0 rfl hc)
  refine va_put (D := xk_D K) (cl := xm_cl) (tys := xm_tys (xk_cA K)) (ws := xm_wl (xk_ad K) (xk_cA K) u) (C := xm_cn (xm_cls i)) (T := xm_fT (xm_cls i)) (N := xm_nf (xm_cls i)) (ci := xm_cls i) (fs := (List.range (xm_nf (xm_cls i))).map (xm_fv (xk_ad K) u i)) (v := .int v) (ty := xm_fy (xm_cls i) k) hx hb hts (xm_lays_ok _ hc) (xm_fy _) (xm_fy_ok _ hc) (xm_nm_ok _ hc) hown hKK hP (xm_wl_D hG.1 hG.2) hS w ?_ (xm_cl_at _ hc) k hk (hts _ hl) (fun _ h9 => h9) hf (xm_fy_ok _ hc k hk) hn hfit (by simpa using hk) hd (fun H1 locs1 hP1 _ hS1 => ?_)
  · rw [hw u, xm_ct_0]
  · rw [← xm_ct_us (cA := xk_cA K) hk hk13, xm_wl_set (u' := xm_us u i 0 k v) hw0 (fun q' _ hne => xm_ct_ua _ hne)] at hP1
    exact h H1 locs1 als hP1 hL hnl hS1
theorem xk_putl (hK : xm_Kx K X q) {i idx : Nat} {v : Int64} (hd : decode q.2.1 pc = .ok (.putfield idx, 3)) (hl : Cond.fieldLink q.1.cls idx (xm_fT 4 11).1 (xm_fT 4 11).2.1 (xm_fT 4 11).2.2.1 ∈ xm_tb) (hi : xm_cls i = 4) (h : xm_Wk K (pc + 3) ls st (xm_ul u v)) : xm_Wk K pc ls (xv_l v :: xv_r i 0 :: st) u := by
  obtain ⟨hx, hb, hml, hown, hts, hKK, hX, hG, hA, hfr, hlo, hce, hsl⟩ := hK
  have hi9 : i = 9 := by
    have h10 := xm_cls_lt hi (by decide)
    have key : ∀ i, i < 10 → xm_cls i = 4 → i = 9 := by decide +kernel
    exact key i h10 hi
  subst hi9
  intro H locs als hP hL hnl hS
  obtain ⟨w, hw0, hw⟩ := xk_wl (K := K) (xm_pl_0 (i := 9) rfl (by decide))
  refine va_put (D := xk_D K) (cl := xm_cl) (tys := xm_tys (xk_cA K)) (ws := xm_wl (xk_ad K) (xk_cA K) u) (C := xm_cn 4) (T := xm_fT 4) (N := 17) (ci := 4) (fs := (List.range 17).map (xm_fv (xk_ad K) u 9)) (v := .long v) (ty := .long) hx hb hts (xm_lays_ok 4 (by decide)) (xm_fy 4) (xm_fy_ok 4 (by decide)) (xm_nm_ok 4 (by decide)) hown hKK hP (xm_wl_D hG.1 hG.2) hS w ?_ rfl 11 (by decide) (hts _ hl) (fun _ h9 => h9) rfl (xm_fy_ok 4 (by decide) 11 (by decide)) rfl rfl (by simp) hd (fun H1 locs1 hP1 _ hS1 => ?_)
  · rw [hw u]
    rfl
  · rw [← xm_ct_ul9, xm_wl_set hw0 (fun q' hq' hne => xm_ct_ul hq' hne)] at hP1
    exact h H1 locs1 als hP1 hL hnl hS1
theorem xk_iald (hK : xm_Kx K X q) {i p : Nat} {j : Int32} (hd : decode q.2.1 pc = .ok (.iaload, 1)) (hin : xm_in i p j) (h : xm_Wk K (pc + 1) ls (xv_i (u.1 i p j.toNatClampNeg) :: st) u) : xm_Wk K pc ls (xv_i j :: xv_r i p :: st) u := by
  obtain ⟨hx, hb, hml, hown, hts, hKK, hX, hG, hA, hfr, hlo, hce, hsl⟩ := hK
  intro H locs als hP hL hnl hS
  obtain ⟨n, hn, hin⟩ := hin
  obtain ⟨w, -, hw⟩ := xk_wl (K := K) (xm_pl_ln hn).1
  refine va_iald (D := xk_D K) (cl := xm_cl) (tys := xm_tys (xk_cA K)) hx hb hKK hP w 0 (cA := xk_cA K 0) (n := n) (f := u.1 i p) ?_ rfl hin hd (h H locs als hP hL hnl hS)
  rw [hw u, xm_ct_i hn]
theorem xk_iast (hK : xm_Kx K X q) {i p : Nat} {j v : Int32} (hd : decode q.2.1 pc = .ok (.iastore, 1)) (hin : xm_in i p j) (h : xm_Wk K (pc + 1) ls st (xm_us u i p j.toNatClampNeg v)) : xm_Wk K pc ls (xv_i v :: xv_i j :: xv_r i p :: st) u := by
  obtain ⟨hx, hb, hml, hown, hts, hKK, hX, hG, hA, hfr, hlo, hce, hsl⟩ := hK
  intro H locs als hP hL hnl hS
  obtain ⟨n, hn, hin⟩ := hin
  obtain ⟨w, hw0, hw⟩ := xk_wl (K := K) (xm_pl_ln hn).1
  refine va_iast (D := xk_D K) (cl := xm_cl) (tys := xm_tys (xk_cA K)) hx hb hKK hP (xm_wl_D hG.1 hG.2) hS w 0 (cA := xk_cA K 0) (n := n) (f := u.1 i p) ?_ rfl hin hd (fun H1 locs1 hP1 _ hS1 => ?_)
  · rw [hw u, xm_ct_i hn]
  · have e : (Sum.inl (xk_cA K 0, n, .inl (upd (u.1 i p) j.toNatClampNeg v)) : va_E) = xm_ct (xk_ad K) (xk_cA K) (xm_us u i p j.toNatClampNeg v) (i, p) := by
      rw [xm_ct_i hn]
      unfold xm_us
      rw [xm_ua_same]
    rw [e, xm_wl_set (u' := xm_us u i p j.toNatClampNeg v) hw0 (fun q' _ hne => xm_ct_ua _ hne)] at hP1
    exact h H1 locs1 als hP1 hL hnl hS1
theorem xk_bald (hK : xm_Kx K X q) {j : Int32} (hd : decode q.2.1 pc = .ok (.baload, 1)) (hin : vp_in j 120) (h : xm_Wk K (pc + 1) ls (xv_i (u.1 9 7 j.toNatClampNeg) :: st) u) : xm_Wk K pc ls (xv_i j :: xv_r 9 7 :: st) u := by
  obtain ⟨hx, hb, hml, hown, hts, hKK, hX, hG, hA, hfr, hlo, hce, hsl⟩ := hK
  intro H locs als hP hL hnl hS
  obtain ⟨w, -, hw⟩ := xk_wl (K := K) (q0 := (9, 7)) (by decide +kernel)
  exact va_bald (D := xk_D K) (cl := xm_cl) (tys := xm_tys (xk_cA K)) hx hb hKK hP w 1 (cA := xk_cA K 1) (n := 120) (f := u.1 9 7) (hw u) rfl hin hd (h H locs als hP hL hnl hS)
theorem xk_bast (hK : xm_Kx K X q) {j v : Int32} (hd : decode q.2.1 pc = .ok (.bastore, 1)) (hin : vp_in j 120) (h : xm_Wk K (pc + 1) ls st (xm_us u 9 7 j.toNatClampNeg v.toInt8.toInt32)) : xm_Wk K pc ls (xv_i v :: xv_i j :: xv_r 9 7 :: st) u := by
  obtain ⟨hx, hb, hml, hown, hts, hKK, hX, hG, hA, hfr, hlo, hce, hsl⟩ := hK
  intro H locs als hP hL hnl hS
  obtain ⟨w, hw0, hw⟩ := xk_wl (K := K) (q0 := (9, 7)) (by decide +kernel)
  refine va_bast (D := xk_D K) (cl := xm_cl) (tys := xm_tys (xk_cA K)) hx hb hKK hP (xm_wl_D hG.1 hG.2) hS w 1 (cA := xk_cA K 1) (n := 120) (f := u.1 9 7) (hw u) rfl hin hd (fun H1 locs1 hP1 _ hS1 => ?_)
  have e : (Sum.inl (xk_cA K 1, 120, .inl (upd (u.1 9 7) j.toNatClampNeg (vp_nar .byte v))) : va_E) = xm_ct (xk_ad K) (xk_cA K) (xm_us u 9 7 j.toNatClampNeg v.toInt8.toInt32) (9, 7) := by
    rw [xm_ct_b]
    unfold xm_us
    rw [xm_ua_same, vp_nar_byte]
  rw [e, xm_wl_set (u' := xm_us u 9 7 j.toNatClampNeg v.toInt8.toInt32) hw0 (fun q' _ hne => xm_ct_ua _ hne)] at hP1
  exact h H1 locs1 als hP1 hL hnl hS1
theorem xk_aald (hK : xm_Kx K X q) {j : Int32} (hd : decode q.2.1 pc = .ok (.aaload, 1)) (hin : vp_in j 4) (h : xm_Wk K (pc + 1) ls (xv_r (5 + j.toNatClampNeg) 0 :: st) u) : xm_Wk K pc ls (xv_i j :: xv_r 0 6 :: st) u := by
  obtain ⟨hx, hb, hml, hown, hts, hKK, hX, hG, hA, hfr, hlo, hce, hsl⟩ := hK
  intro H locs als hP hL hnl hS
  obtain ⟨w, -, hw⟩ := xk_wl (K := K) (q0 := (0, 6)) (by decide +kernel)
  exact va_aldq (D := xk_D K) (cl := xm_cl) (tys := xm_tys (xk_cA K)) hx hb hKK hP w 2 (cA := xk_cA K 2) (C := "ListenWood$Sheet") (n := 4) (f := fun j => some (xk_ad K (5 + j, 0))) (hw u) rfl hin hd (h H locs als hP hL hnl hS)
theorem xk_copy (hK : xm_Kx K X q) {i p a b idx : Nat} {sp dp n : Int32} (hd : decode q.2.1 pc = .ok (.invokestatic idx, 3)) (hl : Cond.methodLink q.1.cls idx arraycopyName ∈ xm_tb) (hnat : Cond.native arraycopyName ∈ xm_tb) (hsta : Cond.static arraycopyName ∈ xm_tb) (hini : Cond.initialized "java/lang/System" ∈ xm_tb) (hf1 : 1 ≤ xm_frl q) (hl1 : 8 + (nativeFrameWords "java/lang/System" "arraycopy" 5 + 11) ≤ xm_lol q) (hcs : xm_cats st ≤ 8) (h1 : xm_cp a b sp n) (h2 : xm_cp i p dp n)
    (h : xm_Wk K (pc + 3) ls st (xm_ua u i p (va_cpy (u.1 a b) (u.1 i p) sp.toNatClampNeg dp.toNatClampNeg n.toNatClampNeg))) : xm_Wk K pc ls (xv_i n :: xv_i dp :: xv_r i p :: xv_i sp :: xv_r a b :: st) u := by
  have hcat := xm_cv_cat (ad := xk_ad K) (ro := xk_ro K) hK.2.2.2.2.2.2.1.2.2.2.2.2.2.2.2.2
  obtain ⟨hx, hb, hml, hown, hts, hKK, hX, hG, hA, hfr, hlo, hce, hsl⟩ := hK
  intro H locs als hP hL hnl hS
  obtain ⟨N1, a1, a2, a3, a4⟩ := h1
  obtain ⟨N2, b1, b2, b3, b4⟩ := h2
  obtain ⟨w1, -, hw1⟩ := xk_wl (K := K) (xm_pl_ln a1).1
  obtain ⟨w2, hw0, hw2⟩ := xk_wl (K := K) (xm_pl_ln b1).1
  have hsum : ∀ st : List xm_V, ((st.map (xk_cv K)).map fun v => v.category).sum = xm_cats st := by
    intro st
    induction st with
    | nil => rfl
    | cons v st ih =>
      simp only [List.map_cons, List.sum_cons, ih, xm_cats]
      congr 1
      by_cases hv : ∃ x, v = .inr (.inl x)
      · obtain ⟨x, rfl⟩ := hv
        rfl
      · rcases lv_cat (xk_cv K v) with z | z
        · rw [z]
          match v, hv with
          | .inl x, _ => rfl
          | .inr (.inl x), hv => exact absurd ⟨x, rfl⟩ hv
          | .inr (.inr x), _ => rfl
        · exact absurd ((hcat v).mp z) hv
  refine va_copyi (D := xk_D K) (cl := xm_cl) (tys := xm_tys (xk_cA K)) (own := q.1.cls) (index := idx) hx hb (by rw [hL.1]; exact hnl.symm) hown (hts _ hl) (hts _ hnat) (hts _ hsta) (hts _ hini) hKK hP (xm_wl_D hG.1 hG.2) hS w1 w2 0 0 (c0 := xk_cA K 0) (c1 := xk_cA K 0) (n0 := N1) (n1 := N2) (f := u.1 a b) (g := u.1 i p) (ty := .int) ?_ ?_ rfl rfl rfl a2 b2 a3 a4 b4 (fun _ _ => rfl) (by omega) (by rw [hsum]; omega) hd (fun H1 locs1 hP1 _ hS1 => ?_)
  · rw [hw1 u, xm_ct_i a1]
  · rw [hw2 u, xm_ct_i b1]
  · have e : (Sum.inl (xk_cA K 0, N2, .inl (va_cpy (u.1 a b) (u.1 i p) sp.toNatClampNeg dp.toNatClampNeg n.toNatClampNeg)) : va_E) = xm_ct (xk_ad K) (xk_cA K) (xm_ua u i p (va_cpy (u.1 a b) (u.1 i p) sp.toNatClampNeg dp.toNatClampNeg n.toNatClampNeg)) (i, p) := by
      rw [xm_ct_i b1, xm_ua_same]
    rw [e, xm_wl_set hw0 (fun q' _ hne => xm_ct_ua _ hne)] at hP1
    exact h H1 locs1 als hP1 hL hnl hS1
theorem xk_sum (hK : xm_Kx K X q) : ∀ st : List xm_V, ((st.map (xk_cv K)).map fun v => v.category).sum = xm_cats st := by
  have hcat := xm_cv_cat (ad := xk_ad K) (ro := xk_ro K) hK.2.2.2.2.2.2.1.2.2.2.2.2.2.2.2.2
  intro st
  induction st with
  | nil => rfl
  | cons v st ih =>
    simp only [List.map_cons, List.sum_cons, ih, xm_cats]
    congr 1
    by_cases hv : ∃ x, v = .inr (.inl x)
    · obtain ⟨x, rfl⟩ := hv
      rfl
    · rcases lv_cat (xk_cv K v) with z | z
      · rw [z]
        match v, hv with
        | .inl x, _ => rfl
        | .inr (.inl x), hv => exact absurd ⟨x, rfl⟩ hv
        | .inr (.inr x), _ => rfl
      · exact absurd ((hcat v).mp z) hv
theorem xk_store (hK : xm_Kx K X q) {als als' : Array Slot} {i : Nat} {w : xm_V} (hL : xm_lr (xk_cv K) als ls) (hw : lv_has als' ls.length ((i, xk_cv K w) :: (xm_as (xk_cv K) ls).filter (fun q => !(q.1 == i) && !(q.1 + 1 == i && q.2.category == 2)))) : xm_lr (xk_cv K) als' (xm_s1 ls i w) :=
  xm_lr_s1 (als := als) (fun v h => (xm_cv_cat (ad := xk_ad K) (ro := xk_ro K) hK.2.2.2.2.2.2.1.2.2.2.2.2.2.2.2.2 v).mp h) hw
theorem xk_store2 (hK : xm_Kx K X q) {als als' : Array Slot} {i : Nat} {w : xm_V} (hL : xm_lr (xk_cv K) als ls) (hw : lv_has als' ls.length ((i, xk_cv K w) :: (xm_as (xk_cv K) ls).filter (fun q => !(q.1 == i) && (!(q.1 == i + 1) && !(q.1 + 1 == i && q.2.category == 2))))) : xm_lr (xk_cv K) als' (xm_s2 ls i w) :=
  xm_lr_s2 (als := als) (fun v h => (xm_cv_cat (ad := xk_ad K) (ro := xk_ro K) hK.2.2.2.2.2.2.1.2.2.2.2.2.2.2.2.2 v).mp h) hw
theorem xm_s1_len (ls : xm_L) (k : Nat) (v : xm_V) : (xm_s1 ls k v).length = ls.length := by simp [xm_s1, xm_clob_len]
theorem xm_s2_len (ls : xm_L) (k : Nat) (v : xm_V) : (xm_s2 ls k v).length = ls.length := by simp [xm_s2, xm_clob_len]
end XS
