/-! THE CONSTANT CELLS, out of what the statement gives of the start -/
abbrev kx_F : List Cond := flatC (Jvm.Cond.and given_1 narrow_1)
abbrev kx_m : Term := .static "ListenWood" "MAX_OF_PLANK" "[I"
abbrev kx_k : Term := .static "ListenWood" "KIND_ABOVE" "[I"
abbrev kx_s (i : Nat) : Term := .string RX1 (xm_sx.getD i 0)
theorem kx_1 : Cond.arrayOf kx_m .int ∈ kx_F ∧ Cond.eq (.length kx_m) (.int (Int32.ofNat 7)) ∈ kx_F ∧ ∀ j, j < 7 → Cond.eq (.elem kx_m (.int (Int32.ofNat j))) (.int (xm_t1 j)) ∈ kx_F := by decide +kernel
theorem kx_2 : Cond.arrayOf kx_k .int ∈ kx_F ∧ Cond.eq (.length kx_k) (.int (Int32.ofNat 7)) ∈ kx_F ∧ ∀ j, j < 7 → Cond.eq (.elem kx_k (.int (Int32.ofNat j))) (.int (xm_t2 j)) ∈ kx_F := by decide +kernel
theorem kx_3 : Cond.eq (.static "java/lang/String" "COMPACT_STRINGS" "Z") (.int 1) ∈ kx_F ∧ Cond.isRef (.static "jdk/internal/util/Preconditions" "SIOOBE_FORMATTER" "Ljava/util/function/BiFunction;") ∈ kx_F := by decide +kernel
theorem kx_4 : ∀ i, i < 15 → Cond.exactly (kx_s i) "java/lang/String" ∈ kx_F := by decide +kernel
theorem kx_5 : ∀ i, i < 15 → Cond.eq (.field (kx_s i) "java/lang/String" "coder" "B") (.int 0) ∈ kx_F := by decide +kernel
theorem kx_6 : ∀ i, i < 15 → Cond.arrayOf (.field (kx_s i) "java/lang/String" "value" "[B") .byte ∈ kx_F := by decide +kernel
theorem kx_7 : ∀ i, i < 15 → Cond.eq (.length (.field (kx_s i) "java/lang/String" "value" "[B")) (.int (Int32.ofNat (xm_len.getD i 0))) ∈ kx_F := by decide +kernel
theorem kx_8 : ∀ i, i < 15 → ∀ j, j < xm_len.getD i 0 → Cond.eq (.elem (.field (kx_s i) "java/lang/String" "value" "[B") (.int (Int32.ofNat j))) (.int ((xm_byt.getD i []).getD j 0)) ∈ kx_F := by decide +kernel
theorem kx_9 : ∀ i, i < 15 → ∀ j, j < 15 → i < j → kx_F[([0, 48, 57, 68, 79, 90, 104, 116, 132, 148, 166, 184, 203, 224, 245] : List Nat).getD j 0 + i]? = some (Cond.not (Cond.eq (kx_s i) (kx_s j))) := by decide +kernel
theorem kx_a : Cond.laysStatic "ListenWood" "MAX_OF_PLANK" "[I" ∈ lw_tbl ∧ Cond.laysStatic "ListenWood" "KIND_ABOVE" "[I" ∈ lw_tbl ∧ Cond.laysStatic "java/lang/String" "COMPACT_STRINGS" "Z" ∈ lw_tbl ∧ Cond.laysStatic "jdk/internal/util/Preconditions" "SIOOBE_FORMATTER" "Ljava/util/function/BiFunction;" ∈ lw_tbl := ⟨List.mem_of_getElem? (i := 333) (by decide +kernel), List.mem_of_getElem? (i := 657) (by decide +kernel), List.mem_of_getElem? (i := 564) (by decide +kernel), List.mem_of_getElem? (i := 580) (by decide +kernel)⟩
theorem kx_b : Cond.initialized "ListenWood" ∈ lw_tbl ∧ Cond.initialized "java/lang/String" ∈ lw_tbl ∧ Cond.initialized "jdk/internal/util/Preconditions" ∈ lw_tbl := ⟨List.mem_of_getElem? (i := 64) (by decide +kernel), List.mem_of_getElem? (i := 72) (by decide +kernel), List.mem_of_getElem? (i := 74) (by decide +kernel)⟩
theorem kx_c : ∀ i, i < 15 → lw_tbl[([544, 545, 546, 547, 548, 549, 550, 607, 621, 622, 624, 629, 630, 631, 636] : List Nat).getD i 0]? = some (Cond.stringRef RX1 (xm_sx.getD i 0) (xm_tx.getD i "")) := by decide +kernel
theorem kx_X {b L : Nat} {xs : Nat → Int32} {s : State} (hL : L ≤ 3072) (hts : ∀ w ∈ lw_tbl, w.before #[Value.ref b] s = true) (hX : va_X b L xs s s.heap) (hbl : b < s.heap.size) (hgv : (Jvm.Cond.and given_1 narrow_1).before #[Value.ref b] s = true) :
    ∃ (ro : Nat × Nat → Nat) (vq : Value), ro (0, 0) = b ∧ xm_X (fun q : Nat => s.heap.size ≤ q) ro vq (L, xs) s s.heap := by
  have hs := flat_of_before _ hgv
  have hA : ∀ a : Nat, a < s.heap.size → ¬ (fun q : Nat => s.heap.size ≤ q) a := fun a h => Nat.not_le.mpr h
  obtain ⟨t1, e1, T1⟩ := va_Tof (tm := kx_m) (N := 7) (f := fun k => .int (xm_t1 k)) (by decide) (hs _ kx_1.1) (va_eqt (hs _ kx_1.2.1)) (fun j hj => va_eqt (hs _ (kx_1.2.2 j hj))) hA
  obtain ⟨t2, e2, T2⟩ := va_Tof (tm := kx_k) (N := 7) (f := fun k => .int (xm_t2 k)) (by decide) (hs _ kx_2.1) (va_eqt (hs _ kx_2.2.1)) (fun j hj => va_eqt (hs _ (kx_2.2.2 j hj))) hA
  have z1 := va_Zref (hts _ kx_a.1) (hts _ kx_b.1) e1 hA
  have z2 := va_Zref (hts _ kx_a.2.1) (hts _ kx_b.1) e2 hA
  have z3 := va_Zof (hts _ kx_a.2.2.1) (hts _ kx_b.2.1) (va_eqi (hs _ kx_3.1)) hA
  have z4 := va_Zqof (hts _ kx_a.2.2.2) (hts _ kx_b.2.2) (hs _ kx_3.2) hA
  obtain ⟨vq, z4, hvq⟩ : ∃ vq : Value, va_Z "jdk/internal/util/Preconditions" "SIOOBE_FORMATTER" "Ljava/util/function/BiFunction;" vq (fun q : Nat => s.heap.size ≤ q) s s.heap ∧ (vq = .null ∨ ∃ t, vq = .ref t) := by
    rcases z4 with h | ⟨t, h⟩
    · exact ⟨_, h, Or.inl rfl⟩
    · exact ⟨_, h, Or.inr ⟨t, rfl⟩⟩
  obtain ⟨adK, adV, hS, hE⟩ := vk_Sof (N := 15) (tm := kx_s) (len := xm_len) (byt := xm_byt) (by decide) (fun i hi => hs _ (kx_4 i hi)) (fun i hi => hs _ (kx_5 i hi)) (fun i hi => hs _ (kx_6 i hi)) (fun i hi => hs _ (kx_7 i hi)) (fun i hi j hj => hs _ (kx_8 i hi j hj)) (fun i j hi hj hij => (Nat.lt_or_gt_of_ne hij).imp (fun h => hs _ (List.mem_of_getElem? (kx_9 i hi j hj h))) (fun h => hs _ (List.mem_of_getElem? (kx_9 j hj i hi h)))) hA
  obtain ⟨scr, hcb, hof, hkn, hsz, hval⟩ := hX
  refine ⟨fun q => match q with
    | (0, 0) => b
    | (0, 1) => t1
    | (0, 2) => t2
    | (1, i) => adK i
    | (2, i) => adV i
    | _ => 0, vq, rfl, ⟨scr, hcb, hof, hkn, Nat.le_of_eq hsz.symm, congrArg Int32.ofNat hsz, hval, hA b hbl⟩, T1, T2, z1, z2, z3, z4, hS, fun i hi => vk_R.of (hts _ (List.mem_of_getElem? (kx_c i hi))) (hE i hi), hvq⟩
