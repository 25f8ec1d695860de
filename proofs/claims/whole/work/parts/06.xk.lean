/-! WHAT IS CHECKED of a method's table, and what holds around a method's run -/
def xm_cn (c : Nat) : String := match c with
  | 0 => RX0
  | 1 => RX1
  | 2 => RX2
  | 3 => RX3
  | _ => RX4
def xm_fT (c : Nat) : u_T := match c with
  | 0 => TX0
  | 1 => TX1
  | 2 => TX2
  | 3 => TX3
  | _ => TX4
def xm_fy (c : Nat) : Nat → FieldType := match c with
  | 0 => tyX0
  | 1 => tyX1
  | 2 => tyX2
  | 3 => tyX3
  | _ => tyX4
abbrev xm_cl : List vw_C := [(RX0, TX0, 3), (RX1, TX1, 7), (RX2, TX2, 16), (RX3, TX3, 7), (RX4, TX4, 17)]
theorem xm_cl_at : ∀ c, c < 5 → xm_cl[c]? = some (xm_cn c, xm_fT c, xm_nf c)
  | 0, _ => rfl
  | 1, _ => rfl
  | 2, _ => rfl
  | 3, _ => rfl
  | 4, _ => rfl
  | c + 5, h => absurd h (by omega)
theorem xm_fy_ok : ∀ c, c < 5 → ∀ k, k < xm_nf c → parseFieldDescriptor (xm_fT c k).2.2.1 = some (xm_fy c k)
  | 0, _ => tyX0_ok
  | 1, _ => tyX1_ok
  | 2, _ => tyX2_ok
  | 3, _ => tyX3_ok
  | 4, _ => tyX4_ok
  | c + 5, h => absurd h (by omega)
theorem xm_nm_ok : ∀ c, c < 5 → ∀ a, a < xm_nf c → ∀ b, b < xm_nf c → a ≠ b → (xm_fT c a).2.1 ≠ (xm_fT c b).2.1
  | 0, _ => nmX0
  | 1, _ => nmX1
  | 2, _ => nmX2
  | 3, _ => nmX3
  | 4, _ => nmX4
  | c + 5, h => absurd h (by omega)
/-- the fields' words stand in the table -/
def xm_lays (ps : List Nat) (C : String) (T : u_T) (N : Nat) : Bool := decide ((List.range N).map (fun k => some (u_lay C T k)) = ps.map (fun i => lw_tbl[i]?))
theorem xm_lays_in {ps : List Nat} {C : String} {T : u_T} {N : Nat} (h : xm_lays ps C T N = true) : ∀ w ∈ u_ws C T N, w ∈ lw_tbl := by
  intro w hw
  have h1 := of_decide_eq_true h
  obtain ⟨k, hk, rfl⟩ := List.mem_map.mp hw
  have h2 : some (u_lay C T k) ∈ (List.range N).map (fun k => some (u_lay C T k)) := List.mem_map.mpr ⟨k, hk, rfl⟩
  rw [h1] at h2
  obtain ⟨i, -, hi⟩ := List.mem_map.mp h2
  exact List.mem_of_getElem? hi
/-- the static fields: 0, 1 tables, 2 COMPACT_STRINGS, 3 a reference that is only carried -/
def xm_sn (k : Nat) : String × String × String := match k with
  | 0 => ("ListenWood", "MAX_OF_PLANK", "[I")
  | 1 => ("ListenWood", "KIND_ABOVE", "[I")
  | 2 => ("java/lang/String", "COMPACT_STRINGS", "Z")
  | _ => ("jdk/internal/util/Preconditions", "SIOOBE_FORMATTER", "Ljava/util/function/BiFunction;")
def xm_sx : List Nat := [68, 70, 72, 74, 76, 78, 80, 87, 93, 95, 53, 105, 109, 58, 63]
def xm_tx : List String := ["spruce", "maple", "pear", "ebony", "deal", "fir", "plank", "in", "grain", "tone", "house", "loud", "mood", "event", "each"]
def xm_wd (pl : Nat) (w : Cond) : Bool := decide (lw_tbl[pl]? = some w)
theorem xm_wd_in {pl : Nat} {w : Cond} (h : xm_wd pl w = true) : w ∈ lw_tbl := List.mem_of_getElem? (of_decide_eq_true h)
/-- a jump's target -/
def xm_tg (cd : List xm_I) (pc : Nat) (off : Int) (t : Nat) : Bool := match cd[t]? with
  | some x => decide ((pc : Int) + off = (x.1 : Int))
  | none => false
def xm_il (i : Instr) : Nat := match i with
  | .iload _ => 2
  | .istore _ => 2
  | .aload _ => 2
  | .astore _ => 2
  | .lload _ => 2
  | .lstore _ => 2
  | .bipush _ => 2
  | .ldc _ => 2
  | .newarray _ => 2
  | .sipush _ => 3
  | .ldc_w _ => 3
  | .ldc2_w _ => 3
  | .iinc _ _ => 3
  | .goto _ => 3
  | .ifCond _ _ => 3
  | .if_icmp _ _ => 3
  | .getfield _ => 3
  | .putfield _ => 3
  | .getstatic _ => 3
  | .invokevirtual _ => 3
  | .invokestatic _ => 3
  | .invokespecial _ => 3
  | .new _ => 3
  | .anewarray _ => 3
  | _ => 1
def xm_isw (i : Instr) : Bool := match i with
  | .tableswitch _ _ _ _ => true
  | _ => false
def xm_frl (q : xm_M) : Nat := q.2.2.2.2.2.1.getD 0 0
def xm_lol (q : xm_M) : Nat := q.2.2.2.2.2.1.getD 1 0
def xm_ckc (own : String) (i : Nat) (fr lo : Nat) (o : List Nat) : Bool := match o with
  | [z, pl] => match xm_tab[z]? with
    | some q => Nat.blt z 201 && (xm_wd pl (.methodLink own i q.1) && (Nat.ble (xm_frl q + 1) fr && Nat.ble (8 + (q.2.2.1 + 11) + xm_lol q) lo))
    | none => true
  | _ => true
def xm_ckI (own : String) (rt : Option FieldType) (fr lo : Nat) (cd : List xm_I) (x : xm_I) : Bool := match x.2.1 with
  | .iconst n => (match x.2.2.2.1 with
    | [v] => decide (Int32.ofInt n = v)
    | _ => true)
  | .bipush n => (match x.2.2.2.1 with
    | [v] => decide ((Int8.ofInt n).toInt32 = v)
    | _ => true)
  | .sipush n => (match x.2.2.2.1 with
    | [v] => decide ((Int16.ofInt n).toInt32 = v)
    | _ => true)
  | .lconst n => decide (Int64.ofNat (n : Nat) = x.2.2.2.2.1)
  | .ldc i => (match x.2.2.1, x.2.2.2.1 with
    | [0, pl], [v] => xm_wd pl (.constant own i v)
    | [1, _, q], [] => decide (own = RX1) && (Nat.blt q 15 && Nat.beq (xm_sx.getD q 0) i)
    | _, _ => true)
  | .ldc_w i => (match x.2.2.1, x.2.2.2.1 with
    | [pl], [v] => xm_wd pl (.constant own i v)
    | _, _ => false)
  | .ldc2_w i => (match x.2.2.1 with
    | [pl] => xm_wd pl (.constantLong own i x.2.2.2.2.1)
    | _ => false)
  | .iinc _ n => (match x.2.2.2.1 with
    | [v] => decide (Int32.ofInt n = v)
    | _ => true)
  | .goto off => (match x.2.2.1 with
    | [t] => xm_tg cd x.1 off t
    | _ => true)
  | .ifCond _ off => (match x.2.2.1 with
    | [t] => xm_tg cd x.1 off t
    | _ => true)
  | .if_icmp _ off => (match x.2.2.1 with
    | [t] => xm_tg cd x.1 off t
    | _ => true)
  | .tableswitch d lo hi offs => (match x.2.2.1 with
    | t :: ts => xm_tg cd x.1 d t && (Nat.beq ts.length offs.size && (Nat.beq x.2.2.2.1.length offs.size && (decide (hi = lo + (offs.size : Int) - 1) && (decide (-2147483648 ≤ lo ∧ hi ≤ 2147483647) && (List.range offs.size).all (fun i => (match offs[i]?, ts[i]?, x.2.2.2.1[i]? with
      | some f, some t, some k => xm_tg cd x.1 f t && decide (k.toInt = lo + (i : Int))
      | _, _, _ => false))))))
    | _ => true)
  | .getfield i => (match x.2.2.1 with
    | [c, k, pl] => (bif Nat.blt c 5 then Nat.blt k (xm_nf c) && xm_wd pl (.fieldLink own i (xm_fT c k).1 (xm_fT c k).2.1 (xm_fT c k).2.2.1)
      else (match c, k with
        | 10, 0 => xm_wd pl (.fieldLink own i "java/lang/String" "value" "[B")
        | 10, 1 => xm_wd pl (.fieldLink own i "java/lang/String" "coder" "B")
        | _, _ => false))
    | _ => true)
  | .putfield i => (match x.2.2.1 with
    | [c, k, pl] => Nat.blt c 5 && (Nat.blt k (xm_nf c) && (xm_wd pl (.fieldLink own i (xm_fT c k).1 (xm_fT c k).2.1 (xm_fT c k).2.2.1) && !(xm_fT c k).2.2.2))
    | _ => true)
  | .getstatic i => (match x.2.2.1 with
    | [k, pl] => bif Nat.blt k 4 then xm_wd pl (.fieldLink own i (xm_sn k).1 (xm_sn k).2.1 (xm_sn k).2.2) else true
    | _ => true)
  | .invokestatic i => (match x.2.2.1 with
    | [900, pl] => xm_wd pl (.methodLink own i Lib.Math.max.name) && (Nat.ble 1 fr && Nat.ble 21 lo)
    | [901, pl] => xm_wd pl (.methodLink own i Lib.Math.min.name) && (Nat.ble 1 fr && Nat.ble 21 lo)
    | [902, pl] => xm_wd pl (.methodLink own i arraycopyName) && (Nat.ble 1 fr && Nat.ble (8 + (nativeFrameWords "java/lang/System" "arraycopy" 5 + 11)) lo)
    | o => xm_ckc own i fr lo o)
  | .invokevirtual i => xm_ckc own i fr lo x.2.2.1
  | .areturn => (match rt with
    | some (.object _) => true
    | some (.array _) => true
    | _ => false)
  | .lreturn => decide (rt = some .long)
  | .return_ => decide (rt = none)
  | _ => true
def xm_ck1 (own : String) (bytes : ByteArray) (rt : Option FieldType) (fr lo : Nat) (cd : List xm_I) (j : Nat) (x : xm_I) : Bool := match decode bytes x.1 with
  | .ok (i, len) => decide (i = x.2.1) && ((xm_isw x.2.1 || Nat.beq len (xm_il x.2.1)) && ((match cd[j + 1]? with
    | some x2 => Nat.beq x2.1 (x.1 + len)
    | none => true) && xm_ckI own rt fr lo cd x))
  | .error _ => false
def xm_chk (q : xm_M) : Bool := decide (q.2.2.2.2.1.head?.map (fun x => x.1) = some 0) && (List.range q.2.2.2.2.1.length).all (fun j => match q.2.2.2.2.1[j]? with
  | some x => xm_ck1 q.1.cls q.2.1 q.2.2.2.1 (xm_frl q) (xm_lol q) q.2.2.2.2.1 j x
  | none => true)
/-- of a method that is called -/
def xm_chm (q : xm_M) : Bool := match q.2.2.2.2.2.1, q.2.2.2.2.2.2 with
  | [_, _, st, n, _], [p0, p1, p2, p3] => plainName q.1.cls && (decide (q.1.cls ≠ "java/lang/invoke/MethodHandle" ∧ q.1.cls ≠ "java/lang/invoke/VarHandle") && (xm_wd p2 (.initialized q.1.cls) && (xm_wd p3 (.code q.1 q.2.1 q.2.2.1 q.2.2.2.1) && (bif Nat.beq st 50 then xm_wd p0 (.static q.1) && decide ((parseMethodDescriptor q.1.desc).map (fun d => d.parameters.length) = some n) else xm_wd p0 (.instanceMethod q.1) && (xm_wd p1 (.selects q.1.cls q.1 q.1) && (decide ((parseMethodDescriptor q.1.desc).map (fun d => d.parameters.length + 1) = some n) && (bif Nat.blt st 5 then decide (xm_cn st = q.1.cls) else decide (q.1.cls = "java/lang/String"))))))))
  | _, _ => false
/-! around a run -/
abbrev xm_K : Type := Program × Launch × Env × Room × State × MethodId × Array Value × List Frame × Method × Code × Nat × Nat × (State → Prop) × va_G × (Nat → Prop) × (Nat × Nat → Nat) × (Nat × Nat → Nat) × Value × (Nat → ClassId)
abbrev xk_p (K : xm_K) : Program := K.1
abbrev xk_l (K : xm_K) : Launch := K.2.1
abbrev xk_e (K : xm_K) : Env := K.2.2.1
abbrev xk_R (K : xm_K) : Room := K.2.2.2.1
abbrev xk_s (K : xm_K) : State := K.2.2.2.2.1
abbrev xk_m (K : xm_K) : MethodId := K.2.2.2.2.2.1
abbrev xk_a (K : xm_K) : Array Value := K.2.2.2.2.2.2.1
abbrev xk_b (K : xm_K) : List Frame := K.2.2.2.2.2.2.2.1
abbrev xk_h (K : xm_K) : Method := K.2.2.2.2.2.2.2.2.1
abbrev xk_c (K : xm_K) : Code := K.2.2.2.2.2.2.2.2.2.1
abbrev xk_n (K : xm_K) : Nat := K.2.2.2.2.2.2.2.2.2.2.1
abbrev xk_k (K : xm_K) : Nat := K.2.2.2.2.2.2.2.2.2.2.2.1
abbrev xk_Q (K : xm_K) : State → Prop := K.2.2.2.2.2.2.2.2.2.2.2.2.1
abbrev xk_D (K : xm_K) : va_G := K.2.2.2.2.2.2.2.2.2.2.2.2.2.1
abbrev xk_A (K : xm_K) : Nat → Prop := K.2.2.2.2.2.2.2.2.2.2.2.2.2.2.1
abbrev xk_ad (K : xm_K) : Nat × Nat → Nat := K.2.2.2.2.2.2.2.2.2.2.2.2.2.2.2.1
abbrev xk_ro (K : xm_K) : Nat × Nat → Nat := K.2.2.2.2.2.2.2.2.2.2.2.2.2.2.2.2.1
abbrev xk_vq (K : xm_K) : Value := K.2.2.2.2.2.2.2.2.2.2.2.2.2.2.2.2.2.1
abbrev xk_cA (K : xm_K) : Nat → ClassId := K.2.2.2.2.2.2.2.2.2.2.2.2.2.2.2.2.2.2
abbrev xk_cv (K : xm_K) : xm_V → Value := xm_cv (xk_ad K) (xk_ro K) (xk_vq K)
abbrev xm_tys (cA : Nat → ClassId) : List (ClassId × FieldType) := [(cA 0, .int), (cA 1, .byte), (cA 2, .object "ListenWood$Sheet")]
/-- the constant cells: the script, the two tables, two statics, the texts -/
def xm_X (A : Nat → Prop) (ro : Nat × Nat → Nat) (vq : Value) (X : Nat × (Nat → Int32)) (U : State) (H : Heap) : Prop :=
  va_T .int (ro (0, 0)) X.1 (fun k => .int (X.2 k)) A U H ∧ va_T .int (ro (0, 1)) 7 (fun k => .int (xm_t1 k)) A U H ∧ va_T .int (ro (0, 2)) 7 (fun k => .int (xm_t2 k)) A U H ∧
  va_Z "ListenWood" "MAX_OF_PLANK" "[I" (.ref (ro (0, 1))) A U H ∧ va_Z "ListenWood" "KIND_ABOVE" "[I" (.ref (ro (0, 2))) A U H ∧
  va_Z "java/lang/String" "COMPACT_STRINGS" "Z" (.int 1) A U H ∧ va_Z "jdk/internal/util/Preconditions" "SIOOBE_FORMATTER" "Ljava/util/function/BiFunction;" vq A U H ∧
  vk_S 15 xm_len xm_byt (fun i => ro (1, i)) (fun i => ro (2, i)) A U H ∧ (∀ i, i < 15 → vk_R RX1 (xm_sx.getD i 0) (xm_tx.getD i "") (ro (1, i)) U) ∧ (vq = .null ∨ ∃ t, vq = .ref t)
theorem xm_X.kept {A : Nat → Prop} {ro : Nat × Nat → Nat} {vq : Value} {X : Nat × (Nat → Int32)} {U : State} {H H1 : Heap} (h : xm_X A ro vq X U H) (hq : ∀ a : Nat, a < H.size → ¬ A a → H1[a]? = H[a]?) : xm_X A ro vq X U H1 := by
  obtain ⟨h1, h2, h3, h4, h5, h6, h7, h8, h9, h0⟩ := h
  exact ⟨h1.kept hq, h2.kept hq, h3.kept hq, h4.kept hq, h5.kept hq, h6.kept hq, h7.kept hq, h8.kept hq, h9, h0⟩
theorem xm_X.moved {A : Nat → Prop} {ro : Nat × Nat → Nat} {vq : Value} {X : Nat × (Nat → Int32)} {s U : State} {H : Heap} (hW : s.WarmedH U.vm) (h : xm_X A ro vq X s H) : xm_X A ro vq X U H := by
  obtain ⟨h1, h2, h3, h4, h5, h6, h7, h8, h9, h0⟩ := h
  have hv := hW.alike
  exact ⟨h1.moved hv, h2.moved hv, h3.moved hv, h4.moved hv, h5.moved hv, h6.moved hv, h7.moved hv, h8.moved hv, fun i hi => (h9 i hi).warm hW, h0⟩
theorem xm_X.same {A : Nat → Prop} {ro : Nat × Nat → Nat} {vq : Value} {X : Nat × (Nat → Int32)} {s U : State} {H : Heap} (hv : U.vm = s.vm) (h : xm_X A ro vq X s H) : xm_X A ro vq X U H := by
  obtain ⟨h1, h2, h3, h4, h5, h6, h7, h8, h9, h0⟩ := h
  have ha : s.vm.Alike U.vm := by rw [hv]; exact Vm.Alike.refl s.vm
  exact ⟨h1.moved ha, h2.moved ha, h3.moved ha, h4.moved ha, h5.moved ha, h6.moved ha, h7.moved ha, h8.moved ha, fun i hi => (h9 i hi).same hv, h0⟩
/-- the addresses -/
def xm_G (A : Nat → Prop) (ad : Nat × Nat → Nat) : Prop := (∀ q ∈ xm_pl, ∀ q' ∈ xm_pl, ad q = ad q' → q = q') ∧ ∀ q ∈ xm_pl, A (ad q)
def xm_Kx (K : xm_K) (X : Nat × (Nat → Int32)) (q : xm_M) : Prop :=
  (xk_p K).tables.exec = Jvm.exec ∧ (xk_c K).code = q.2.1 ∧ (xk_c K).maxLocals = q.2.2.1 ∧ (xk_s K).vm.findClass q.1.cls = some (xk_m K).cls ∧ (∀ w ∈ lw_tbl, w.before (xk_a K) (xk_s K) = true) ∧
  va_K (xk_D K) xm_cl (xm_tys (xk_cA K)) (xk_s K) ∧ xm_X (xk_A K) (xk_ro K) (xk_vq K) X (xk_s K) (xk_s K).heap ∧ xm_G (xk_A K) (xk_ad K) ∧ (∀ a, (xk_s K).heap.size ≤ a → xk_A K a) ∧
  xm_frl q ≤ (xk_R K).frames ∧ xm_lol q ≤ (xk_R K).locals ∧ xk_n K ≤ (xk_R K).cells ∧ xk_k K ≤ (xk_R K).slots
/-- the machine at a state of the abstract one -/
def xm_Wk (K : xm_K) (pc : Nat) (ls : xm_L) (st : List xm_V) (u : xm_U) : Prop := ∀ (H : Heap) (locs : List Loc) (als : Array Slot), va_P (xk_D K) xm_cl (xm_wl (xk_ad K) (xk_cA K) u) H → xm_lr (xk_cv K) als ls → ls.length = (xk_c K).maxLocals → va_S (xk_A K) (xk_s K).heap H locs →
  W (xk_p K) (xk_l K) (xk_e K) (xk_R K) (xk_s K) (xk_m K) (xk_a K) (xk_b K) (xk_h K) (xk_c K) H locs (xk_n K) (xk_k K) (xk_Q K) (F0 (xk_m K) pc als (st.map (xk_cv K)))
/-- how a method ends -/
def xm_end (cv : xm_V → Value) (bytes : ByteArray) (rt : Option FieldType) (pc : Nat) (st : List xm_V) (rv : Option xm_V) : Prop :=
  (decode bytes pc = .ok (.ireturn, 1) ∧ ∃ v ty, st = [.inl v] ∧ rv = some (.inl v) ∧ rt = some ty ∧ narrow ty (.int v) = .int v) ∨
  (decode bytes pc = .ok (.lreturn, 1) ∧ ∃ v, st = [.inr (.inl v)] ∧ rv = some (.inr (.inl v)) ∧ rt = some .long) ∨
  (decode bytes pc = .ok (.areturn, 1) ∧ ∃ v ty a, st = [v] ∧ rv = some v ∧ rt = some ty ∧ ((∃ n, ty = .object n) ∨ ∃ t, ty = .array t) ∧ cv v = .ref a) ∨
  (decode bytes pc = .ok (.return_, 1) ∧ st = [] ∧ rv = none ∧ rt = none)
def xm_Kr (K : xm_K) (q : xm_M) (r : xm_R) : Prop := ∀ (H : Heap) (locs : List Loc) (als : Array Slot) (pc : Nat) (st : List xm_V), va_P (xk_D K) xm_cl (xm_wl (xk_ad K) (xk_cA K) r.2) H → va_S (xk_A K) (xk_s K).heap H locs → xm_end (xk_cv K) q.2.1 q.2.2.2.1 pc st r.1 →
  W (xk_p K) (xk_l K) (xk_e K) (xk_R K) (xk_s K) (xk_m K) (xk_a K) (xk_b K) (xk_h K) (xk_c K) H locs (xk_n K) (xk_k K) (xk_Q K) (F0 (xk_m K) pc als (st.map (xk_cv K)))
