/-! WHAT IS CHECKED of a method's table, and what holds around a method's run -/
def xm_cn (c : Nat) : String := match c with
  | 0 => RX0
  | 1 => RX1
  | 2 => RX2
  | 3 => RX3
  | _ => RX4
def xm_fT (c : Nat) : u_T := match c with
  | 0 => TX0
  | 1 => TX1
  | 2 => TX2
  | 3 => TX3
  | _ => TX4
def xm_fy (c : Nat) : Nat → FieldType := match c with
  | 0 => tyX0
  | 1 => tyX1
  | 2 => tyX2
  | 3 => tyX3
  | _ => tyX4
def xm_nf (c : Nat) : Nat := ([3, 6, 16, 7, 17] : List Nat).getD c 0
abbrev xm_cl : List vw_C := [(RX0, TX0, 3), (RX1, TX1, 6), (RX2, TX2, 16), (RX3, TX3, 7), (RX4, TX4, 17)]
theorem xm_cl_at : ∀ c, c < 5 → xm_cl[c]? = some (xm_cn c, xm_fT c, xm_nf c)
  | 0, _ => rfl
  | 1, _ => rfl
  | 2, _ => rfl
  | 3, _ => rfl
  | 4, _ => rfl
  | c + 5, h => absurd h (by omega)
theorem xm_fy_ok : ∀ c, c < 5 → ∀ k, k < xm_nf c → parseFieldDescriptor (xm_fT c k).2.2.1 = some (xm_fy c k)
  | 0, _ => tyX0_ok
  | 1, _ => tyX1_ok
  | 2, _ => tyX2_ok
  | 3, _ => tyX3_ok
  | 4, _ => tyX4_ok
  | c + 5, h => absurd h (by omega)
theorem xm_nm_ok : ∀ c, c < 5 → ∀ a, a < xm_nf c → ∀ b, b < xm_nf c → a ≠ b → (xm_fT c a).2.1 ≠ (xm_fT c b).2.1
  | 0, _ => nmX0
  | 1, _ => nmX1
  | 2, _ => nmX2
  | 3, _ => nmX3
  | 4, _ => nmX4
  | c + 5, h => absurd h (by omega)
/-- the words that a call may hand on -/
def xm_tb : List Cond := lw_tbl.filter goodWord
theorem xm_tb_in {w : Cond} (h : w ∈ xm_tb) : w ∈ lw_tbl := (List.mem_filter.mp h).1
/-- the fields' words stand in the table -/
def xm_lays (ps : List Nat) (C : String) (T : u_T) (N : Nat) : Bool := decide ((List.range N).map (fun k => some (u_lay C T k)) = ps.map (fun i => lw_tbl[i]?)) && (u_ws C T N).all goodWord
theorem xm_lays_in {ps : List Nat} {C : String} {T : u_T} {N : Nat} (h : xm_lays ps C T N = true) : ∀ w ∈ u_ws C T N, w ∈ xm_tb := by
  intro w hw
  obtain ⟨h0, hg⟩ := Bool.and_eq_true_iff.mp h
  have h1 := of_decide_eq_true h0
  have hgw := List.all_eq_true.mp hg w hw
  obtain ⟨k, hk, rfl⟩ := List.mem_map.mp hw
  have h2 : some (u_lay C T k) ∈ (List.range N).map (fun k => some (u_lay C T k)) := List.mem_map.mpr ⟨k, hk, rfl⟩
  rw [h1] at h2
  obtain ⟨i, -, hi⟩ := List.mem_map.mp h2
  exact List.mem_filter.mpr ⟨List.mem_of_getElem? hi, hgw⟩
/-- the static fields: 0, 1 tables, 2 COMPACT_STRINGS, 3 a reference that is only carried -/
def xm_sn (k : Nat) : String × String × String := match k with
  | 0 => ("ListenWood", "MAX_OF_PLANK", "[I")
  | 1 => ("ListenWood", "KIND_ABOVE", "[I")
  | 2 => ("java/lang/String", "COMPACT_STRINGS", "Z")
  | _ => ("jdk/internal/util/Preconditions", "SIOOBE_FORMATTER", "Ljava/util/function/BiFunction;")
def xm_sx : List Nat := [65, 67, 69, 71, 73, 75, 77, 84, 90, 92, 50, 102, 106, 55, 60]
def xm_tx : List String := ["spruce", "maple", "pear", "ebony", "deal", "fir", "plank", "in", "grain", "tone", "house", "loud", "mood", "event", "each"]
def xm_wd (pl : Nat) (w : Cond) : Bool := goodWord w && decide (lw_tbl[pl]? = some w)
theorem xm_wd_in {pl : Nat} {w : Cond} (h : xm_wd pl w = true) : w ∈ xm_tb := by
  obtain ⟨h1, h2⟩ := Bool.and_eq_true_iff.mp h
  exact List.mem_filter.mpr ⟨List.mem_of_getElem? (of_decide_eq_true h2), h1⟩
/-- a jump's target -/
def xm_tg (cd : List xm_I) (pc : Nat) (off : Int) (t : Nat) : Bool := match cd[t]? with
  | some x => decide ((pc : Int) + off = (x.1 : Int))
  | none => false
def xm_il (i : Instr) : Nat := match i with
  | .iload _ => 2
  | .istore _ => 2
  | .aload _ => 2
  | .astore _ => 2
  | .lload _ => 2
  | .lstore _ => 2
  | .bipush _ => 2
  | .ldc _ => 2
  | .newarray _ => 2
  | .sipush _ => 3
  | .ldc_w _ => 3
  | .ldc2_w _ => 3
  | .iinc _ _ => 3
  | .goto _ => 3
  | .ifCond _ _ => 3
  | .if_icmp _ _ => 3
  | .getfield _ => 3
  | .putfield _ => 3
  | .getstatic _ => 3
  | .invokevirtual _ => 3
  | .invokestatic _ => 3
  | .invokespecial _ => 3
  | .new _ => 3
  | .anewarray _ => 3
  | _ => 1
def xm_isw (i : Instr) : Bool := match i with
  | .tableswitch _ _ _ _ => true
  | _ => false
def xm_frl (q : xm_M) : Nat := q.2.2.2.2.2.1.getD 0 0
def xm_lol (q : xm_M) : Nat := q.2.2.2.2.2.1.getD 1 0
def xm_ckc (own : String) (i : Nat) (fr lo : Nat) (o : List Nat) : Bool := match o with
  | [z, pl] => match xm_tab[z]? with
    | some q => Nat.blt z 201 && (xm_wd pl (.methodLink own i q.1) && (Nat.ble (xm_frl q + 1) fr && Nat.ble (8 + (q.2.2.1 + 11) + xm_lol q) lo))
    | none => true
  | _ => true
def xm_ckI (own : String) (rt : Option FieldType) (fr lo : Nat) (cd : List xm_I) (x : xm_I) : Bool := match x.2.1 with
  | .iconst n => (match x.2.2.2.1 with
    | [v] => decide (Int32.ofInt n = v)
    | _ => true)
  | .bipush n => (match x.2.2.2.1 with
    | [v] => decide ((Int8.ofInt n).toInt32 = v)
    | _ => true)
  | .sipush n => (match x.2.2.2.1 with
    | [v] => decide ((Int16.ofInt n).toInt32 = v)
    | _ => true)
  | .lconst n => decide (Int64.ofNat (n : Nat) = x.2.2.2.2.1)
  | .ldc i => (match x.2.2.1, x.2.2.2.1 with
    | [0, pl], [v] => xm_wd pl (.constant own i v)
    | [1, _, q], [] => decide (own = RX1) && (Nat.blt q 15 && Nat.beq (xm_sx.getD q 0) i)
    | _, _ => true)
  | .ldc_w i => (match x.2.2.1, x.2.2.2.1 with
    | [pl], [v] => xm_wd pl (.constant own i v)
    | _, _ => false)
  | .ldc2_w i => (match x.2.2.1 with
    | [pl] => xm_wd pl (.constantLong own i x.2.2.2.2.1)
    | _ => false)
  | .iinc _ n => (match x.2.2.2.1 with
    | [v] => decide (Int32.ofInt n = v)
    | _ => true)
  | .goto off => (match x.2.2.1 with
    | [t] => xm_tg cd x.1 off t
    | _ => true)
  | .ifCond _ off => (match x.2.2.1 with
    | [t] => xm_tg cd x.1 off t
    | _ => true)
  | .if_icmp _ off => (match x.2.2.1 with
    | [t] => xm_tg cd x.1 off t
    | _ => true)
  | .tableswitch d lo hi offs => (match x.2.2.1 with
    | t :: ts => xm_tg cd x.1 d t && (Nat.beq ts.length offs.size && (Nat.beq x.2.2.2.1.length offs.size && (decide (hi = lo + (offs.size : Int) - 1) && (decide (-2147483648 ≤ lo ∧ hi ≤ 2147483647) && (List.range offs.size).all (fun i => (match offs[i]?, ts[i]?, x.2.2.2.1[i]? with
      | some f, some t, some k => xm_tg cd x.1 f t && decide (k.toInt = lo + (i : Int))
      | _, _, _ => false))))))
    | _ => true)
  | .getfield i => (match x.2.2.1 with
    | [c, k, pl] => (bif Nat.blt c 5 then Nat.blt k (xm_nf c) && xm_wd pl (.fieldLink own i (xm_fT c k).1 (xm_fT c k).2.1 (xm_fT c k).2.2.1)
      else (match c, k with
        | 10, 0 => xm_wd pl (.fieldLink own i "java/lang/String" "value" "[B")
        | 10, 1 => xm_wd pl (.fieldLink own i "java/lang/String" "coder" "B")
        | _, _ => false))
    | _ => true)
  | .putfield i => (match x.2.2.1 with
    | [c, k, pl] => Nat.blt c 5 && (Nat.blt k (xm_nf c) && (xm_wd pl (.fieldLink own i (xm_fT c k).1 (xm_fT c k).2.1 (xm_fT c k).2.2.1) && !(xm_fT c k).2.2.2))
    | _ => true)
  | .getstatic i => (match x.2.2.1 with
    | [k, pl] => bif Nat.blt k 4 then xm_wd pl (.fieldLink own i (xm_sn k).1 (xm_sn k).2.1 (xm_sn k).2.2) else true
    | _ => true)
  | .invokestatic i => (match x.2.2.1 with
    | [900, pl] => xm_wd pl (.methodLink own i Lib.Math.max.name) && (Nat.ble 1 fr && Nat.ble 21 lo)
    | [901, pl] => xm_wd pl (.methodLink own i Lib.Math.min.name) && (Nat.ble 1 fr && Nat.ble 21 lo)
    | [902, pl] => xm_wd pl (.methodLink own i arraycopyName) && (Nat.ble 1 fr && Nat.ble (8 + (nativeFrameWords "java/lang/System" "arraycopy" 5 + 11)) lo)
    | o => xm_ckc own i fr lo o)
  | .invokevirtual i => xm_ckc own i fr lo x.2.2.1
  | .areturn => (match rt with
    | some (.object _) => true
    | some (.array _) => true
    | _ => false)
  | .lreturn => decide (rt = some .long)
  | .return_ => decide (rt = none)
  | _ => true
def xm_ck1 (own : String) (bytes : ByteArray) (rt : Option FieldType) (fr lo : Nat) (cd : List xm_I) (j : Nat) (x : xm_I) : Bool := match decode bytes x.1 with
  | .ok (i, len) => decide (i = x.2.1) && ((xm_isw x.2.1 || Nat.beq len (xm_il x.2.1)) && ((match cd[j + 1]? with
    | some x2 => Nat.beq x2.1 (x.1 + len)
    | none => true) && xm_ckI own rt fr lo cd x))
  | .error _ => false
def xm_chj (q : xm_M) (j : Nat) : Bool := match q.2.2.2.2.1[j]? with
  | some x => xm_ck1 q.1.cls q.2.1 q.2.2.2.1 (xm_frl q) (xm_lol q) q.2.2.2.2.1 j x
  | none => true
def xm_chk (q : xm_M) : Bool := decide (q.2.2.2.2.1.head?.map (fun x => x.1) = some 0) && (List.range q.2.2.2.2.1.length).all (xm_chj q)
theorem xm_chk_app {P : Nat → Bool} {a n : Nat} (h : (List.range a).all P = true) (h2 : (List.range' a n).all P = true) : (List.range (a + n)).all P = true := by
  rw [List.all_eq_true] at *
  intro j hj
  have hj := List.mem_range.mp hj
  by_cases e : j < a
  · exact h j (List.mem_range.mpr e)
  · exact h2 j (by rw [List.mem_range'_1]; omega)
/-- of a method that is called -/
def xm_chm (q : xm_M) : Bool := match q.2.2.2.2.2.1, q.2.2.2.2.2.2 with
  | [_, _, st, n, _], [p0, p1, p2, p3] => plainName q.1.cls && (decide (q.1.cls ≠ "java/lang/invoke/MethodHandle" ∧ q.1.cls ≠ "java/lang/invoke/VarHandle") && (xm_wd p2 (.initialized q.1.cls) && (xm_wd p3 (.code q.1 q.2.1 q.2.2.1 q.2.2.2.1) && (bif Nat.beq st 50 then xm_wd p0 (.static q.1) && decide ((parseMethodDescriptor q.1.desc).map (fun d => d.parameters.length) = some n) else xm_wd p0 (.instanceMethod q.1) && (xm_wd p1 (.selects q.1.cls q.1 q.1) && (decide ((parseMethodDescriptor q.1.desc).map (fun d => d.parameters.length + 1) = some n) && (bif Nat.blt st 5 then decide (xm_cn st = q.1.cls) else decide (q.1.cls = "java/lang/String"))))))))
  | _, _ => false
