/-! THE ABSTRACT MACHINE. After the constructors nothing is made any more, and no reference in the cells changes: a place (i, p) is
object i's cell (p = 0) or the array of its field p - 1; the ints are u.1 i p k (fields: p = 0), the one long field is u.2.1, the script u.2.2. -/
/-- values: int, long, place, constant cell -/
abbrev xm_V : Type := Int32 ⊕ Int64 ⊕ (Nat × Nat) ⊕ (Nat × Nat)
abbrev xv_i (x : Int32) : xm_V := .inl x
abbrev xv_l (x : Int64) : xm_V := .inr (.inl x)
abbrev xv_r (i p : Nat) : xm_V := .inr (.inr (.inl (i, p)))
abbrev xv_o (i p : Nat) : xm_V := .inr (.inr (.inr (i, p)))
abbrev xm_U : Type := (Nat → Nat → Nat → Int32) × Int64 × Nat × (Nat → Int32)
abbrev xm_L : Type := List (Option xm_V)
abbrev xm_S : Type := List xm_I × xm_L × List xm_V × xm_U
abbrev xm_R : Type := Option xm_V × xm_U
/-- what an instruction does: it ends the method; goes on; goes on under a condition (else it is stuck); one of two ways; one of many; a call -/
abbrev xm_A : Type := Option (xm_R ⊕ xm_S ⊕ (Prop × (xm_R ⊕ xm_S)) ⊕ (Prop × xm_S × xm_S) ⊕ (Int32 × List (Int32 × xm_S) × xm_S) ⊕ (Option Prop × Nat × List xm_V × Nat × xm_S))
def xm_cod (y : Nat) : List xm_I := match xm_tab[y]? with
  | some q => q.2.2.2.2.1
  | none => []
def xm_rt (y : Nat) : Option FieldType := match xm_tab[y]? with
  | some q => q.2.2.2.1
  | none => none
def xm_mx (y : Nat) : Nat := match xm_tab[y]? with
  | some q => q.2.2.1
  | none => 0
/-- numbers of a method: 0 frames, 1 locals, 2 class of the receiver, 3 arguments, 4 what it gives back -/
def xm_nu (y k : Nat) : Nat := match xm_tab[y]? with
  | some q => q.2.2.2.2.2.1.getD k 0
  | none => 0
/-- the class of an object -/
def xm_cls (i : Nat) : Nat := ([3, 2, 2, 2, 1, 0, 0, 0, 0, 4] : List Nat).getD i 99
/-- fields: 0 an array of the object's own, 1 int, 2 long, 3 boolean, 4 another object -/
def xm_fk (c k : Nat) : Nat := (([[1, 1, 0], [0, 1, 1, 1, 1, 1], [0, 0, 0, 1, 1, 1, 1, 1, 0, 0, 0, 0, 0, 0, 0, 0], [4, 4, 4, 3, 4, 0, 0], [0, 0, 0, 0, 3, 0, 0, 1, 1, 1, 1, 2, 1, 0, 0, 0, 0]] : List (List Nat)).getD c []).getD k 9
/-- the other object that a field of the one object of class 3 holds -/
def xm_ft (k : Nat) : Nat := ([1, 2, 3, 0, 4] : List Nat).getD k 99
/-- lengths of int arrays -/
def xm_ln (c p : Nat) : Option Nat := (([[none, none, none, some 40], [none, some 120], [none, some 6, some 6, some 6, none, none, none, none, none, some 8, some 8, some 8, some 8, some 8, some 8, some 8, some 10], [none, none, none, none, none, none, none, some 7], [none, some 89, some 89, some 89, some 89, none, some 7, none, none, none, none, none, none, none, some 4, some 4, some 160, some 40]] : List (List (Option Nat))).getD c []).getD p none
/-- an index within an int array -/
def xm_in (i p : Nat) (j : Int32) : Prop := ∃ n, xm_ln (xm_cls i) p = some n ∧ vp_in j n
/-- a stretch of an int array -/
def xm_cp (i p : Nat) (j n : Int32) : Prop := ∃ N, xm_ln (xm_cls i) p = some N ∧ ¬ j < 0 ∧ ¬ n < 0 ∧ j.toNatClampNeg + n.toNatClampNeg ≤ N
/-- an array's (or object's) ints become others -/
def xm_ua (u : xm_U) (i p : Nat) (f : Nat → Int32) : xm_U := (fun i' p' => if i' = i ∧ p' = p then f else u.1 i' p', u.2)
def xm_us (u : xm_U) (i p k : Nat) (x : Int32) : xm_U := xm_ua u i p (upd (u.1 i p) k x)
def xm_ul (u : xm_U) (x : Int64) : xm_U := (u.1, x, u.2.2)
/-- the constant arrays, and the texts -/
def xm_t1 (k : Nat) : Int32 := ([6, 5, 999, 99, 9, 9999, 9999] : List Int32).getD k 0
def xm_t2 (k : Nat) : Int32 := ([-1, 0, 0, 2, 3, 0, 1] : List Int32).getD k 0
def xm_byt : List (List Int32) := [[115, 112, 114, 117, 99, 101], [109, 97, 112, 108, 101], [112, 101, 97, 114], [101, 98, 111, 110, 121], [100, 101, 97, 108], [102, 105, 114], [112, 108, 97, 110, 107], [105, 110], [103, 114, 97, 105, 110], [116, 111, 110, 101], [104, 111, 117, 115, 101], [108, 111, 117, 100], [109, 111, 111, 100], [101, 118, 101, 110, 116], [101, 97, 99, 104]]
def xm_len : List Nat := [6, 5, 4, 5, 4, 3, 5, 2, 5, 4, 5, 4, 4, 5, 4]
def xm_slo : List xm_V → xm_L
  | [] => []
  | .inr (.inl x) :: l => some (.inr (.inl x)) :: none :: xm_slo l
  | v :: l => some v :: xm_slo l
def xm_ent (n : Nat) (a : List xm_V) : xm_L := xm_slo a ++ List.replicate (n - (xm_slo a).length) none
def xm_cat : xm_V → Nat
  | .inr (.inl _) => 2
  | _ => 1
def xm_cats : List xm_V → Nat
  | [] => 0
  | v :: l => xm_cat v + xm_cats l
/-- a store into the locals: a long that stood over the place is gone -/
def xm_clob (ls : xm_L) (k : Nat) : xm_L := match k with
  | 0 => ls
  | j + 1 => match ls[j]? with
    | some (some (.inr (.inl _))) => ls.set j none
    | _ => ls
def xm_s1 (ls : xm_L) (k : Nat) (v : xm_V) : xm_L := (xm_clob ls k).set k (some v)
def xm_s2 (ls : xm_L) (k : Nat) (v : xm_V) : xm_L := ((xm_clob ls k).set k (some v)).set (k + 1) none
def xm_go (s : xm_S) : xm_A := some (.inr (.inl s))
def xm_gd (c : Prop) (s : xm_S) : xm_A := some (.inr (.inr (.inl (c, .inr s))))
def xm_br (c : Prop) (s t : xm_S) : xm_A := some (.inr (.inr (.inr (.inl (c, s, t)))))
def xm_re (r : xm_R) : xm_A := some (.inl r)
def xm_lds (ls : xm_L) (k : Nat) (is : List xm_I) (st : List xm_V) (u : xm_U) : xm_A := match ls[k]? with
  | some (some (.inl x)) => xm_go (is, ls, .inl x :: st, u)
  | _ => none
def xm_ldl (ls : xm_L) (k : Nat) (is : List xm_I) (st : List xm_V) (u : xm_U) : xm_A := match ls[k]? with
  | some (some (.inr (.inl x))) => xm_go (is, ls, .inr (.inl x) :: st, u)
  | _ => none
def xm_lda (ls : xm_L) (k : Nat) (is : List xm_I) (st : List xm_V) (u : xm_U) : xm_A := match ls[k]? with
  | some (some (.inr (.inr (.inl q)))) => xm_go (is, ls, .inr (.inr (.inl q)) :: st, u)
  | some (some (.inr (.inr (.inr (0, q))))) => xm_go (is, ls, .inr (.inr (.inr (0, q))) :: st, u)
  | some (some (.inr (.inr (.inr (1, q))))) => xm_go (is, ls, .inr (.inr (.inr (1, q))) :: st, u)
  | some (some (.inr (.inr (.inr (2, q))))) => xm_go (is, ls, .inr (.inr (.inr (2, q))) :: st, u)
  | _ => none
def xm_sti (ls : xm_L) (k : Nat) (is : List xm_I) (st : List xm_V) (u : xm_U) : xm_A := match st with
  | .inl x :: st => bif Nat.blt k ls.length then xm_go (is, xm_s1 ls k (.inl x), st, u) else none
  | _ => none
def xm_sta (ls : xm_L) (k : Nat) (is : List xm_I) (st : List xm_V) (u : xm_U) : xm_A := match st with
  | .inr (.inr (.inl q)) :: st => bif Nat.blt k ls.length then xm_go (is, xm_s1 ls k (.inr (.inr (.inl q))), st, u) else none
  | _ => none
def xm_stl (ls : xm_L) (k : Nat) (is : List xm_I) (st : List xm_V) (u : xm_U) : xm_A := match st with
  | .inr (.inl x) :: st => bif Nat.blt (k + 1) ls.length then xm_go (is, xm_s2 ls k (.inr (.inl x)), st, u) else none
  | _ => none
/-- an int operation -/
def xm_i2 (f : Int32 → Int32 → Int32) (ls : xm_L) (is : List xm_I) (st : List xm_V) (u : xm_U) : xm_A := match st with
  | .inl y :: .inl x :: st => xm_go (is, ls, .inl (f x y) :: st, u)
  | _ => none
def xm_l2 (f : Int64 → Int64 → Int64) (ls : xm_L) (is : List xm_I) (st : List xm_V) (u : xm_U) : xm_A := match st with
  | .inr (.inl y) :: .inr (.inl x) :: st => xm_go (is, ls, .inr (.inl (f x y)) :: st, u)
  | _ => none
def xm_i1 (f : Int32 → Int32) (ls : xm_L) (is : List xm_I) (st : List xm_V) (u : xm_U) : xm_A := match st with
  | .inl x :: st => xm_go (is, ls, .inl (f x) :: st, u)
  | _ => none
def xm_if1 (f : Int32 → Prop) (cd : List xm_I) (o : List Nat) (ls : xm_L) (is : List xm_I) (st : List xm_V) (u : xm_U) : xm_A := match st, o with
  | .inl x :: st, [t] => xm_br (f x) (cd.drop t, ls, st, u) (is, ls, st, u)
  | _, _ => none
def xm_if2 (f : Int32 → Int32 → Prop) (cd : List xm_I) (o : List Nat) (ls : xm_L) (is : List xm_I) (st : List xm_V) (u : xm_U) : xm_A := match st, o with
  | .inl y :: .inl x :: st, [t] => xm_br (f x y) (cd.drop t, ls, st, u) (is, ls, st, u)
  | _, _ => none
def xm_getf (o : List Nat) (ls : xm_L) (is : List xm_I) (st : List xm_V) (u : xm_U) : xm_A := match st, o with
  | .inr (.inr (.inl (i, 0))) :: st, [c, k, _] => match xm_fk c k with
    | 0 => xm_gd (xm_cls i = c) (is, ls, xv_r i (k + 1) :: st, u)
    | 1 => xm_gd (xm_cls i = c) (is, ls, xv_i (u.1 i 0 k) :: st, u)
    | 2 => xm_gd (xm_cls i = c) (is, ls, xv_l u.2.1 :: st, u)
    | 3 => xm_gd (xm_cls i = c) (is, ls, xv_i (u.1 i 0 k) :: st, u)
    | 4 => xm_gd (xm_cls i = c) (is, ls, xv_r (xm_ft k) 0 :: st, u)
    | _ => none
  | .inr (.inr (.inr (1, q))) :: st, [10, 0, _] => xm_gd (q < 15) (is, ls, xv_o 2 q :: st, u)
  | .inr (.inr (.inr (1, q))) :: st, [10, 1, _] => xm_gd (q < 15) (is, ls, xv_i 0 :: st, u)
  | _, _ => none
def xm_putf (o : List Nat) (ls : xm_L) (is : List xm_I) (st : List xm_V) (u : xm_U) : xm_A := match st, o with
  | .inl v :: .inr (.inr (.inl (i, 0))) :: st, [c, k, _] => match xm_fk c k with
    | 1 => xm_gd (xm_cls i = c) (is, ls, st, xm_us u i 0 k v)
    | 3 => xm_gd (xm_cls i = c ∧ (v = 0 ∨ v = 1)) (is, ls, st, xm_us u i 0 k v)
    | _ => none
  | .inr (.inl v) :: .inr (.inr (.inl (i, 0))) :: st, [c, k, _] => match xm_fk c k with
    | 2 => xm_gd (xm_cls i = c) (is, ls, st, xm_ul u v)
    | _ => none
  | _, _ => none
def xm_gets (o : List Nat) (ls : xm_L) (is : List xm_I) (st : List xm_V) (u : xm_U) : xm_A := match o with
  | [0, _] => xm_go (is, ls, xv_o 0 1 :: st, u)
  | [1, _] => xm_go (is, ls, xv_o 0 2 :: st, u)
  | [2, _] => xm_go (is, ls, xv_i 1 :: st, u)
  | [3, _] => xm_go (is, ls, xv_o 3 0 :: st, u)
  | _ => none
def xm_iald (ls : xm_L) (is : List xm_I) (st : List xm_V) (u : xm_U) : xm_A := match st with
  | .inl j :: .inr (.inr (.inl (i, p))) :: st => xm_gd (xm_in i p j) (is, ls, xv_i (u.1 i p j.toNatClampNeg) :: st, u)
  | .inl j :: .inr (.inr (.inr (0, 0))) :: st => xm_gd (vp_in j u.2.2.1) (is, ls, xv_i (u.2.2.2 j.toNatClampNeg) :: st, u)
  | .inl j :: .inr (.inr (.inr (0, 1))) :: st => xm_gd (vp_in j 7) (is, ls, xv_i (xm_t1 j.toNatClampNeg) :: st, u)
  | .inl j :: .inr (.inr (.inr (0, 2))) :: st => xm_gd (vp_in j 7) (is, ls, xv_i (xm_t2 j.toNatClampNeg) :: st, u)
  | _ => none
def xm_bald (ls : xm_L) (is : List xm_I) (st : List xm_V) (u : xm_U) : xm_A := match st with
  | .inl j :: .inr (.inr (.inl (9, 7))) :: st => xm_gd (vp_in j 120) (is, ls, xv_i (u.1 9 7 j.toNatClampNeg) :: st, u)
  | .inl j :: .inr (.inr (.inr (2, q))) :: st => xm_gd (q < 15 ∧ vp_in j (xm_len.getD q 0)) (is, ls, xv_i ((xm_byt.getD q []).getD j.toNatClampNeg 0) :: st, u)
  | _ => none
def xm_iast (ls : xm_L) (is : List xm_I) (st : List xm_V) (u : xm_U) : xm_A := match st with
  | .inl v :: .inl j :: .inr (.inr (.inl (i, p))) :: st => xm_gd (xm_in i p j) (is, ls, st, xm_us u i p j.toNatClampNeg v)
  | _ => none
def xm_bast (ls : xm_L) (is : List xm_I) (st : List xm_V) (u : xm_U) : xm_A := match st with
  | .inl v :: .inl j :: .inr (.inr (.inl (9, 7))) :: st => xm_gd (vp_in j 120) (is, ls, st, xm_us u 9 7 j.toNatClampNeg v.toInt8.toInt32)
  | _ => none
def xm_aald (ls : xm_L) (is : List xm_I) (st : List xm_V) (u : xm_U) : xm_A := match st with
  | .inl j :: .inr (.inr (.inl (0, 6))) :: st => xm_gd (vp_in j 4) (is, ls, xv_r (5 + j.toNatClampNeg) 0 :: st, u)
  | _ => none
def xm_alen (ls : xm_L) (is : List xm_I) (st : List xm_V) (u : xm_U) : xm_A := match st with
  | .inr (.inr (.inr (0, 0))) :: st => xm_go (is, ls, xv_i (Int32.ofNat u.2.2.1) :: st, u)
  | .inr (.inr (.inr (0, 1))) :: st => xm_go (is, ls, xv_i 7 :: st, u)
  | .inr (.inr (.inr (2, q))) :: st => xm_gd (q < 15) (is, ls, xv_i (Int32.ofNat (xm_len.getD q 0)) :: st, u)
  | _ => none
def xm_cal (c : Option Prop) (z : Nat) (n : Nat) (ls : xm_L) (is : List xm_I) (st : List xm_V) (u : xm_U) : xm_A :=
  bif Nat.ble (xm_cats (st.drop n)) 8 && (Nat.beq (st.take n).length n && Nat.ble (xm_slo (st.take n).reverse).length (xm_mx z)) then some (.inr (.inr (.inr (.inr (.inr (c, z, (st.take n).reverse, xm_nu z 4, is, ls, st.drop n, u)))))) else none
def xm_invs (o : List Nat) (ls : xm_L) (is : List xm_I) (st : List xm_V) (u : xm_U) : xm_A := match o with
  | [900, _] => (match st with
    | .inl y :: .inl x :: st => bif Nat.ble (xm_cats st) 8 then xm_go (is, ls, xv_i (if x < y then y else x) :: st, u) else none
    | _ => none)
  | [901, _] => (match st with
    | .inl y :: .inl x :: st => bif Nat.ble (xm_cats st) 8 then xm_go (is, ls, xv_i (if y < x then y else x) :: st, u) else none
    | _ => none)
  | [902, _] => (match st with
    | .inl n :: .inl dp :: .inr (.inr (.inl (i, p))) :: .inl sp :: .inr (.inr (.inl (a, b))) :: st => bif Nat.ble (xm_cats st) 8 then xm_gd (xm_cp a b sp n ∧ xm_cp i p dp n) (is, ls, st, xm_ua u i p (va_cpy (u.1 a b) (u.1 i p) sp.toNatClampNeg dp.toNatClampNeg n.toNatClampNeg)) else none
    | _ => none)
  | [z, _] => bif Nat.beq (xm_nu z 2) 50 then xm_cal none z (xm_nu z 3) ls is st u else none
  | _ => none
def xm_invv (o : List Nat) (ls : xm_L) (is : List xm_I) (st : List xm_V) (u : xm_U) : xm_A := match o with
  | [z, _] => (match (st.drop (xm_nu z 3 - 1)).head? with
    | some (.inr (.inr (.inl (i, 0)))) => bif Nat.blt (xm_nu z 2) 5 then xm_cal (some (xm_cls i = xm_nu z 2)) z (xm_nu z 3) ls is st u else none
    | some (.inr (.inr (.inr (1, q)))) => bif Nat.beq (xm_nu z 2) 10 then xm_cal (some (q < 15)) z (xm_nu z 3) ls is st u else none
    | _ => none)
  | _ => none
def xm_rei (rt : Option FieldType) (st : List xm_V) (u : xm_U) : xm_A := match st with
  | [.inl v] => (match rt with
    | some .int => xm_re (some (.inl v), u)
    | some .boolean => some (.inr (.inr (.inl (narrow .boolean (.int v) = .int v, .inl (some (.inl v), u)))))
    | some .char => some (.inr (.inr (.inl (narrow .char (.int v) = .int v, .inl (some (.inl v), u)))))
    | some .byte => some (.inr (.inr (.inl (narrow .byte (.int v) = .int v, .inl (some (.inl v), u)))))
    | _ => none)
  | _ => none
def xm_swt (cd : List xm_I) (o : List Nat) (ks : List Int32) (ls : xm_L) (st : List xm_V) (u : xm_U) : xm_A := match st, o with
  | .inl x :: st, d :: ts => some (.inr (.inr (.inr (.inr (.inl (x, (ks.zip ts).map (fun q => (q.1, (cd.drop q.2, ls, st, u))), (cd.drop d, ls, st, u)))))))
  | _, _ => none
/-- ONE INSTRUCTION -/
def xm_step (cd : List xm_I) (rt : Option FieldType) (x : xm_I) (is : List xm_I) (ls : xm_L) (st : List xm_V) (u : xm_U) : xm_A := match x.2.1 with
  | .iload_n k => xm_lds ls k.val is st u
  | .iload k => xm_lds ls k is st u
  | .lload_n k => xm_ldl ls k.val is st u
  | .lload k => xm_ldl ls k is st u
  | .aload_n k => xm_lda ls k.val is st u
  | .aload k => xm_lda ls k is st u
  | .istore_n k => xm_sti ls k.val is st u
  | .istore k => xm_sti ls k is st u
  | .lstore_n k => xm_stl ls k.val is st u
  | .lstore k => xm_stl ls k is st u
  | .astore_n k => xm_sta ls k.val is st u
  | .astore k => xm_sta ls k is st u
  | .iconst _ => (match x.2.2.2.1 with
    | [v] => xm_go (is, ls, .inl v :: st, u)
    | _ => none)
  | .bipush _ => (match x.2.2.2.1 with
    | [v] => xm_go (is, ls, .inl v :: st, u)
    | _ => none)
  | .sipush _ => (match x.2.2.2.1 with
    | [v] => xm_go (is, ls, .inl v :: st, u)
    | _ => none)
  | .ldc _ => (match x.2.2.1, x.2.2.2.1 with
    | [0, _], [v] => xm_go (is, ls, .inl v :: st, u)
    | [1, _, q], [] => xm_go (is, ls, xv_o 1 q :: st, u)
    | _, _ => none)
  | .ldc_w _ => (match x.2.2.2.1 with
    | [v] => xm_go (is, ls, .inl v :: st, u)
    | _ => none)
  | .ldc2_w _ => xm_go (is, ls, .inr (.inl x.2.2.2.2.1) :: st, u)
  | .lconst _ => xm_go (is, ls, .inr (.inl x.2.2.2.2.1) :: st, u)
  | .iinc k _ => (match ls[k]?, x.2.2.2.1 with
    | some (some (.inl y)), [v] => xm_go (is, xm_s1 ls k (.inl (y + v)), st, u)
    | _, _ => none)
  | .iadd => xm_i2 (fun x y => x + y) ls is st u
  | .isub => xm_i2 (fun x y => x - y) ls is st u
  | .imul => xm_i2 (fun x y => x * y) ls is st u
  | .iand => xm_i2 (fun x y => x &&& y) ls is st u
  | .ior => xm_i2 (fun x y => x ||| y) ls is st u
  | .ixor => xm_i2 (fun x y => x ^^^ y) ls is st u
  | .ishl => xm_i2 (fun x y => x <<< (y &&& 31)) ls is st u
  | .ishr => xm_i2 (fun x y => x >>> (y &&& 31)) ls is st u
  | .iushr => xm_i2 (fun x y => (x.toUInt32 >>> (y.toUInt32 &&& Int32.toUInt32 31)).toInt32) ls is st u
  | .idiv => (match st with
    | .inl y :: .inl x :: st => xm_gd (¬ y = 0) (is, ls, .inl (x / y) :: st, u)
    | _ => none)
  | .irem => (match st with
    | .inl y :: .inl x :: st => xm_gd (¬ y = 0) (is, ls, .inl (x - x / y * y) :: st, u)
    | _ => none)
  | .ladd => xm_l2 (fun x y => x + y) ls is st u
  | .lsub => xm_l2 (fun x y => x - y) ls is st u
  | .lmul => xm_l2 (fun x y => x * y) ls is st u
  | .i2b => xm_i1 (fun x => x.toInt8.toInt32) ls is st u
  | .i2s => xm_i1 (fun x => x.toInt16.toInt32) ls is st u
  | .i2c => xm_i1 (fun x => (x.toUInt32 % 65536).toInt32) ls is st u
  | .i2l => (match st with
    | .inl x :: st => xm_go (is, ls, .inr (.inl x.toInt64) :: st, u)
    | _ => none)
  | .l2i => (match st with
    | .inr (.inl x) :: st => xm_go (is, ls, .inl x.toInt32 :: st, u)
    | _ => none)
  | .lcmp => (match st with
    | .inr (.inl y) :: .inr (.inl x) :: st => xm_go (is, ls, .inl (lg_cmp x y) :: st, u)
    | _ => none)
  | .dup => (match st with
    | .inl x :: st => xm_go (is, ls, .inl x :: .inl x :: st, u)
    | .inr (.inr (.inl q)) :: st => xm_go (is, ls, .inr (.inr (.inl q)) :: .inr (.inr (.inl q)) :: st, u)
    | _ => none)
  | .dup2 => (match st with
    | .inl x :: .inr (.inr (.inl q)) :: st => xm_go (is, ls, .inl x :: .inr (.inr (.inl q)) :: .inl x :: .inr (.inr (.inl q)) :: st, u)
    | _ => none)
  | .pop => (match st with
    | .inl _ :: st => xm_go (is, ls, st, u)
    | _ => none)
  | .goto _ => (match x.2.2.1 with
    | [t] => xm_go (cd.drop t, ls, st, u)
    | _ => none)
  | .ifCond .eq _ => xm_if1 (fun x => x = 0) cd x.2.2.1 ls is st u
  | .ifCond .ne _ => xm_if1 (fun x => ¬ x = 0) cd x.2.2.1 ls is st u
  | .ifCond .lt _ => xm_if1 (fun x => x < 0) cd x.2.2.1 ls is st u
  | .ifCond .ge _ => xm_if1 (fun x => 0 ≤ x) cd x.2.2.1 ls is st u
  | .ifCond .gt _ => xm_if1 (fun x => 0 < x) cd x.2.2.1 ls is st u
  | .ifCond .le _ => xm_if1 (fun x => x ≤ 0) cd x.2.2.1 ls is st u
  | .if_icmp .eq _ => xm_if2 (fun x y => x = y) cd x.2.2.1 ls is st u
  | .if_icmp .ne _ => xm_if2 (fun x y => ¬ x = y) cd x.2.2.1 ls is st u
  | .if_icmp .lt _ => xm_if2 (fun x y => x < y) cd x.2.2.1 ls is st u
  | .if_icmp .ge _ => xm_if2 (fun x y => y ≤ x) cd x.2.2.1 ls is st u
  | .if_icmp .gt _ => xm_if2 (fun x y => y < x) cd x.2.2.1 ls is st u
  | .if_icmp .le _ => xm_if2 (fun x y => x ≤ y) cd x.2.2.1 ls is st u
  | .tableswitch _ _ _ _ => xm_swt cd x.2.2.1 x.2.2.2.1 ls st u
  | .getfield _ => xm_getf x.2.2.1 ls is st u
  | .putfield _ => xm_putf x.2.2.1 ls is st u
  | .getstatic _ => xm_gets x.2.2.1 ls is st u
  | .iaload => xm_iald ls is st u
  | .baload => xm_bald ls is st u
  | .aaload => xm_aald ls is st u
  | .iastore => xm_iast ls is st u
  | .bastore => xm_bast ls is st u
  | .arraylength => xm_alen ls is st u
  | .invokestatic _ => xm_invs x.2.2.1 ls is st u
  | .invokevirtual _ => xm_invv x.2.2.1 ls is st u
  | .ireturn => xm_rei rt st u
  | .lreturn => (match st with
    | [.inr (.inl v)] => xm_re (some (.inr (.inl v)), u)
    | _ => none)
  | .areturn => (match st with
    | [.inr (.inr (.inl q))] => xm_re (some (.inr (.inr (.inl q))), u)
    | [.inr (.inr (.inr (1, q)))] => xm_re (some (.inr (.inr (.inr (1, q)))), u)
    | _ => none)
  | .return_ => (match st with
    | [] => xm_re (none, u)
    | _ => none)
  | _ => none
/-! the runs -/
noncomputable def xm_if {α : Type} (c : Prop) (a b : α) : α := @ite α c (Classical.propDecidable c) a b
theorem xm_if_t {α : Type} {c : Prop} (h : c) (a b : α) : xm_if c a b = a := if_pos h
theorem xm_if_f {α : Type} {c : Prop} (h : ¬ c) (a b : α) : xm_if c a b = b := if_neg h
noncomputable def xm_sw {α : Type} (v : Int32) : List (Int32 × α) → α → α
  | [], d => d
  | (k, a) :: l, d => xm_if (v = k) a (xm_sw v l d)
def xm_bv (r : Option xm_R) (k : xm_U → Option xm_R) : Option xm_R := match r with
  | some (none, u) => k u
  | _ => none
def xm_bi (r : Option xm_R) (k : Int32 → xm_U → Option xm_R) : Option xm_R := match r with
  | some (some (.inl x), u) => k x u
  | _ => none
def xm_bl (r : Option xm_R) (k : Int64 → xm_U → Option xm_R) : Option xm_R := match r with
  | some (some (.inr (.inl x)), u) => k x u
  | _ => none
def xm_bc (r : Option xm_R) (k : Nat × Nat → xm_U → Option xm_R) : Option xm_R := match r with
  | some (some (.inr (.inr (.inl x))), u) => k x u
  | _ => none
def xm_bo (r : Option xm_R) (k : Nat × Nat → xm_U → Option xm_R) : Option xm_R := match r with
  | some (some (.inr (.inr (.inr x))), u) => k x u
  | _ => none
/-- what a call gives back is pushed -/
def xm_bk (kd : Nat) (r : Option xm_R) (rec : xm_S → Option xm_R) (s : xm_S) : Option xm_R := match kd with
  | 0 => xm_bv r (fun u => rec (s.1, s.2.1, s.2.2.1, u))
  | 1 => xm_bi r (fun x u => rec (s.1, s.2.1, xv_i x :: s.2.2.1, u))
  | 2 => xm_bl r (fun x u => rec (s.1, s.2.1, xv_l x :: s.2.2.1, u))
  | 3 => xm_bc r (fun x u => rec (s.1, s.2.1, .inr (.inr (.inl x)) :: s.2.2.1, u))
  | _ => xm_bo r (fun x u => rec (s.1, s.2.1, .inr (.inr (.inr x)) :: s.2.2.1, u))
def xm_tt (rec : xm_S → Option xm_R) (t : xm_R ⊕ xm_S) : Option xm_R := match t with
  | .inl r => some r
  | .inr s => rec s
noncomputable def xm_run (rec : xm_S → Option xm_R) (call : Nat → List xm_V → xm_U → Option xm_R) (a : xm_A) : Option xm_R := match a with
  | none => none
  | some (.inl r) => some r
  | some (.inr (.inl s)) => rec s
  | some (.inr (.inr (.inl (c, t)))) => xm_if c (xm_tt rec t) none
  | some (.inr (.inr (.inr (.inl (c, s, t))))) => xm_if c (rec s) (rec t)
  | some (.inr (.inr (.inr (.inr (.inl (v, l, d)))))) => xm_sw v (l.map (fun q => (q.1, rec q.2))) (rec d)
  | some (.inr (.inr (.inr (.inr (.inr (none, z, a, kd, s)))))) => xm_bk kd (call z a s.2.2.2) rec s
  | some (.inr (.inr (.inr (.inr (.inr (some c, z, a, kd, s)))))) => xm_if c (xm_bk kd (call z a s.2.2.2) rec s) none
noncomputable def xm_ev : Nat → Nat → xm_S → Option xm_R
  | 0, _, _ => none
  | n + 1, y, s => match s.1 with
    | [] => none
    | x :: is => xm_run (xm_ev n y) (fun z a u => xm_ev n z (xm_cod z, xm_ent (xm_mx z) a, [], u)) (xm_step (xm_cod y) (xm_rt y) x is s.2.1 s.2.2.1 s.2.2.2)
