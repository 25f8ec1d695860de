/-! what holds around a run -/
/-! around a run -/
abbrev xm_K : Type := Program × Launch × Env × Room × State × MethodId × Array Value × List Frame × Method × Code × Nat × Nat × (State → Prop) × va_G × (Nat → Prop) × (Nat × Nat → Nat) × (Nat × Nat → Nat) × Value × (Nat → ClassId)
abbrev xk_p (K : xm_K) : Program := K.1
abbrev xk_l (K : xm_K) : Launch := K.2.1
abbrev xk_e (K : xm_K) : Env := K.2.2.1
abbrev xk_R (K : xm_K) : Room := K.2.2.2.1
abbrev xk_s (K : xm_K) : State := K.2.2.2.2.1
abbrev xk_m (K : xm_K) : MethodId := K.2.2.2.2.2.1
abbrev xk_a (K : xm_K) : Array Value := K.2.2.2.2.2.2.1
abbrev xk_b (K : xm_K) : List Frame := K.2.2.2.2.2.2.2.1
abbrev xk_h (K : xm_K) : Method := K.2.2.2.2.2.2.2.2.1
abbrev xk_c (K : xm_K) : Code := K.2.2.2.2.2.2.2.2.2.1
abbrev xk_n (K : xm_K) : Nat := K.2.2.2.2.2.2.2.2.2.2.1
abbrev xk_k (K : xm_K) : Nat := K.2.2.2.2.2.2.2.2.2.2.2.1
abbrev xk_Q (K : xm_K) : State → Prop := K.2.2.2.2.2.2.2.2.2.2.2.2.1
abbrev xk_D (K : xm_K) : va_G := K.2.2.2.2.2.2.2.2.2.2.2.2.2.1
abbrev xk_A (K : xm_K) : Nat → Prop := K.2.2.2.2.2.2.2.2.2.2.2.2.2.2.1
abbrev xk_ad (K : xm_K) : Nat × Nat → Nat := K.2.2.2.2.2.2.2.2.2.2.2.2.2.2.2.1
abbrev xk_ro (K : xm_K) : Nat × Nat → Nat := K.2.2.2.2.2.2.2.2.2.2.2.2.2.2.2.2.1
abbrev xk_vq (K : xm_K) : Value := K.2.2.2.2.2.2.2.2.2.2.2.2.2.2.2.2.2.1
abbrev xk_cA (K : xm_K) : Nat → ClassId := K.2.2.2.2.2.2.2.2.2.2.2.2.2.2.2.2.2.2
abbrev xk_cv (K : xm_K) : xm_V → Value := xm_cv (xk_ad K) (xk_ro K) (xk_vq K)
abbrev xm_tys (cA : Nat → ClassId) : List (ClassId × FieldType) := [(cA 0, .int), (cA 1, .byte), (cA 2, .object "ListenWood$Sheet")]
/-- the constant cells: the script, the two tables, two statics, the texts -/
def xm_X (A : Nat → Prop) (ro : Nat × Nat → Nat) (vq : Value) (X : Nat × (Nat → Int32)) (U : State) (H : Heap) : Prop :=
  va_T .int (ro (0, 0)) X.1 (fun k => .int (X.2 k)) A U H ∧ va_T .int (ro (0, 1)) 7 (fun k => .int (xm_t1 k)) A U H ∧ va_T .int (ro (0, 2)) 7 (fun k => .int (xm_t2 k)) A U H ∧
  va_Z "ListenWood" "MAX_OF_PLANK" "[I" (.ref (ro (0, 1))) A U H ∧ va_Z "ListenWood" "KIND_ABOVE" "[I" (.ref (ro (0, 2))) A U H ∧
  va_Z "java/lang/String" "COMPACT_STRINGS" "Z" (.int 1) A U H ∧ va_Z "jdk/internal/util/Preconditions" "SIOOBE_FORMATTER" "Ljava/util/function/BiFunction;" vq A U H ∧
  vk_S 15 xm_len xm_byt (fun i => ro (1, i)) (fun i => ro (2, i)) A U H ∧ (∀ i, i < 15 → vk_R RX1 (xm_sx.getD i 0) (xm_tx.getD i "") (ro (1, i)) U) ∧ (vq = .null ∨ ∃ t, vq = .ref t)
theorem xm_X.kept {A : Nat → Prop} {ro : Nat × Nat → Nat} {vq : Value} {X : Nat × (Nat → Int32)} {U : State} {H H1 : Heap} (h : xm_X A ro vq X U H) (hq : ∀ a : Nat, a < H.size → ¬ A a → H1[a]? = H[a]?) : xm_X A ro vq X U H1 := by
  obtain ⟨h1, h2, h3, h4, h5, h6, h7, h8, h9, h0⟩ := h
  exact ⟨h1.kept hq, h2.kept hq, h3.kept hq, h4.kept hq, h5.kept hq, h6.kept hq, h7.kept hq, h8.kept hq, h9, h0⟩
theorem xm_X.moved {A : Nat → Prop} {ro : Nat × Nat → Nat} {vq : Value} {X : Nat × (Nat → Int32)} {s U : State} {H : Heap} (hW : s.WarmedH U.vm) (h : xm_X A ro vq X s H) : xm_X A ro vq X U H := by
  obtain ⟨h1, h2, h3, h4, h5, h6, h7, h8, h9, h0⟩ := h
  have hv := hW.alike
  exact ⟨h1.moved hv, h2.moved hv, h3.moved hv, h4.moved hv, h5.moved hv, h6.moved hv, h7.moved hv, h8.moved hv, fun i hi => (h9 i hi).warm hW, h0⟩
theorem xm_X.same {A : Nat → Prop} {ro : Nat × Nat → Nat} {vq : Value} {X : Nat × (Nat → Int32)} {s U : State} {H : Heap} (hv : U.vm = s.vm) (h : xm_X A ro vq X s H) : xm_X A ro vq X U H := by
  obtain ⟨h1, h2, h3, h4, h5, h6, h7, h8, h9, h0⟩ := h
  have ha : s.vm.Alike U.vm := by rw [hv]; exact Vm.Alike.refl s.vm
  exact ⟨h1.moved ha, h2.moved ha, h3.moved ha, h4.moved ha, h5.moved ha, h6.moved ha, h7.moved ha, h8.moved ha, fun i hi => (h9 i hi).same hv, h0⟩
/-- the addresses -/
def xm_G (A : Nat → Prop) (ad : Nat × Nat → Nat) : Prop := (∀ q ∈ xm_pl, ∀ q' ∈ xm_pl, ad q = ad q' → q = q') ∧ ∀ q ∈ xm_pl, A (ad q)
def xm_Kx (K : xm_K) (X : Nat × (Nat → Int32)) (q : xm_M) : Prop :=
  (xk_p K).tables.exec = Jvm.exec ∧ (xk_c K).code = q.2.1 ∧ (xk_c K).maxLocals = q.2.2.1 ∧ (xk_s K).vm.findClass q.1.cls = some (xk_m K).cls ∧ (∀ w ∈ xm_tb, w.before (xk_a K) (xk_s K) = true) ∧
  va_K (xk_D K) xm_cl (xm_tys (xk_cA K)) (xk_s K) ∧ xm_X (xk_A K) (xk_ro K) (xk_vq K) X (xk_s K) (xk_s K).heap ∧ xm_G (xk_A K) (xk_ad K) ∧ (∀ a, (xk_s K).heap.size ≤ a → xk_A K a) ∧
  xm_frl q ≤ (xk_R K).frames ∧ xm_lol q ≤ (xk_R K).locals ∧ xk_n K ≤ (xk_R K).cells ∧ xk_k K ≤ (xk_R K).slots
/-- the machine at a state of the abstract one -/
def xm_Wk (K : xm_K) (pc : Nat) (ls : xm_L) (st : List xm_V) (u : xm_U) : Prop := ∀ (H : Heap) (locs : List Loc) (als : Array Slot), va_P (xk_D K) xm_cl (xm_wl (xk_ad K) (xk_cA K) u) H → xm_lr (xk_cv K) als ls → ls.length = (xk_c K).maxLocals → va_S (xk_A K) (xk_s K).heap H locs →
  W (xk_p K) (xk_l K) (xk_e K) (xk_R K) (xk_s K) (xk_m K) (xk_a K) (xk_b K) (xk_h K) (xk_c K) H locs (xk_n K) (xk_k K) (xk_Q K) (F0 (xk_m K) pc als (st.map (xk_cv K)))
/-- how a method ends -/
def xm_end (cv : xm_V → Value) (bytes : ByteArray) (rt : Option FieldType) (pc : Nat) (st : List xm_V) (rv : Option xm_V) : Prop :=
  (decode bytes pc = .ok (.ireturn, 1) ∧ ∃ v ty, st = [.inl v] ∧ rv = some (.inl v) ∧ rt = some ty ∧ narrow ty (.int v) = .int v) ∨
  (decode bytes pc = .ok (.lreturn, 1) ∧ ∃ v, st = [.inr (.inl v)] ∧ rv = some (.inr (.inl v)) ∧ rt = some .long) ∨
  (decode bytes pc = .ok (.areturn, 1) ∧ ∃ v ty a, st = [v] ∧ rv = some v ∧ rt = some ty ∧ ((∃ n, ty = .object n) ∨ ∃ t, ty = .array t) ∧ cv v = .ref a) ∨
  (decode bytes pc = .ok (.return_, 1) ∧ st = [] ∧ rv = none ∧ rt = none)
def xm_Kr (K : xm_K) (q : xm_M) (r : xm_R) : Prop := ∀ (H : Heap) (locs : List Loc) (als : Array Slot) (pc : Nat) (st : List xm_V), va_P (xk_D K) xm_cl (xm_wl (xk_ad K) (xk_cA K) r.2) H → va_S (xk_A K) (xk_s K).heap H locs → xm_end (xk_cv K) q.2.1 q.2.2.2.1 pc st r.1 →
  W (xk_p K) (xk_l K) (xk_e K) (xk_R K) (xk_s K) (xk_m K) (xk_a K) (xk_b K) (xk_h K) (xk_c K) H locs (xk_n K) (xk_k K) (xk_Q K) (F0 (xk_m K) pc als (st.map (xk_cv K)))
