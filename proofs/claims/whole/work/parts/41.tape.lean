/-! bytes -/
theorem by_b (x : Int32) : x.toInt8.toInt32 &&& 255 = x &&& 255 := by
  apply Int32.toBitVec_inj.mp
  rw [Int32.toBitVec_and, Int32.toBitVec_and, Int8.toBitVec_toInt32, Int32.toBitVec_toInt8]
  apply BitVec.eq_of_getLsbD_eq
  intro i hi
  rw [BitVec.getLsbD_and, BitVec.getLsbD_and]
  have hm : ∀ i < 32, 8 ≤ i → (255 : Int32).toBitVec.getLsbD i = false := by decide
  rcases Nat.lt_or_ge i 8 with z | z
  · rw [BitVec.getLsbD_signExtend, BitVec.getLsbD_signExtend, if_pos z, if_pos hi]
    simp only [z, hi, decide_true, Bool.true_and]
  · rw [hm i hi z]; simp
theorem by_s {x : Int32} (h1 : -128 ≤ x.toInt) (h2 : x.toInt < 128) : x.toInt8.toInt32 = x := by
  apply Int32.toInt_inj.1
  rw [Int8.toInt_toInt32, Int32.toInt_toInt8, Int.bmod_eq_of_le (by omega) (by omega)]
theorem by_r (x : Int32) : -128 ≤ x.toInt8.toInt32.toInt ∧ x.toInt8.toInt32.toInt < 128 := by
  rw [Int8.toInt_toInt32]
  have h1 := Int8.le_toInt x.toInt8
  have h2 := Int8.toInt_lt x.toInt8
  omega
theorem by_2 (x : Int32) : x.toInt8.toInt32.toInt8.toInt32 = x.toInt8.toInt32 := by_s (by_r x).1 (by_r x).2
theorem sar_low (a s1 s2 : Int32) {k : Nat} (h1 : (s1.toBitVec.smod 32).toNat = k) (h2 : ((s2.toUInt32 &&& Int32.toUInt32 31).toBitVec % 32).toNat = k) (hk : k = 0 ∨ k = 8 ∨ k = 16 ∨ k = 24) : (a >>> s1) &&& 255 = (a.toUInt32 >>> (s2.toUInt32 &&& Int32.toUInt32 31)).toInt32 &&& 255 := by
  have m255 : (255 : Int32).toBitVec.toNat = 2 ^ 8 - 1 := by decide
  rw [pk_and (a >>> s1) 8 m255, pk_and _ 8 m255, pk_ushr a s2 k h2]
  have e := pk_shr a s1 k h1
  rw [show (a >>> s1).toInt = (a >>> s1).toBitVec.toInt from rfl, show a.toInt = a.toBitVec.toInt from rfl, BitVec.toInt_eq_toNat_cond, BitVec.toInt_eq_toNat_cond, Int.shiftRight_eq_div_pow] at e
  have l1 := (a >>> s1).toBitVec.isLt
  have l2 := a.toBitVec.isLt
  congr 1
  generalize (a >>> s1).toBitVec.toNat = p at *
  generalize a.toBitVec.toNat = q at *
  rcases hk with rfl | rfl | rfl | rfl <;> split at e <;> split at e <;> omega
theorem feed_byte (v : Int32) {i : Nat} (hi : i < 4) : ∃ b, b < 256 ∧ (v.toUInt32 >>> ((8 * nI i).toUInt32 &&& Int32.toUInt32 31)).toInt32 &&& 255 = nI b ∧ (v >>> ((8 * nI i) &&& 31)).toInt8.toInt32.toInt8.toInt32 = (nI b).toInt8.toInt32 := by
  obtain ⟨b, hb, e⟩ := pk_andE ((v.toUInt32 >>> ((8 * nI i).toUInt32 &&& Int32.toUInt32 31)).toInt32) (m := 255) 8 (by decide)
  refine ⟨b, hb, e, ?_⟩
  rw [by_2]
  refine (sc_eq (by_2 _) hb).mpr ?_
  rw [by_b, ← e]
  match i, hi with
  | 0, _ => exact sar_low v _ _ (k := 0) (by decide) (by decide) (by omega)
  | 1, _ => exact sar_low v _ _ (k := 8) (by decide) (by decide) (by omega)
  | 2, _ => exact sar_low v _ _ (k := 16) (by decide) (by decide) (by omega)
  | 3, _ => exact sar_low v _ _ (k := 24) (by decide) (by decide) (by omega)
/-! the tape -/
theorem Rel_tp {u z : xm_U} (h : Rel u) (h0 : ∀ i, i ≠ 2 → i ≠ 4 → i ≠ 9 → z.1 i = u.1 i) (h1 : ∀ k, k < 89 → z.1 9 1 k = u.1 9 1 k) (h4 : z.1 9 0 4 = u.1 9 0 4) (hp : ∀ p, p = 4 ∨ p = 6 ∨ p = 14 ∨ p = 15 ∨ p = 16 → z.1 9 p = u.1 9 p) (ht : tp z) : Rel z := by
  obtain ⟨r1, r2, r3, r4, r5, r6⟩ := h
  refine ⟨vd_of (h0 1 (by decide) (by decide) (by decide)) (vd_d r1 h1), inv_d r2 h1, ?_, ?_, ht, ?_⟩
  · unfold kp at r3 ⊢
    rw [h0 0 (by decide) (by decide) (by decide), h4, hp 4 (by decide)]
    exact ⟨r3.1, r3.2.1, fun q => ⟨vd_of (h0 3 (by decide) (by decide) (by decide)) (r3.2.2 q).1, (r3.2.2 q).2⟩⟩
  · intro k hk
    rw [h0 0 (by decide) (by decide) (by decide), hp 6 (by decide)]
    exact r4 k hk
  · intro s hs
    have := r6 s hs
    rw [h0 (5 + s) (by omega) (by omega) (by omega), hp 14 (by decide), hp 15 (by decide), hp 16 (by decide)]
    exact this
theorem S_wipe : Same 78 169 [] := by
  intro u h
  obtain ⟨n, hn, t1, t2, t3⟩ := h.2.2.2.2.1
  refine ⟨xv_i (nI n), xm_us u 4 0 1 0, xm_us (xm_us u 4 0 1 0) 9 0 7 0, ?_, ?_, ?_⟩
  · rw [xe_X3_wipe, t1]
    exact xg rfl (xg rfl (xlt (xg rfl (xg rfl (xlt (rfl))))))
  · rw [xe_X4_wipe, us_obj (i := 4) (i' := 9) _ (by decide), t2]
    exact xg rfl (xlt (xg rfl (xlt (rfl))))
  · refine Rel_tp h (fun i h2 h4 h9 => ?_) (fun k hk => ?_) ?_ (fun p hp => ?_) ⟨0, by decide, ?_, ?_, fun k hk => absurd hk (Nat.not_lt_zero k)⟩
    · rw [us_obj _ h9, us_obj _ h4]
    · rw [us_arr _ (by decide), us_obj _ (by decide)]
    · simp [us_at]
    · rw [us_arr _ (by omega), us_obj _ (by decide)]
    · simp [us_at]; rfl
    · simp [us_at]; rfl
def tC (u : xm_U) (n : Nat) (b : Nat → Nat) : Prop := u.1 4 0 1 = nI n ∧ ∀ k, k < n → u.1 4 1 k = nI (b k)
def tR (u : xm_U) (n : Nat) (b : Nat → Nat) : Prop := u.1 9 0 7 = nI n ∧ ∀ k, k < n → u.1 9 7 k = (nI (b k)).toInt8.toInt32
def oR (u z : xm_U) : Prop := (∀ i, i ≠ 9 → z.1 i = u.1 i) ∧ (∀ p, p ≠ 0 → p ≠ 7 → z.1 9 p = u.1 9 p) ∧ z.1 9 0 4 = u.1 9 0 4
theorem oR_tr {u v w : xm_U} (h1 : oR u v) (h2 : oR v w) : oR u w := ⟨fun i h => (h2.1 i h).trans (h1.1 i h), fun p h h' => (h2.2.1 p h h').trans (h1.2.1 p h h'), h2.2.2.trans h1.2.2⟩
theorem feed_loop (v a2 : Int32) : ∀ (i n : Nat) (b : Nat → Nat) (w z : xm_U), i ≤ 4 → n + i ≤ 120 → (∀ k, k < n → b k < 256) → tC w n b → tR z n b → ∃ w' z' b', xm_E 77 (xc_X3_feed.drop 24, [some (xv_r 0 0), some (xv_i v), some (xv_i a2), some (xv_i (nI i - 1))], [], w) = some (some (xv_i (nI (n + i))), w') ∧ xm_E 168 (xc_X4_feed.drop 24, [some (xv_r 9 0), some (xv_i v), some (xv_i a2), some (xv_i (nI i - 1))], [], z) = some (some (xv_i (nI (n + i))), z') ∧ (∀ k, k < n + i → b' k < 256) ∧ tC w' (n + i) b' ∧ tR z' (n + i) b' ∧ oth w w' 4 ∧ oR z z' := by
  intro i
  induction i with
  | zero =>
    intro n b w z hi hn hb hc hr
    refine ⟨w, z, b, ?_, ?_, hb, hc, hr, oth_rf _ _, ⟨fun _ _ => rfl, fun _ _ _ => rfl, rfl⟩⟩
    · rw [xe_X3_feed_24, hc.1]
      exact xg ((by decide)) (xg rfl (xg rfl (rfl)))
    · rw [xe_X4_feed_24, hr.1]
      exact xg ((by decide)) (xg rfl (rfl))
  | succ i ih =>
    intro n b w z hi hn hb hc hr
    obtain ⟨B, hB, f1, f2⟩ := feed_byte v (i := i) (by omega)
    have ap : xm_C 4 [xv_r 4 0, xv_i (nI B)] w = some (none, xm_us (xm_us w 4 1 n (nI B)) 4 0 1 (nI (n + 1))) := by
      have e1 : (xm_us w 4 1 n (nI B)).1 4 0 1 = nI n := by rw [us_arr _ (by decide)]; exact hc.1
      rw [xe_X1_append, hc.1, nI_clamp (by omega)]
      refine xg rfl (xn (nI_ge (b := 120) (by omega) (by decide)) (xg rfl (xg rfl (xg (xin (vp_in_nI (N := 120) (by omega) (by decide)) rfl) (xlt (xg rfl (xg rfl (xlt (?_)))))))))
      rw [e1, nI_1]
    have hc' : tC (xm_us (xm_us w 4 1 n (nI B)) 4 0 1 (nI (n + 1))) (n + 1) (fun k => if k = n then B else b k) := by
      refine ⟨us_same _ _ _ _ _, fun k hk => ?_⟩
      rw [us_arr _ (by decide), us_row]
      unfold upd
      by_cases c : k = n
      · simp only [if_pos c]
      · simp only [if_neg c]; exact hc.2 k (by omega)
    have hr' : tR (xm_us (xm_us z 9 7 n (nI B).toInt8.toInt32) 9 0 7 (nI (n + 1))) (n + 1) (fun k => if k = n then B else b k) := by
      refine ⟨us_same _ _ _ _ _, fun k hk => ?_⟩
      rw [us_arr _ (by decide), us_row]
      unfold upd
      by_cases c : k = n
      · simp only [if_pos c]
      · simp only [if_neg c]; exact hr.2 k (by omega)
    obtain ⟨w', z', b', e1, e2, hb', c', r', o', p'⟩ := ih (n + 1) _ _ _ (by omega) (by omega) (fun k hk => by
      show (if k = n then B else b k) < 256
      by_cases c : k = n
      · rw [if_pos c]; exact hB
      · rw [if_neg c]; exact hb k (by omega)) hc' hr'
    rw [show n + 1 + i = n + (i + 1) by omega] at e1 e2 hb' c' r'
    have em : nI (i + 1) - 1 = nI i := nI_pred i
    have ep : nI i + -1 = nI i - 1 := by rw [Int32.sub_eq_add_neg]
    refine ⟨w', z', b', ?_, ?_, hb', c', r', oth_tr (oth_us _ _ _ _ _) (oth_tr (oth_us _ _ _ _ _) o'), oR_tr ⟨fun i h => ?_, fun p h h' => ?_, ?_⟩ p'⟩
    · rw [xe_X3_feed_24, em, f1]
      refine xn (nI_pos (by omega)) (xg rfl (xg rfl (xbv ap (?_))))
      rw [ep]
      exact e1
    · have e3 : (xm_us z 9 7 n (nI B).toInt8.toInt32).1 9 0 7 = nI n := by rw [us_arr _ (by decide)]; exact hr.1
      rw [xe_X4_feed_24, em, f2, hr.1, nI_clamp (by omega)]
      refine xn (nI_pos (by omega)) (xg rfl (xg rfl (xg (vp_in_nI (by omega) (by decide)) (xlt (xg rfl (xg rfl (xlt (?_))))))))
      rw [e3, nI_1, ep]
      exact e2
    · rw [us_obj _ h, us_obj _ h]
    · rw [us_arr _ (fun q => h q.2), us_arr _ (fun q => h' q.2)]
    · simp [us_at]
theorem S_feed (a c : Int32) : Same 77 168 [xv_i a, xv_i c] := by
  intro u h
  obtain ⟨n, hn, t1, t2, t3⟩ := h.2.2.2.2.1
  by_cases C : 1 ≤ c ∧ c ≤ 4
  · obtain ⟨i, hi, rfl⟩ := bd_nI (x := c) (n := 4) (by decide) ⟨Int32.le_trans (by decide) C.1, C.2⟩
    have sm : nI n + nI i = nI (n + i) := nI_add _ _
    by_cases F : n + i ≤ 120
    · have hb : ∃ b : Nat → Nat, ∀ k, k < n → b k < 256 ∧ u.1 4 1 k = nI (b k) ∧ u.1 9 7 k = (nI (b k)).toInt8.toInt32 := by
        refine ⟨fun k => @dite _ (k < n) (Classical.propDecidable _) (fun q => Classical.choose (t3 k q)) (fun _ => 0), fun k hk => ?_⟩
        simp only [dif_pos hk]
        exact Classical.choose_spec (t3 k hk)
      obtain ⟨b, hb⟩ := hb
      obtain ⟨w', z0, b0, e1, -, -, c0, -, o0, -⟩ := feed_loop a (nI i) i n b u u hi F (fun k hk => (hb k hk).1) ⟨t1, fun k hk => (hb k hk).2.1⟩ ⟨t2, fun k hk => (hb k hk).2.2⟩
      obtain ⟨w2, z', b', e2, e3, hb', c', r', o', p'⟩ := feed_loop a (nI i) i n b u w' hi F (fun k hk => (hb k hk).1) ⟨t1, fun k hk => (hb k hk).2.1⟩ ⟨by rw [o0.1 9 (by decide)]; exact t2, fun k hk => by rw [o0.1 9 (by decide)]; exact (hb k hk).2.2⟩
      have q := e1.symm.trans e2
      have q1 : w' = w2 := by injection q with q; exact (Prod.mk.inj q).2
      subst q1
      have e9 : w'.1 9 0 7 = nI n := by rw [o'.1 9 (by decide)]; exact t2
      refine ⟨xv_i (nI (n + i)), w', z', ?_, ?_, ?_⟩
      · rw [xe_X3_feed]
        exact xbi (x_within _ _ _ _) (xg (bI_ne C) (xg rfl (xg rfl (xg ((by rw [t1, sm]; exact nI_le F (by decide))) (xlt (e2))))))
      · rw [xe_X4_feed]
        exact xbi (m_inb _ _ 1 4 rfl rfl) (xg (bI_ne C) (xg rfl (xg ((by rw [e9, sm]; exact nI_le F (by decide))) (xlt (e3)))))
      · refine Rel_tp h (fun j h2 h4 h9 => (p'.1 j h9).trans (o'.1 j h4)) (fun k hk => ?_) ?_ (fun p hp => ?_) ⟨n + i, F, ?_, r'.1, fun k hk => ⟨b' k, hb' k hk, ?_, r'.2 k hk⟩⟩
        · rw [p'.2.1 1 (by decide) (by decide), o'.1 9 (by decide)]
        · rw [p'.2.2, o'.1 9 (by decide)]
        · rw [p'.2.1 p (by omega) (by omega), o'.1 9 (by decide)]
        · rw [p'.1 4 (by decide)]; exact c'.1
        · rw [p'.1 4 (by decide)]; exact c'.2 k hk
    · refine S_fail h 1 (r := xv_i (-1000002)) ?_ ?_
      · rw [xe_X3_feed]
        exact xbi (x_within _ _ _ _) (xg (bI_ne C) (xg rfl (xg rfl (xn ((by rw [t1, sm]; exact nI_ge (a := 120) (b := n + i) (by omega) (by omega))) (xg rfl (xbi (x_f1 _) (rfl)))))))
      · rw [xe_X4_feed]
        exact xbi (m_inb _ _ 1 4 rfl rfl) (xg (bI_ne C) (xg rfl (xn ((by rw [us_obj (i := 0) (i' := 9) _ (by decide), t2, sm]; exact nI_ge (a := 120) (b := n + i) (by omega) (by omega))) (xg rfl (xbi (m_f1 _) (rfl))))))
  · refine S_fail h 0 (r := xv_i (-1000001)) ?_ ?_
    · rw [xe_X3_feed]
      exact xbi (x_within _ _ _ _) (xn (bI_nn C) (xg rfl (xbi (x_f0 _) (rfl))))
    · rw [xe_X4_feed]
      exact xbi (m_inb _ _ 1 4 rfl rfl) (xn (bI_nn C) (xg rfl (xbi (m_f0 _) (rfl))))
/-! images -/
theorem cop_lt {f g : Nat → Int32} {k : Nat} (h : k < 89) : cop f g 89 k = f k := if_pos h
theorem S_image : Same 87 195 [] := by
  intro u h
  have hv := h.1
  have hd := h.2.1
  obtain ⟨-, -, h3, h4, h5, h6⟩ := h
  obtain ⟨u1, q1, q2, q3⟩ := v_become (i := 3) (i1 := 1) rfl rfl (by decide) hv
  have b1 := m_copies (i0 := 9) (p0 := 1) (i1 := 9) (p1 := 4) rfl rfl (by decide) (xm_us u1 0 0 3 1)
  refine ⟨xv_i 1, xm_us u1 0 0 3 1, xm_us (xm_ua (xm_us u1 0 0 3 1) 9 4 (cop ((xm_us u1 0 0 3 1).1 9 1) ((xm_us u1 0 0 3 1).1 9 4) 89)) 9 0 4 1, ?_, ?_, ?_⟩
  · rw [xe_X3_image]
    exact xg rfl (xg rfl (xg rfl (xbv q1 (xg (⟨rfl, Or.inr rfl⟩) (xlt (rfl))))))
  · rw [xe_X4_image]
    exact xg rfl (xg rfl (xbv b1 (xg (⟨rfl, Or.inr rfl⟩) (xlt (rfl)))))
  · generalize hz : xm_us (xm_ua (xm_us u1 0 0 3 1) 9 4 (cop ((xm_us u1 0 0 3 1).1 9 1) ((xm_us u1 0 0 3 1).1 9 4) 89)) 9 0 4 1 = z
    have e9 : ∀ p, p ≠ 0 → p ≠ 4 → z.1 9 p = u.1 9 p := fun p h0 h4 => by rw [← hz, us_arr _ (fun q => h0 q.2), ua_arr _ (fun q => h4 q.2), us_obj _ (by decide), q3.1 9 (by decide)]
    have e0 : ∀ i, i ≠ 0 → i ≠ 9 → z.1 i = u1.1 i := fun i h0 h9 => by rw [← hz, us_obj _ h9, ua_obj _ h9, us_obj _ h0]
    have eo : ∀ i, i ≠ 0 → i ≠ 9 → i ≠ 3 → z.1 i = u.1 i := fun i h0 h9 h3 => (e0 i h0 h9).trans (q3.1 i h3)
    have e07 : z.1 0 7 = u.1 0 7 := by rw [← hz, us_obj _ (by decide), ua_obj _ (by decide), us_arr _ (by decide), q3.1 0 (by decide)]
    have e03 : z.1 0 0 3 = 1 := by rw [← hz, us_obj _ (by decide), ua_obj _ (by decide), us_same]
    have e94 : z.1 9 0 4 = 1 := by rw [← hz, us_same]
    have e97 : z.1 9 0 7 = u.1 9 0 7 := by
      rw [← hz, us_row, upd_ne (by decide), ua_arr _ (by decide), us_obj _ (by decide), q3.1 9 (by decide)]
    have ek : ∀ k, k < 89 → z.1 9 4 k = u.1 9 1 k := fun k hk => by rw [← hz, us_arr _ (by decide), ua_row, cop_lt hk, us_obj _ (by decide), q3.1 9 (by decide)]
    refine ⟨?_, ?_, ⟨?_, Or.inr e03, fun _ => ⟨?_, ?_⟩⟩, ?_, ?_, ?_⟩
    · rw [e9 1 (by decide) (by decide)]; exact vd_of (eo 1 (by decide) (by decide) (by decide)) hv
    · rw [e9 1 (by decide) (by decide)]; exact hd
    · rw [e03, e94]
    · exact vd_of (e0 3 (by decide) (by decide)) (vd_d q2 ek)
    · exact inv_d hd ek
    · intro k hk
      rw [e07, e9 6 (by decide) (by decide)]; exact h4 k hk
    · unfold tp at h5 ⊢
      rw [eo 4 (by decide) (by decide) (by decide), e97, e9 7 (by decide) (by decide)]; exact h5
    · intro s hs
      have := h6 s hs
      rw [eo (5 + s) (by omega) (by omega) (by omega), e9 14 (by decide) (by decide), e9 15 (by decide) (by decide), e9 16 (by decide) (by decide)]
      exact this
theorem S_undo : Same 88 196 [] := by
  intro u h
  obtain ⟨k1, k2, k3⟩ := h.2.2.1
  by_cases c : u.1 0 0 3 = 0
  · refine S_fail h 3 (r := xv_i (-1000004)) ?_ ?_
    · rw [xe_X3_undo]
      exact xg rfl (xn ((fun q => q c)) (xg rfl (xbi (x_f3 _) (rfl))))
    · rw [xe_X4_undo]
      exact xg rfl (xn ((fun q => q (by rw [us_obj (i := 0) (i' := 9) _ (by decide), ← k1]; exact c))) (xg rfl (xbi (m_f3 _) (rfl))))
  · obtain ⟨v3, i3⟩ := k3 (k2.resolve_left c)
    obtain ⟨u1, q1, q2, q3⟩ := v_become (i := 1) (i1 := 3) rfl rfl (by decide) v3
    have e9 : u1.1 9 = u.1 9 := q3.1 9 (by decide)
    have b1 := m_copies (i0 := 9) (p0 := 4) (i1 := 9) (p1 := 1) rfl rfl (by decide) u1
    rw [e9] at b1
    have hl : ∀ k, k < 89 → cop (u.1 9 4) (u.1 9 1) 89 k = u.1 9 4 k := fun k hk => cop_lt hk
    refine S_val h (r := xv_i (u.1 9 4 1)) q3 (vd_d q2 hl) (inv_d i3 hl) ?_ ?_
    · rw [xe_X3_undo]
      refine xg rfl (xg c (xg rfl (xg rfl (xg rfl (xbv q1 (xg rfl (xg rfl (?_))))))))
      rw [q2.2.2.2.1.2.2.1]
    · rw [xe_X4_undo]
      refine xg rfl (xg ((by rw [e9, ← k1]; exact c)) (xg rfl (xg rfl (xbv b1 (xg rfl (xg (in9n (k := 1) (by decide)) (?_)))))))
      show some (some (xv_i ((dU u1 (cop (u.1 9 4) (u.1 9 1) 89)).1 9 1 1)), dU u1 (cop (u.1 9 4) (u.1 9 1) 89)) = _
      rw [dU_d, cop_lt (by decide)]
theorem S_tear : Same 89 197 [] := by
  intro u h
  obtain ⟨k1, k2, k3⟩ := h.2.2.1
  have hz : Rel (xm_us (xm_us u 0 0 3 0) 9 0 4 0) := by
    obtain ⟨h1, h2, h3, h4, h5, h6⟩ := h
    generalize hz : xm_us (xm_us u 0 0 3 0) 9 0 4 0 = z
    have e9 : ∀ p, p ≠ 0 → z.1 9 p = u.1 9 p := fun p h0 => by rw [← hz, us_arr _ (fun q => h0 q.2), us_obj _ (by decide)]
    have eo : ∀ i, i ≠ 0 → i ≠ 9 → z.1 i = u.1 i := fun i h0 h9 => by rw [← hz, us_obj _ h9, us_obj _ h0]
    have e07 : z.1 0 7 = u.1 0 7 := by rw [← hz, us_obj _ (by decide), us_arr _ (by decide)]
    have e03 : z.1 0 0 3 = 0 := by rw [← hz, us_obj _ (by decide), us_same]
    have e94 : z.1 9 0 4 = 0 := by rw [← hz, us_same]
    have e97 : z.1 9 0 7 = u.1 9 0 7 := by rw [← hz, us_row, upd_ne (by decide), us_obj _ (by decide)]
    refine ⟨?_, ?_, ⟨by rw [e03, e94], Or.inl e03, fun q => absurd (e03.symm.trans q) (by decide)⟩, ?_, ?_, ?_⟩
    · rw [e9 1 (by decide)]; exact vd_of (eo 1 (by decide) (by decide)) h1
    · rw [e9 1 (by decide)]; exact h2
    · intro k hk
      rw [e07, e9 6 (by decide)]; exact h4 k hk
    · unfold tp at h5 ⊢
      rw [eo 4 (by decide) (by decide), e97, e9 7 (by decide)]; exact h5
    · intro s hs
      have := h6 s hs
      rw [eo (5 + s) (by omega) (by omega), e9 14 (by decide), e9 15 (by decide), e9 16 (by decide)]
      exact this
  have e9 : (xm_us u 0 0 3 0).1 9 0 4 = u.1 0 0 3 := by rw [us_obj (i := 0) (i' := 9) _ (by decide), k1]
  by_cases c : u.1 0 0 3 = 0
  · refine ⟨xv_i 0, xm_us u 0 0 3 0, _, ?_, ?_, hz⟩
    · rw [xe_X3_tear]
      exact xg rfl (xg c (xg (⟨rfl, Or.inl rfl⟩) (xlt (rfl))))
    · rw [xe_X4_tear]
      exact xg rfl (xg (e9.trans c) (xg (⟨rfl, Or.inl rfl⟩) (xlt (rfl))))
  · refine ⟨xv_i 1, xm_us u 0 0 3 0, _, ?_, ?_, hz⟩
    · rw [xe_X3_tear]
      exact xg rfl (xn c (xg (⟨rfl, Or.inl rfl⟩) (xlt (rfl))))
    · rw [xe_X4_tear]
      exact xg rfl (xn ((fun q => c (e9.symm.trans q))) (xg (⟨rfl, Or.inl rfl⟩) (xlt (rfl))))
/-! count, status -/
def holdN (d : Nat → Int32) : Nat → Int32
  | 0 => 0
  | k + 1 => if d (79 + k) ≤ 0 then holdN d k else holdN d k + 1
theorem holdN_s {d : Nat → Int32} {k : Nat} (c : d (79 + k) ≤ 0) : holdN d (k + 1) = holdN d k := if_pos c
theorem holdN_t {d : Nat → Int32} {k : Nat} (c : ¬ d (79 + k) ≤ 0) : holdN d (k + 1) = holdN d k + 1 := if_neg c
theorem inv_S {d : Nat → Int32} (hd : inv d) {s : Nat} (hs : s < 10) : ∃ t, t ≤ nN d ∧ d (79 + s) = nI t := by
  obtain ⟨h8, hN⟩ := inv_nN hd
  have := hd.2.2 s hs
  rw [hN] at this
  exact bd_nI (by omega) this
theorem v_hold_loop {u : xm_U} {i : Nat} {d : Nat → Int32} (hc : xm_cls i = 2) (hv : vd u i d) (hd : inv d) : ∀ (m k : Nat), k + m = 10 → xm_E 43 (xc_X2_spotsHolding.drop 4, [some (xv_r i 0), some (xv_i (holdN d k)), some (xv_i (nI k))], [], u) = some (some (xv_i (holdN d 10)), u) := by
  intro m
  induction m with
  | zero =>
    intro k hk
    have : k = 10 := by omega
    subst this
    rw [xe_X2_spotsHolding_4]
    exact xg (nI_le (a := 10) (Nat.le_refl _) (by decide)) (rfl)
  | succ m ih =>
    intro k hk
    have e := ih (k + 1) (by omega)
    obtain ⟨h8, hN⟩ := inv_nN hd
    obtain ⟨t, ht, et⟩ := inv_S hd (s := k) (by omega)
    have es := hv.2.2.2.2.2 k (by omega)
    rw [xe_X2_spotsHolding_4, nI_clamp (by omega), es, et, nI_1]
    by_cases c : t = 0
    · subst c
      rw [holdN_s (by rw [et]; decide)] at e
      exact xn (nI_ge (b := 10) (by omega) (by decide)) (xg hc (xg (v_in hc (n := 10) rfl (by omega) (by decide)) (xg ((by decide)) (e))))
    · rw [holdN_t (by rw [et]; exact nI_nle (by omega) (by omega))] at e
      have ne : ¬ nI t - 1 = -1 := by
        obtain ⟨j, rfl⟩ : ∃ j, t = j + 1 := ⟨t - 1, by omega⟩
        rw [nI_pred]
        exact fun q => nI_nle1 (n := j) (by omega) (q ▸ Int32.le_refl _)
      exact xn (nI_ge (b := 10) (by omega) (by decide)) (xg hc (xg (v_in hc (n := 10) rfl (by omega) (by decide)) (xn ne (e))))
theorem m_hold_loop (u : xm_U) : ∀ (m k : Nat), k + m = 10 → xm_E 198 (xc_X4_holding.drop 4, [some (xv_r 9 0), some (xv_i (holdN (u.1 9 1) k)), some (xv_i (nI k))], [], u) = some (some (xv_i (holdN (u.1 9 1) 10)), u) := by
  intro m
  induction m with
  | zero =>
    intro k hk
    have : k = 10 := by omega
    subst this
    rw [xe_X4_holding_4]
    exact xg (nI_le (a := 10) (Nat.le_refl _) (by decide)) (rfl)
  | succ m ih =>
    intro k hk
    have e := ih (k + 1) (by omega)
    rw [xe_X4_holding_4, show (79 : Int32) = nI 79 from rfl, nI_add, nI_clamp (by omega), nI_1 k]
    by_cases c : u.1 9 1 (79 + k) ≤ 0
    · rw [holdN_s c] at e
      refine xn (nI_ge (b := 10) (by omega) (by decide)) (xg rfl (xg (in9n (by omega)) (xg c (xlt (?_)))))
      rw [Int32.add_zero]
      exact e
    · rw [holdN_t c] at e
      exact xn (nI_ge (b := 10) (by omega) (by decide)) (xg rfl (xg (in9n (by omega)) (xn c (xlt (e)))))
theorem S_count (a : Int32) : Same 90 199 [xv_i a] := by
  intro u h
  have hv := h.1
  have hd := h.2.1
  obtain ⟨n, hn, t1, t2, t3⟩ := h.2.2.2.2.1
  by_cases c0 : a = 0
  · refine S_read h (r := xv_i (u.1 9 1 1)) ?_ ?_
    · rw [xe_X3_count, hv.2.2.2.1.2.2.1]
      exact xg c0 (xg rfl (xg rfl (rfl)))
    · rw [xe_X4_count]
      exact xg c0 (xg rfl (xg (in9n (k := 1) (by decide)) (rfl)))
  by_cases c1 : a = 1
  · refine S_read h (r := xv_i (u.1 9 1 0)) ?_ ?_
    · rw [xe_X3_count, hv.2.2.2.1.2.2.2.2]
      exact xn c0 (xg c1 (xg rfl (xg rfl (rfl))))
    · rw [xe_X4_count]
      exact xn c0 (xg c1 (xg rfl (xg (in9n (k := 0) (by decide)) (rfl))))
  by_cases c2 : a = 2
  · refine S_read h (r := xv_i (u.1 9 1 3)) ?_ ?_
    · rw [xe_X3_count, hv.2.2.2.1.2.1]
      exact xn c0 (xn c1 (xg c2 (xg rfl (xg rfl (rfl)))))
    · rw [xe_X4_count]
      exact xn c0 (xn c1 (xg c2 (xg rfl (xg (in9n (k := 3) (by decide)) (rfl)))))
  by_cases c3 : a = 3
  · refine S_read h (r := xv_i (sumN (u.1 9 1) (23 + 8 * 2) (nN (u.1 9 1)))) ?_ ?_
    · rw [xe_X3_count]
      exact xn c0 (xn c1 (xn c2 (xg c3 (xg rfl (xg rfl (xg rfl (xg rfl (xbi (v_sumOf rfl hv hd rfl (fun k hk => (hv.2.2.2.2.1 k hk).2.2.1)) (rfl)))))))))
    · rw [xe_X4_count]
      exact xn c0 (xn c1 (xn c2 (xg c3 (xg rfl (xbi (m_sumOf u hd (w := 2) (by decide)) (rfl))))))
  by_cases c4 : a = 4
  · refine S_read h (r := xv_i (sumN (u.1 9 1) (23 + 8 * 6) (nN (u.1 9 1)))) ?_ ?_
    · rw [xe_X3_count]
      exact xn c0 (xn c1 (xn c2 (xn c3 (xg c4 (xg rfl (xg rfl (xg rfl (xg rfl (xbi (v_sumOf rfl hv hd rfl (fun k hk => (hv.2.2.2.2.1 k hk).2.2.2.2.2.2)) (rfl))))))))))
    · rw [xe_X4_count]
      exact xn c0 (xn c1 (xn c2 (xn c3 (xg c4 (xg rfl (xbi (m_sumOf u hd (w := 6) (by decide)) (rfl)))))))
  by_cases c5 : a = 5
  · refine S_read h (r := xv_i (nI n)) ?_ ?_
    · rw [xe_X3_count, t1]
      exact xn c0 (xn c1 (xn c2 (xn c3 (xn c4 (xg c5 (xg rfl (xg rfl (rfl))))))))
    · rw [xe_X4_count, t2]
      exact xn c0 (xn c1 (xn c2 (xn c3 (xn c4 (xg c5 (xg rfl (rfl)))))))
  by_cases c6 : a = 6
  · refine S_read h (r := xv_i (u.1 9 1 2)) ?_ ?_
    · rw [xe_X3_count, hv.2.2.2.1.2.2.2.1]
      exact xn c0 (xn c1 (xn c2 (xn c3 (xn c4 (xn c5 (xg c6 (xg rfl (xg rfl (rfl)))))))))
    · rw [xe_X4_count]
      exact xn c0 (xn c1 (xn c2 (xn c3 (xn c4 (xn c5 (xg c6 (xg rfl (xg (in9n (k := 2) (by decide)) (rfl)))))))))
  by_cases c7 : a = 7
  · refine S_read h (r := xv_i (holdN (u.1 9 1) 10)) ?_ ?_
    · rw [xe_X3_count]
      exact xn c0 (xn c1 (xn c2 (xn c3 (xn c4 (xn c5 (xn c6 (xg c7 (xg rfl (xg rfl (xbi ((by rw [xe_X2_spotsHolding]; exact v_hold_loop rfl hv hd 10 0 rfl)) (rfl)))))))))))
    · rw [xe_X4_count]
      exact xn c0 (xn c1 (xn c2 (xn c3 (xn c4 (xn c5 (xn c6 (xg c7 (xg rfl (xbi ((by rw [xe_X4_holding]; exact m_hold_loop u 10 0 rfl)) (rfl))))))))))
  · refine S_fail h 0 (r := xv_i (-1000001)) ?_ ?_
    · rw [xe_X3_count]
      exact xn c0 (xn c1 (xn c2 (xn c3 (xn c4 (xn c5 (xn c6 (xn c7 (xg rfl (xbi (x_f0 _) (rfl))))))))))
    · rw [xe_X4_count]
      exact xn c0 (xn c1 (xn c2 (xn c3 (xn c4 (xn c5 (xn c6 (xn c7 (xg rfl (xbi (m_f0 _) (rfl))))))))))
def fsN (f : Nat → Int32) : Nat → Int32
  | 0 => 0
  | k + 1 => fsN f k + f k
theorem fsN_eq {f g : Nat → Int32} : ∀ n, (∀ k, k < n → f k = g k) → fsN f n = fsN g n
  | 0, _ => rfl
  | n + 1, h => by
    show fsN f n + f n = fsN g n + g n
    rw [fsN_eq n (fun k hk => h k (by omega)), h n (by omega)]
theorem x_st_loop (v : Int32) (u : xm_U) : ∀ (m k : Nat), k + m = 7 → xm_E 91 (xc_X3_status.drop 20, [some (xv_r 0 0), some (xv_i v), some (xv_i (fsN (u.1 0 7) k)), some (xv_i (nI k))], [], u) = some (some (xv_i (fsN (u.1 0 7) 7)), u) := by
  intro m
  induction m with
  | zero =>
    intro k hk
    have : k = 7 := by omega
    subst this
    rw [xe_X3_status_20]
    exact xg (nI_le (a := 7) (Nat.le_refl _) (by decide)) (rfl)
  | succ m ih =>
    intro k hk
    rw [xe_X3_status_20, nI_clamp (by omega), nI_1]
    exact xn (nI_ge (b := 7) (by omega) (by decide)) (xg rfl (xg (xin (vp_in_nI (n := k) (N := 7) (by omega) (by decide)) rfl) (xlt (ih (k + 1) (by omega)))))
theorem m_st_loop (v : Int32) (u : xm_U) (r : Int32) (hr : (0 ≤ v → ∃ k, k < 7 ∧ v = nI k ∧ r = u.1 9 6 k) ∧ (¬ 0 ≤ v → r = fsN (u.1 9 6) 7)) : ∀ (m k : Nat), k + m = 7 → xm_E 200 (xc_X4_status.drop 14, [some (xv_r 9 0), some (xv_i v), some (xv_i (fsN (u.1 9 6) k)), some (xv_i (nI k))], [], u) = some (some (xv_i r), u) := by
  intro m
  induction m with
  | zero =>
    intro k hk
    have : k = 7 := by omega
    subst this
    by_cases c : 0 ≤ v
    · obtain ⟨j, hj, rfl, rfl⟩ := hr.1 c
      rw [xe_X4_status_14, nI_clamp (n := j) (by omega)]
      exact xg (nI_le (a := 7) (Nat.le_refl _) (by decide)) (xg c (xg rfl (xg (xin (vp_in_nI (n := j) (N := 7) (by omega) (by decide)) rfl) (rfl))))
    · rw [hr.2 c, xe_X4_status_14]
      exact xg (nI_le (a := 7) (Nat.le_refl _) (by decide)) (xn c (rfl))
  | succ m ih =>
    intro k hk
    rw [xe_X4_status_14, nI_clamp (n := k) (by omega), nI_1 k]
    exact xn (nI_ge (b := 7) (by omega) (by decide)) (xg rfl (xg (xin (vp_in_nI (n := k) (N := 7) (by omega) (by decide)) rfl) (xlt (ih (k + 1) (by omega)))))
theorem S_status (a : Int32) : Same 91 200 [xv_i a] := by
  intro u h
  have hf := h.2.2.2.1
  by_cases A : -1 ≤ a ∧ a ≤ 6
  · by_cases c : 0 ≤ a
    · obtain ⟨k, hk, rfl⟩ := bd_nI (x := a) (n := 6) (by decide) ⟨c, A.2⟩
      refine S_read h (r := xv_i (u.1 0 7 k)) ?_ ?_
      · rw [xe_X3_status, nI_clamp (by omega)]
        exact xbi (x_within _ _ _ _) (xg (bI_ne A) (xn (nI_pos (by omega)) (xg rfl (xg (xin (vp_in_nI (n := k) (N := 7) (by omega) (by decide)) rfl) (rfl)))))
      · rw [xe_X4_status]
        exact xbi (m_inb _ _ (-1) 6 rfl rfl) (xg (bI_ne A) (m_st_loop (nI k) u _ ⟨fun _ => ⟨k, by omega, rfl, hf k (by omega)⟩, fun q => absurd c q⟩ 7 0 rfl))
    · refine S_read h (r := xv_i (fsN (u.1 0 7) 7)) ?_ ?_
      · rw [xe_X3_status]
        exact xbi (x_within _ _ _ _) (xg (bI_ne A) (xg (il_nle c) (x_st_loop a u 7 0 rfl)))
      · rw [xe_X4_status]
        exact xbi (m_inb _ _ (-1) 6 rfl rfl) (xg (bI_ne A) (m_st_loop a u _ ⟨fun q => absurd q c, fun _ => fsN_eq 7 hf⟩ 7 0 rfl))
  · refine S_fail h 0 (r := xv_i (-1000001)) ?_ ?_
    · rw [xe_X3_status]
      exact xbi (x_within _ _ _ _) (xn (bI_nn A) (xg rfl (xbi (x_f0 _) (rfl))))
    · rw [xe_X4_status]
      exact xbi (m_inb _ _ (-1) 6 rfl rfl) (xn (bI_nn A) (xg rfl (xbi (m_f0 _) (rfl))))
