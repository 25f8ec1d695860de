/-! WRITES INTO A VALLEY -/
/-- nothing but object i has changed -/
def oth (u u' : xm_U) (i : Nat) : Prop := (∀ i', i' ≠ i → u'.1 i' = u.1 i') ∧ u'.2 = u.2
theorem oth_rf (u : xm_U) (i : Nat) : oth u u i := ⟨fun _ _ => rfl, rfl⟩
theorem oth_us (u : xm_U) (i p k : Nat) (x : Int32) : oth u (xm_us u i p k x) i := ⟨fun _ h => us_obj u h, rfl⟩
theorem oth_ua (u : xm_U) (i p : Nat) (f : Nat → Int32) : oth u (xm_ua u i p f) i := ⟨fun _ h => ua_obj u h, rfl⟩
theorem oth_tr {u v w : xm_U} {i : Nat} (h1 : oth u v i) (h2 : oth v w i) : oth u w i := ⟨fun i' h => (h2.1 i' h).trans (h1.1 i' h), h2.2.trans h1.2⟩
theorem vw_1 {u : xm_U} {i : Nat} {d : Nat → Int32} (hv : vd u i d) {k : Nat} (hk : k < 6) (x : Int32) : vd (xm_us u i 1 k x) i (upd d (5 + k) x) := by
  refine ⟨fun h hh => ?_, fun h hh => ?_, fun h hh => ?_, ⟨?_, ?_, ?_, ?_, ?_⟩, fun j hj => ⟨?_, ?_, ?_, ?_, ?_, ?_, ?_⟩, fun s hs => ?_⟩ <;> rw [us_at] <;> unfold upd
  · by_cases e : h = k
    · rw [if_pos ⟨rfl, rfl, e⟩, if_pos (by omega)]
    · rw [if_neg (by omega), if_neg (by omega)]; exact hv.1 h hh
  · rw [if_neg (by omega), if_neg (by omega)]; exact hv.2.1 h hh
  · rw [if_neg (by omega), if_neg (by omega)]; exact hv.2.2.1 h hh
  · rw [if_neg (by omega), if_neg (by omega)]; exact hv.2.2.2.1.1
  · rw [if_neg (by omega), if_neg (by omega)]; exact hv.2.2.2.1.2.1
  · rw [if_neg (by omega), if_neg (by omega)]; exact hv.2.2.2.1.2.2.1
  · rw [if_neg (by omega), if_neg (by omega)]; exact hv.2.2.2.1.2.2.2.1
  · rw [if_neg (by omega), if_neg (by omega)]; exact hv.2.2.2.1.2.2.2.2
  · rw [if_neg (by omega), if_neg (by omega)]; exact (hv.2.2.2.2.1 j hj).1
  · rw [if_neg (by omega), if_neg (by omega)]; exact (hv.2.2.2.2.1 j hj).2.1
  · rw [if_neg (by omega), if_neg (by omega)]; exact (hv.2.2.2.2.1 j hj).2.2.1
  · rw [if_neg (by omega), if_neg (by omega)]; exact (hv.2.2.2.2.1 j hj).2.2.2.1
  · rw [if_neg (by omega), if_neg (by omega)]; exact (hv.2.2.2.2.1 j hj).2.2.2.2.1
  · rw [if_neg (by omega), if_neg (by omega)]; exact (hv.2.2.2.2.1 j hj).2.2.2.2.2.1
  · rw [if_neg (by omega), if_neg (by omega)]; exact (hv.2.2.2.2.1 j hj).2.2.2.2.2.2
  · rw [if_neg (by omega), if_neg (by omega)]; exact hv.2.2.2.2.2 s hs
theorem vw_2 {u : xm_U} {i : Nat} {d : Nat → Int32} (hv : vd u i d) {k : Nat} (hk : k < 6) (x : Int32) : vd (xm_us u i 2 k x) i (upd d (11 + k) x) := by
  refine ⟨fun h hh => ?_, fun h hh => ?_, fun h hh => ?_, ⟨?_, ?_, ?_, ?_, ?_⟩, fun j hj => ⟨?_, ?_, ?_, ?_, ?_, ?_, ?_⟩, fun s hs => ?_⟩ <;> rw [us_at] <;> unfold upd
  · rw [if_neg (by omega), if_neg (by omega)]; exact hv.1 h hh
  · by_cases e : h = k
    · rw [if_pos ⟨rfl, rfl, e⟩, if_pos (by omega)]
    · rw [if_neg (by omega), if_neg (by omega)]; exact hv.2.1 h hh
  · rw [if_neg (by omega), if_neg (by omega)]; exact hv.2.2.1 h hh
  · rw [if_neg (by omega), if_neg (by omega)]; exact hv.2.2.2.1.1
  · rw [if_neg (by omega), if_neg (by omega)]; exact hv.2.2.2.1.2.1
  · rw [if_neg (by omega), if_neg (by omega)]; exact hv.2.2.2.1.2.2.1
  · rw [if_neg (by omega), if_neg (by omega)]; exact hv.2.2.2.1.2.2.2.1
  · rw [if_neg (by omega), if_neg (by omega)]; exact hv.2.2.2.1.2.2.2.2
  · rw [if_neg (by omega), if_neg (by omega)]; exact (hv.2.2.2.2.1 j hj).1
  · rw [if_neg (by omega), if_neg (by omega)]; exact (hv.2.2.2.2.1 j hj).2.1
  · rw [if_neg (by omega), if_neg (by omega)]; exact (hv.2.2.2.2.1 j hj).2.2.1
  · rw [if_neg (by omega), if_neg (by omega)]; exact (hv.2.2.2.2.1 j hj).2.2.2.1
  · rw [if_neg (by omega), if_neg (by omega)]; exact (hv.2.2.2.2.1 j hj).2.2.2.2.1
  · rw [if_neg (by omega), if_neg (by omega)]; exact (hv.2.2.2.2.1 j hj).2.2.2.2.2.1
  · rw [if_neg (by omega), if_neg (by omega)]; exact (hv.2.2.2.2.1 j hj).2.2.2.2.2.2
  · rw [if_neg (by omega), if_neg (by omega)]; exact hv.2.2.2.2.2 s hs
theorem vw_3 {u : xm_U} {i : Nat} {d : Nat → Int32} (hv : vd u i d) {k : Nat} (hk : k < 6) (x : Int32) : vd (xm_us u i 3 k x) i (upd d (17 + k) x) := by
  refine ⟨fun h hh => ?_, fun h hh => ?_, fun h hh => ?_, ⟨?_, ?_, ?_, ?_, ?_⟩, fun j hj => ⟨?_, ?_, ?_, ?_, ?_, ?_, ?_⟩, fun s hs => ?_⟩ <;> rw [us_at] <;> unfold upd
  · rw [if_neg (by omega), if_neg (by omega)]; exact hv.1 h hh
  · rw [if_neg (by omega), if_neg (by omega)]; exact hv.2.1 h hh
  · by_cases e : h = k
    · rw [if_pos ⟨rfl, rfl, e⟩, if_pos (by omega)]
    · rw [if_neg (by omega), if_neg (by omega)]; exact hv.2.2.1 h hh
  · rw [if_neg (by omega), if_neg (by omega)]; exact hv.2.2.2.1.1
  · rw [if_neg (by omega), if_neg (by omega)]; exact hv.2.2.2.1.2.1
  · rw [if_neg (by omega), if_neg (by omega)]; exact hv.2.2.2.1.2.2.1
  · rw [if_neg (by omega), if_neg (by omega)]; exact hv.2.2.2.1.2.2.2.1
  · rw [if_neg (by omega), if_neg (by omega)]; exact hv.2.2.2.1.2.2.2.2
  · rw [if_neg (by omega), if_neg (by omega)]; exact (hv.2.2.2.2.1 j hj).1
  · rw [if_neg (by omega), if_neg (by omega)]; exact (hv.2.2.2.2.1 j hj).2.1
  · rw [if_neg (by omega), if_neg (by omega)]; exact (hv.2.2.2.2.1 j hj).2.2.1
  · rw [if_neg (by omega), if_neg (by omega)]; exact (hv.2.2.2.2.1 j hj).2.2.2.1
  · rw [if_neg (by omega), if_neg (by omega)]; exact (hv.2.2.2.2.1 j hj).2.2.2.2.1
  · rw [if_neg (by omega), if_neg (by omega)]; exact (hv.2.2.2.2.1 j hj).2.2.2.2.2.1
  · rw [if_neg (by omega), if_neg (by omega)]; exact (hv.2.2.2.2.1 j hj).2.2.2.2.2.2
  · rw [if_neg (by omega), if_neg (by omega)]; exact hv.2.2.2.2.2 s hs
theorem vw_9 {u : xm_U} {i : Nat} {d : Nat → Int32} (hv : vd u i d) {k : Nat} (hk : k < 8) (x : Int32) : vd (xm_us u i 9 k x) i (upd d (23 + k) x) := by
  refine ⟨fun h hh => ?_, fun h hh => ?_, fun h hh => ?_, ⟨?_, ?_, ?_, ?_, ?_⟩, fun j hj => ⟨?_, ?_, ?_, ?_, ?_, ?_, ?_⟩, fun s hs => ?_⟩ <;> rw [us_at] <;> unfold upd
  · rw [if_neg (by omega), if_neg (by omega)]; exact hv.1 h hh
  · rw [if_neg (by omega), if_neg (by omega)]; exact hv.2.1 h hh
  · rw [if_neg (by omega), if_neg (by omega)]; exact hv.2.2.1 h hh
  · rw [if_neg (by omega), if_neg (by omega)]; exact hv.2.2.2.1.1
  · rw [if_neg (by omega), if_neg (by omega)]; exact hv.2.2.2.1.2.1
  · rw [if_neg (by omega), if_neg (by omega)]; exact hv.2.2.2.1.2.2.1
  · rw [if_neg (by omega), if_neg (by omega)]; exact hv.2.2.2.1.2.2.2.1
  · rw [if_neg (by omega), if_neg (by omega)]; exact hv.2.2.2.1.2.2.2.2
  · by_cases e : j = k
    · rw [if_pos ⟨rfl, rfl, e⟩, if_pos (by omega)]
    · rw [if_neg (by omega), if_neg (by omega)]; exact (hv.2.2.2.2.1 j hj).1
  · rw [if_neg (by omega), if_neg (by omega)]; exact (hv.2.2.2.2.1 j hj).2.1
  · rw [if_neg (by omega), if_neg (by omega)]; exact (hv.2.2.2.2.1 j hj).2.2.1
  · rw [if_neg (by omega), if_neg (by omega)]; exact (hv.2.2.2.2.1 j hj).2.2.2.1
  · rw [if_neg (by omega), if_neg (by omega)]; exact (hv.2.2.2.2.1 j hj).2.2.2.2.1
  · rw [if_neg (by omega), if_neg (by omega)]; exact (hv.2.2.2.2.1 j hj).2.2.2.2.2.1
  · rw [if_neg (by omega), if_neg (by omega)]; exact (hv.2.2.2.2.1 j hj).2.2.2.2.2.2
  · rw [if_neg (by omega), if_neg (by omega)]; exact hv.2.2.2.2.2 s hs
theorem vw_10 {u : xm_U} {i : Nat} {d : Nat → Int32} (hv : vd u i d) {k : Nat} (hk : k < 8) (x : Int32) : vd (xm_us u i 10 k x) i (upd d (31 + k) x) := by
  refine ⟨fun h hh => ?_, fun h hh => ?_, fun h hh => ?_, ⟨?_, ?_, ?_, ?_, ?_⟩, fun j hj => ⟨?_, ?_, ?_, ?_, ?_, ?_, ?_⟩, fun s hs => ?_⟩ <;> rw [us_at] <;> unfold upd
  · rw [if_neg (by omega), if_neg (by omega)]; exact hv.1 h hh
  · rw [if_neg (by omega), if_neg (by omega)]; exact hv.2.1 h hh
  · rw [if_neg (by omega), if_neg (by omega)]; exact hv.2.2.1 h hh
  · rw [if_neg (by omega), if_neg (by omega)]; exact hv.2.2.2.1.1
  · rw [if_neg (by omega), if_neg (by omega)]; exact hv.2.2.2.1.2.1
  · rw [if_neg (by omega), if_neg (by omega)]; exact hv.2.2.2.1.2.2.1
  · rw [if_neg (by omega), if_neg (by omega)]; exact hv.2.2.2.1.2.2.2.1
  · rw [if_neg (by omega), if_neg (by omega)]; exact hv.2.2.2.1.2.2.2.2
  · rw [if_neg (by omega), if_neg (by omega)]; exact (hv.2.2.2.2.1 j hj).1
  · by_cases e : j = k
    · rw [if_pos ⟨rfl, rfl, e⟩, if_pos (by omega)]
    · rw [if_neg (by omega), if_neg (by omega)]; exact (hv.2.2.2.2.1 j hj).2.1
  · rw [if_neg (by omega), if_neg (by omega)]; exact (hv.2.2.2.2.1 j hj).2.2.1
  · rw [if_neg (by omega), if_neg (by omega)]; exact (hv.2.2.2.2.1 j hj).2.2.2.1
  · rw [if_neg (by omega), if_neg (by omega)]; exact (hv.2.2.2.2.1 j hj).2.2.2.2.1
  · rw [if_neg (by omega), if_neg (by omega)]; exact (hv.2.2.2.2.1 j hj).2.2.2.2.2.1
  · rw [if_neg (by omega), if_neg (by omega)]; exact (hv.2.2.2.2.1 j hj).2.2.2.2.2.2
  · rw [if_neg (by omega), if_neg (by omega)]; exact hv.2.2.2.2.2 s hs
theorem vw_11 {u : xm_U} {i : Nat} {d : Nat → Int32} (hv : vd u i d) {k : Nat} (hk : k < 8) (x : Int32) : vd (xm_us u i 11 k x) i (upd d (39 + k) x) := by
  refine ⟨fun h hh => ?_, fun h hh => ?_, fun h hh => ?_, ⟨?_, ?_, ?_, ?_, ?_⟩, fun j hj => ⟨?_, ?_, ?_, ?_, ?_, ?_, ?_⟩, fun s hs => ?_⟩ <;> rw [us_at] <;> unfold upd
  · rw [if_neg (by omega), if_neg (by omega)]; exact hv.1 h hh
  · rw [if_neg (by omega), if_neg (by omega)]; exact hv.2.1 h hh
  · rw [if_neg (by omega), if_neg (by omega)]; exact hv.2.2.1 h hh
  · rw [if_neg (by omega), if_neg (by omega)]; exact hv.2.2.2.1.1
  · rw [if_neg (by omega), if_neg (by omega)]; exact hv.2.2.2.1.2.1
  · rw [if_neg (by omega), if_neg (by omega)]; exact hv.2.2.2.1.2.2.1
  · rw [if_neg (by omega), if_neg (by omega)]; exact hv.2.2.2.1.2.2.2.1
  · rw [if_neg (by omega), if_neg (by omega)]; exact hv.2.2.2.1.2.2.2.2
  · rw [if_neg (by omega), if_neg (by omega)]; exact (hv.2.2.2.2.1 j hj).1
  · rw [if_neg (by omega), if_neg (by omega)]; exact (hv.2.2.2.2.1 j hj).2.1
  · by_cases e : j = k
    · rw [if_pos ⟨rfl, rfl, e⟩, if_pos (by omega)]
    · rw [if_neg (by omega), if_neg (by omega)]; exact (hv.2.2.2.2.1 j hj).2.2.1
  · rw [if_neg (by omega), if_neg (by omega)]; exact (hv.2.2.2.2.1 j hj).2.2.2.1
  · rw [if_neg (by omega), if_neg (by omega)]; exact (hv.2.2.2.2.1 j hj).2.2.2.2.1
  · rw [if_neg (by omega), if_neg (by omega)]; exact (hv.2.2.2.2.1 j hj).2.2.2.2.2.1
  · rw [if_neg (by omega), if_neg (by omega)]; exact (hv.2.2.2.2.1 j hj).2.2.2.2.2.2
  · rw [if_neg (by omega), if_neg (by omega)]; exact hv.2.2.2.2.2 s hs
theorem vw_12 {u : xm_U} {i : Nat} {d : Nat → Int32} (hv : vd u i d) {k : Nat} (hk : k < 8) (x : Int32) : vd (xm_us u i 12 k x) i (upd d (47 + k) x) := by
  refine ⟨fun h hh => ?_, fun h hh => ?_, fun h hh => ?_, ⟨?_, ?_, ?_, ?_, ?_⟩, fun j hj => ⟨?_, ?_, ?_, ?_, ?_, ?_, ?_⟩, fun s hs => ?_⟩ <;> rw [us_at] <;> unfold upd
  · rw [if_neg (by omega), if_neg (by omega)]; exact hv.1 h hh
  · rw [if_neg (by omega), if_neg (by omega)]; exact hv.2.1 h hh
  · rw [if_neg (by omega), if_neg (by omega)]; exact hv.2.2.1 h hh
  · rw [if_neg (by omega), if_neg (by omega)]; exact hv.2.2.2.1.1
  · rw [if_neg (by omega), if_neg (by omega)]; exact hv.2.2.2.1.2.1
  · rw [if_neg (by omega), if_neg (by omega)]; exact hv.2.2.2.1.2.2.1
  · rw [if_neg (by omega), if_neg (by omega)]; exact hv.2.2.2.1.2.2.2.1
  · rw [if_neg (by omega), if_neg (by omega)]; exact hv.2.2.2.1.2.2.2.2
  · rw [if_neg (by omega), if_neg (by omega)]; exact (hv.2.2.2.2.1 j hj).1
  · rw [if_neg (by omega), if_neg (by omega)]; exact (hv.2.2.2.2.1 j hj).2.1
  · rw [if_neg (by omega), if_neg (by omega)]; exact (hv.2.2.2.2.1 j hj).2.2.1
  · by_cases e : j = k
    · rw [if_pos ⟨rfl, rfl, e⟩, if_pos (by omega)]
    · rw [if_neg (by omega), if_neg (by omega)]; exact (hv.2.2.2.2.1 j hj).2.2.2.1
  · rw [if_neg (by omega), if_neg (by omega)]; exact (hv.2.2.2.2.1 j hj).2.2.2.2.1
  · rw [if_neg (by omega), if_neg (by omega)]; exact (hv.2.2.2.2.1 j hj).2.2.2.2.2.1
  · rw [if_neg (by omega), if_neg (by omega)]; exact (hv.2.2.2.2.1 j hj).2.2.2.2.2.2
  · rw [if_neg (by omega), if_neg (by omega)]; exact hv.2.2.2.2.2 s hs
theorem vw_13 {u : xm_U} {i : Nat} {d : Nat → Int32} (hv : vd u i d) {k : Nat} (hk : k < 8) (x : Int32) : vd (xm_us u i 13 k x) i (upd d (55 + k) x) := by
  refine ⟨fun h hh => ?_, fun h hh => ?_, fun h hh => ?_, ⟨?_, ?_, ?_, ?_, ?_⟩, fun j hj => ⟨?_, ?_, ?_, ?_, ?_, ?_, ?_⟩, fun s hs => ?_⟩ <;> rw [us_at] <;> unfold upd
  · rw [if_neg (by omega), if_neg (by omega)]; exact hv.1 h hh
  · rw [if_neg (by omega), if_neg (by omega)]; exact hv.2.1 h hh
  · rw [if_neg (by omega), if_neg (by omega)]; exact hv.2.2.1 h hh
  · rw [if_neg (by omega), if_neg (by omega)]; exact hv.2.2.2.1.1
  · rw [if_neg (by omega), if_neg (by omega)]; exact hv.2.2.2.1.2.1
  · rw [if_neg (by omega), if_neg (by omega)]; exact hv.2.2.2.1.2.2.1
  · rw [if_neg (by omega), if_neg (by omega)]; exact hv.2.2.2.1.2.2.2.1
  · rw [if_neg (by omega), if_neg (by omega)]; exact hv.2.2.2.1.2.2.2.2
  · rw [if_neg (by omega), if_neg (by omega)]; exact (hv.2.2.2.2.1 j hj).1
  · rw [if_neg (by omega), if_neg (by omega)]; exact (hv.2.2.2.2.1 j hj).2.1
  · rw [if_neg (by omega), if_neg (by omega)]; exact (hv.2.2.2.2.1 j hj).2.2.1
  · rw [if_neg (by omega), if_neg (by omega)]; exact (hv.2.2.2.2.1 j hj).2.2.2.1
  · by_cases e : j = k
    · rw [if_pos ⟨rfl, rfl, e⟩, if_pos (by omega)]
    · rw [if_neg (by omega), if_neg (by omega)]; exact (hv.2.2.2.2.1 j hj).2.2.2.2.1
  · rw [if_neg (by omega), if_neg (by omega)]; exact (hv.2.2.2.2.1 j hj).2.2.2.2.2.1
  · rw [if_neg (by omega), if_neg (by omega)]; exact (hv.2.2.2.2.1 j hj).2.2.2.2.2.2
  · rw [if_neg (by omega), if_neg (by omega)]; exact hv.2.2.2.2.2 s hs
theorem vw_14 {u : xm_U} {i : Nat} {d : Nat → Int32} (hv : vd u i d) {k : Nat} (hk : k < 8) (x : Int32) : vd (xm_us u i 14 k x) i (upd d (63 + k) x) := by
  refine ⟨fun h hh => ?_, fun h hh => ?_, fun h hh => ?_, ⟨?_, ?_, ?_, ?_, ?_⟩, fun j hj => ⟨?_, ?_, ?_, ?_, ?_, ?_, ?_⟩, fun s hs => ?_⟩ <;> rw [us_at] <;> unfold upd
  · rw [if_neg (by omega), if_neg (by omega)]; exact hv.1 h hh
  · rw [if_neg (by omega), if_neg (by omega)]; exact hv.2.1 h hh
  · rw [if_neg (by omega), if_neg (by omega)]; exact hv.2.2.1 h hh
  · rw [if_neg (by omega), if_neg (by omega)]; exact hv.2.2.2.1.1
  · rw [if_neg (by omega), if_neg (by omega)]; exact hv.2.2.2.1.2.1
  · rw [if_neg (by omega), if_neg (by omega)]; exact hv.2.2.2.1.2.2.1
  · rw [if_neg (by omega), if_neg (by omega)]; exact hv.2.2.2.1.2.2.2.1
  · rw [if_neg (by omega), if_neg (by omega)]; exact hv.2.2.2.1.2.2.2.2
  · rw [if_neg (by omega), if_neg (by omega)]; exact (hv.2.2.2.2.1 j hj).1
  · rw [if_neg (by omega), if_neg (by omega)]; exact (hv.2.2.2.2.1 j hj).2.1
  · rw [if_neg (by omega), if_neg (by omega)]; exact (hv.2.2.2.2.1 j hj).2.2.1
  · rw [if_neg (by omega), if_neg (by omega)]; exact (hv.2.2.2.2.1 j hj).2.2.2.1
  · rw [if_neg (by omega), if_neg (by omega)]; exact (hv.2.2.2.2.1 j hj).2.2.2.2.1
  · by_cases e : j = k
    · rw [if_pos ⟨rfl, rfl, e⟩, if_pos (by omega)]
    · rw [if_neg (by omega), if_neg (by omega)]; exact (hv.2.2.2.2.1 j hj).2.2.2.2.2.1
  · rw [if_neg (by omega), if_neg (by omega)]; exact (hv.2.2.2.2.1 j hj).2.2.2.2.2.2
  · rw [if_neg (by omega), if_neg (by omega)]; exact hv.2.2.2.2.2 s hs
theorem vw_15 {u : xm_U} {i : Nat} {d : Nat → Int32} (hv : vd u i d) {k : Nat} (hk : k < 8) (x : Int32) : vd (xm_us u i 15 k x) i (upd d (71 + k) x) := by
  refine ⟨fun h hh => ?_, fun h hh => ?_, fun h hh => ?_, ⟨?_, ?_, ?_, ?_, ?_⟩, fun j hj => ⟨?_, ?_, ?_, ?_, ?_, ?_, ?_⟩, fun s hs => ?_⟩ <;> rw [us_at] <;> unfold upd
  · rw [if_neg (by omega), if_neg (by omega)]; exact hv.1 h hh
  · rw [if_neg (by omega), if_neg (by omega)]; exact hv.2.1 h hh
  · rw [if_neg (by omega), if_neg (by omega)]; exact hv.2.2.1 h hh
  · rw [if_neg (by omega), if_neg (by omega)]; exact hv.2.2.2.1.1
  · rw [if_neg (by omega), if_neg (by omega)]; exact hv.2.2.2.1.2.1
  · rw [if_neg (by omega), if_neg (by omega)]; exact hv.2.2.2.1.2.2.1
  · rw [if_neg (by omega), if_neg (by omega)]; exact hv.2.2.2.1.2.2.2.1
  · rw [if_neg (by omega), if_neg (by omega)]; exact hv.2.2.2.1.2.2.2.2
  · rw [if_neg (by omega), if_neg (by omega)]; exact (hv.2.2.2.2.1 j hj).1
  · rw [if_neg (by omega), if_neg (by omega)]; exact (hv.2.2.2.2.1 j hj).2.1
  · rw [if_neg (by omega), if_neg (by omega)]; exact (hv.2.2.2.2.1 j hj).2.2.1
  · rw [if_neg (by omega), if_neg (by omega)]; exact (hv.2.2.2.2.1 j hj).2.2.2.1
  · rw [if_neg (by omega), if_neg (by omega)]; exact (hv.2.2.2.2.1 j hj).2.2.2.2.1
  · rw [if_neg (by omega), if_neg (by omega)]; exact (hv.2.2.2.2.1 j hj).2.2.2.2.2.1
  · by_cases e : j = k
    · rw [if_pos ⟨rfl, rfl, e⟩, if_pos (by omega)]
    · rw [if_neg (by omega), if_neg (by omega)]; exact (hv.2.2.2.2.1 j hj).2.2.2.2.2.2
  · rw [if_neg (by omega), if_neg (by omega)]; exact hv.2.2.2.2.2 s hs
theorem vw_f3 {u : xm_U} {i : Nat} {d : Nat → Int32} (hv : vd u i d)  (x : Int32) : vd (xm_us u i 0 3 x) i (upd d 4 x) := by
  refine ⟨fun h hh => ?_, fun h hh => ?_, fun h hh => ?_, ⟨?_, ?_, ?_, ?_, ?_⟩, fun j hj => ⟨?_, ?_, ?_, ?_, ?_, ?_, ?_⟩, fun s hs => ?_⟩ <;> rw [us_at] <;> unfold upd
  · rw [if_neg (by omega), if_neg (by omega)]; exact hv.1 h hh
  · rw [if_neg (by omega), if_neg (by omega)]; exact hv.2.1 h hh
  · rw [if_neg (by omega), if_neg (by omega)]; exact hv.2.2.1 h hh
  · rw [if_pos ⟨rfl, rfl, rfl⟩, if_pos rfl]
  · rw [if_neg (by omega), if_neg (by omega)]; exact hv.2.2.2.1.2.1
  · rw [if_neg (by omega), if_neg (by omega)]; exact hv.2.2.2.1.2.2.1
  · rw [if_neg (by omega), if_neg (by omega)]; exact hv.2.2.2.1.2.2.2.1
  · rw [if_neg (by omega), if_neg (by omega)]; exact hv.2.2.2.1.2.2.2.2
  · rw [if_neg (by omega), if_neg (by omega)]; exact (hv.2.2.2.2.1 j hj).1
  · rw [if_neg (by omega), if_neg (by omega)]; exact (hv.2.2.2.2.1 j hj).2.1
  · rw [if_neg (by omega), if_neg (by omega)]; exact (hv.2.2.2.2.1 j hj).2.2.1
  · rw [if_neg (by omega), if_neg (by omega)]; exact (hv.2.2.2.2.1 j hj).2.2.2.1
  · rw [if_neg (by omega), if_neg (by omega)]; exact (hv.2.2.2.2.1 j hj).2.2.2.2.1
  · rw [if_neg (by omega), if_neg (by omega)]; exact (hv.2.2.2.2.1 j hj).2.2.2.2.2.1
  · rw [if_neg (by omega), if_neg (by omega)]; exact (hv.2.2.2.2.1 j hj).2.2.2.2.2.2
  · rw [if_neg (by omega), if_neg (by omega)]; exact hv.2.2.2.2.2 s hs
theorem vw_f4 {u : xm_U} {i : Nat} {d : Nat → Int32} (hv : vd u i d)  (x : Int32) : vd (xm_us u i 0 4 x) i (upd d 3 x) := by
  refine ⟨fun h hh => ?_, fun h hh => ?_, fun h hh => ?_, ⟨?_, ?_, ?_, ?_, ?_⟩, fun j hj => ⟨?_, ?_, ?_, ?_, ?_, ?_, ?_⟩, fun s hs => ?_⟩ <;> rw [us_at] <;> unfold upd
  · rw [if_neg (by omega), if_neg (by omega)]; exact hv.1 h hh
  · rw [if_neg (by omega), if_neg (by omega)]; exact hv.2.1 h hh
  · rw [if_neg (by omega), if_neg (by omega)]; exact hv.2.2.1 h hh
  · rw [if_neg (by omega), if_neg (by omega)]; exact hv.2.2.2.1.1
  · rw [if_pos ⟨rfl, rfl, rfl⟩, if_pos rfl]
  · rw [if_neg (by omega), if_neg (by omega)]; exact hv.2.2.2.1.2.2.1
  · rw [if_neg (by omega), if_neg (by omega)]; exact hv.2.2.2.1.2.2.2.1
  · rw [if_neg (by omega), if_neg (by omega)]; exact hv.2.2.2.1.2.2.2.2
  · rw [if_neg (by omega), if_neg (by omega)]; exact (hv.2.2.2.2.1 j hj).1
  · rw [if_neg (by omega), if_neg (by omega)]; exact (hv.2.2.2.2.1 j hj).2.1
  · rw [if_neg (by omega), if_neg (by omega)]; exact (hv.2.2.2.2.1 j hj).2.2.1
  · rw [if_neg (by omega), if_neg (by omega)]; exact (hv.2.2.2.2.1 j hj).2.2.2.1
  · rw [if_neg (by omega), if_neg (by omega)]; exact (hv.2.2.2.2.1 j hj).2.2.2.2.1
  · rw [if_neg (by omega), if_neg (by omega)]; exact (hv.2.2.2.2.1 j hj).2.2.2.2.2.1
  · rw [if_neg (by omega), if_neg (by omega)]; exact (hv.2.2.2.2.1 j hj).2.2.2.2.2.2
  · rw [if_neg (by omega), if_neg (by omega)]; exact hv.2.2.2.2.2 s hs
theorem vw_f5 {u : xm_U} {i : Nat} {d : Nat → Int32} (hv : vd u i d)  (x : Int32) : vd (xm_us u i 0 5 x) i (upd d 1 x) := by
  refine ⟨fun h hh => ?_, fun h hh => ?_, fun h hh => ?_, ⟨?_, ?_, ?_, ?_, ?_⟩, fun j hj => ⟨?_, ?_, ?_, ?_, ?_, ?_, ?_⟩, fun s hs => ?_⟩ <;> rw [us_at] <;> unfold upd
  · rw [if_neg (by omega), if_neg (by omega)]; exact hv.1 h hh
  · rw [if_neg (by omega), if_neg (by omega)]; exact hv.2.1 h hh
  · rw [if_neg (by omega), if_neg (by omega)]; exact hv.2.2.1 h hh
  · rw [if_neg (by omega), if_neg (by omega)]; exact hv.2.2.2.1.1
  · rw [if_neg (by omega), if_neg (by omega)]; exact hv.2.2.2.1.2.1
  · rw [if_pos ⟨rfl, rfl, rfl⟩, if_pos rfl]
  · rw [if_neg (by omega), if_neg (by omega)]; exact hv.2.2.2.1.2.2.2.1
  · rw [if_neg (by omega), if_neg (by omega)]; exact hv.2.2.2.1.2.2.2.2
  · rw [if_neg (by omega), if_neg (by omega)]; exact (hv.2.2.2.2.1 j hj).1
  · rw [if_neg (by omega), if_neg (by omega)]; exact (hv.2.2.2.2.1 j hj).2.1
  · rw [if_neg (by omega), if_neg (by omega)]; exact (hv.2.2.2.2.1 j hj).2.2.1
  · rw [if_neg (by omega), if_neg (by omega)]; exact (hv.2.2.2.2.1 j hj).2.2.2.1
  · rw [if_neg (by omega), if_neg (by omega)]; exact (hv.2.2.2.2.1 j hj).2.2.2.2.1
  · rw [if_neg (by omega), if_neg (by omega)]; exact (hv.2.2.2.2.1 j hj).2.2.2.2.2.1
  · rw [if_neg (by omega), if_neg (by omega)]; exact (hv.2.2.2.2.1 j hj).2.2.2.2.2.2
  · rw [if_neg (by omega), if_neg (by omega)]; exact hv.2.2.2.2.2 s hs
theorem vw_f6 {u : xm_U} {i : Nat} {d : Nat → Int32} (hv : vd u i d)  (x : Int32) : vd (xm_us u i 0 6 x) i (upd d 2 x) := by
  refine ⟨fun h hh => ?_, fun h hh => ?_, fun h hh => ?_, ⟨?_, ?_, ?_, ?_, ?_⟩, fun j hj => ⟨?_, ?_, ?_, ?_, ?_, ?_, ?_⟩, fun s hs => ?_⟩ <;> rw [us_at] <;> unfold upd
  · rw [if_neg (by omega), if_neg (by omega)]; exact hv.1 h hh
  · rw [if_neg (by omega), if_neg (by omega)]; exact hv.2.1 h hh
  · rw [if_neg (by omega), if_neg (by omega)]; exact hv.2.2.1 h hh
  · rw [if_neg (by omega), if_neg (by omega)]; exact hv.2.2.2.1.1
  · rw [if_neg (by omega), if_neg (by omega)]; exact hv.2.2.2.1.2.1
  · rw [if_neg (by omega), if_neg (by omega)]; exact hv.2.2.2.1.2.2.1
  · rw [if_pos ⟨rfl, rfl, rfl⟩, if_pos rfl]
  · rw [if_neg (by omega), if_neg (by omega)]; exact hv.2.2.2.1.2.2.2.2
  · rw [if_neg (by omega), if_neg (by omega)]; exact (hv.2.2.2.2.1 j hj).1
  · rw [if_neg (by omega), if_neg (by omega)]; exact (hv.2.2.2.2.1 j hj).2.1
  · rw [if_neg (by omega), if_neg (by omega)]; exact (hv.2.2.2.2.1 j hj).2.2.1
  · rw [if_neg (by omega), if_neg (by omega)]; exact (hv.2.2.2.2.1 j hj).2.2.2.1
  · rw [if_neg (by omega), if_neg (by omega)]; exact (hv.2.2.2.2.1 j hj).2.2.2.2.1
  · rw [if_neg (by omega), if_neg (by omega)]; exact (hv.2.2.2.2.1 j hj).2.2.2.2.2.1
  · rw [if_neg (by omega), if_neg (by omega)]; exact (hv.2.2.2.2.1 j hj).2.2.2.2.2.2
  · rw [if_neg (by omega), if_neg (by omega)]; exact hv.2.2.2.2.2 s hs
theorem vw_f7 {u : xm_U} {i : Nat} {d : Nat → Int32} (hv : vd u i d)  (x : Int32) : vd (xm_us u i 0 7 x) i (upd d 0 x) := by
  refine ⟨fun h hh => ?_, fun h hh => ?_, fun h hh => ?_, ⟨?_, ?_, ?_, ?_, ?_⟩, fun j hj => ⟨?_, ?_, ?_, ?_, ?_, ?_, ?_⟩, fun s hs => ?_⟩ <;> rw [us_at] <;> unfold upd
  · rw [if_neg (by omega), if_neg (by omega)]; exact hv.1 h hh
  · rw [if_neg (by omega), if_neg (by omega)]; exact hv.2.1 h hh
  · rw [if_neg (by omega), if_neg (by omega)]; exact hv.2.2.1 h hh
  · rw [if_neg (by omega), if_neg (by omega)]; exact hv.2.2.2.1.1
  · rw [if_neg (by omega), if_neg (by omega)]; exact hv.2.2.2.1.2.1
  · rw [if_neg (by omega), if_neg (by omega)]; exact hv.2.2.2.1.2.2.1
  · rw [if_neg (by omega), if_neg (by omega)]; exact hv.2.2.2.1.2.2.2.1
  · rw [if_pos ⟨rfl, rfl, rfl⟩, if_pos rfl]
  · rw [if_neg (by omega), if_neg (by omega)]; exact (hv.2.2.2.2.1 j hj).1
  · rw [if_neg (by omega), if_neg (by omega)]; exact (hv.2.2.2.2.1 j hj).2.1
  · rw [if_neg (by omega), if_neg (by omega)]; exact (hv.2.2.2.2.1 j hj).2.2.1
  · rw [if_neg (by omega), if_neg (by omega)]; exact (hv.2.2.2.2.1 j hj).2.2.2.1
  · rw [if_neg (by omega), if_neg (by omega)]; exact (hv.2.2.2.2.1 j hj).2.2.2.2.1
  · rw [if_neg (by omega), if_neg (by omega)]; exact (hv.2.2.2.2.1 j hj).2.2.2.2.2.1
  · rw [if_neg (by omega), if_neg (by omega)]; exact (hv.2.2.2.2.1 j hj).2.2.2.2.2.2
  · rw [if_neg (by omega), if_neg (by omega)]; exact hv.2.2.2.2.2 s hs
theorem vw_16 {u : xm_U} {i : Nat} {d : Nat → Int32} (hv : vd u i d) {k : Nat} (hk : k < 10) (x : Int32) : vd (xm_us u i 16 k x) i (upd d (79 + k) (x + 1)) := by
  refine ⟨fun h hh => ?_, fun h hh => ?_, fun h hh => ?_, ⟨?_, ?_, ?_, ?_, ?_⟩, fun j hj => ⟨?_, ?_, ?_, ?_, ?_, ?_, ?_⟩, fun s hs => ?_⟩ <;> rw [us_at] <;> unfold upd
  · rw [if_neg (by omega), if_neg (by omega)]; exact hv.1 h hh
  · rw [if_neg (by omega), if_neg (by omega)]; exact hv.2.1 h hh
  · rw [if_neg (by omega), if_neg (by omega)]; exact hv.2.2.1 h hh
  · rw [if_neg (by omega), if_neg (by omega)]; exact hv.2.2.2.1.1
  · rw [if_neg (by omega), if_neg (by omega)]; exact hv.2.2.2.1.2.1
  · rw [if_neg (by omega), if_neg (by omega)]; exact hv.2.2.2.1.2.2.1
  · rw [if_neg (by omega), if_neg (by omega)]; exact hv.2.2.2.1.2.2.2.1
  · rw [if_neg (by omega), if_neg (by omega)]; exact hv.2.2.2.1.2.2.2.2
  · rw [if_neg (by omega), if_neg (by omega)]; exact (hv.2.2.2.2.1 j hj).1
  · rw [if_neg (by omega), if_neg (by omega)]; exact (hv.2.2.2.2.1 j hj).2.1
  · rw [if_neg (by omega), if_neg (by omega)]; exact (hv.2.2.2.2.1 j hj).2.2.1
  · rw [if_neg (by omega), if_neg (by omega)]; exact (hv.2.2.2.2.1 j hj).2.2.2.1
  · rw [if_neg (by omega), if_neg (by omega)]; exact (hv.2.2.2.2.1 j hj).2.2.2.2.1
  · rw [if_neg (by omega), if_neg (by omega)]; exact (hv.2.2.2.2.1 j hj).2.2.2.2.2.1
  · rw [if_neg (by omega), if_neg (by omega)]; exact (hv.2.2.2.2.1 j hj).2.2.2.2.2.2
  · by_cases e : s = k
    · rw [if_pos ⟨rfl, rfl, e⟩, if_pos (by omega)]; simp
    · rw [if_neg (by omega), if_neg (by omega)]; exact hv.2.2.2.2.2 s hs
/-! bounds of what a year adds -/
theorem min_held {v : Int32} (c : Int32) (h : 0 ≤ v) : (if v < c then v else c) = held v 0 c := by
  unfold held
  rw [if_pos h]
  by_cases h1 : v < c
  · rw [if_pos h1, if_pos (by rw [il_lt] at h1; rw [il_le]; omega)]
  · rw [if_neg h1]
    by_cases h2 : v ≤ c
    · rw [if_pos h2]
      apply Int32.toInt_inj.mp
      rw [il_lt] at h1
      rw [il_le] at h2
      omega
    · rw [if_neg h2]
theorem mm_held (v : Int32) : (if (0 : Int32) < (if v < 99 then v else 99) then (if v < 99 then v else 99) else 0) = held v 0 99 := by
  by_cases h : 0 ≤ v
  · rw [min_held 99 h]
    have hb := (held_bd v 99 (by decide)).1
    by_cases h2 : 0 < held v 0 99
    · rw [if_pos h2]
    · rw [if_neg h2]
      apply Int32.toInt_inj.mp
      rw [il_lt] at h2
      rw [il_le] at hb
      omega
  · have h1 : v < 99 := by rw [il_le] at h; rw [il_lt, show (99 : Int32).toInt = 99 from rfl]; rw [show (0 : Int32).toInt = 0 from rfl] at h; omega
    rw [if_pos h1]
    unfold held
    rw [if_neg h]
    exact if_neg (fun z => h (by rw [il_lt] at z; rw [il_le]; omega))
theorem nn_add {a b : Nat} (h : a + b < 2 ^ 31) : 0 ≤ nI a + nI b := by rw [nI_add]; exact nI_pos' h
theorem ones_bd : ∀ s, s < 256 → ∀ k, k < 8 → decide (0 ≤ ones (nI s &&& (((1 : Int32) <<< (nI k &&& 31)) ^^^ (-1 : Int32))) ∧ ones (nI s &&& (((1 : Int32) <<< (nI k &&& 31)) ^^^ (-1 : Int32))) ≤ 8) = true := by decide +kernel
theorem mapl_bd : ∀ l, l < 10 → decide (0 ≤ mapl (nI l) ∧ mapl (nI l) ≤ 9) = true := by decide +kernel
theorem hears_nn {d : Nat → Int32} (hd : inv d) {k : Nat} (hk : k < 8) : ∃ n, n ≤ 100 ∧ hears d k = nI n := by
  obtain ⟨l, hl, el⟩ := lo_bd hd hk
  have hb0 : 0 ≤ mapl (nI l) ∧ mapl (nI l) ≤ 9 := of_decide_eq_true (mapl_bd l hl)
  obtain ⟨m, hm, em⟩ := bd_nI (n := 9) (by decide) hb0
  obtain ⟨e1, e2⟩ := inside_B hd (d (31 + k))
  have hb1 : 0 ≤ ones (nI (insB d (d (31 + k)) (nN d)) &&& (((1 : Int32) <<< (nI k &&& 31)) ^^^ (-1 : Int32))) ∧ ones (nI (insB d (d (31 + k)) (nN d)) &&& (((1 : Int32) <<< (nI k &&& 31)) ^^^ (-1 : Int32))) ≤ 8 := of_decide_eq_true (ones_bd _ e2 k hk)
  obtain ⟨q, hq, eq⟩ := bd_nI (n := 8) (by decide) hb1
  unfold hears
  rw [el, em, e1, eq]
  by_cases c1 : d (23 + k) = 1
  · rw [if_pos c1]; exact ⟨2 * l, by omega, pk_mul 2 l⟩
  rw [if_neg c1]
  by_cases c2 : d (23 + k) = 2
  · rw [if_pos c2]; exact ⟨m, by omega, rfl⟩
  rw [if_neg c2]
  by_cases c3 : d (23 + k) = 3
  · rw [if_pos c3]; exact ⟨m + q, by omega, nI_add m q⟩
  rw [if_neg c3]
  by_cases c4 : d (23 + k) = 4
  · rw [if_pos c4]; exact ⟨1, by omega, rfl⟩
  rw [if_neg c4]
  by_cases c5 : d (23 + k) = 5
  · rw [if_pos c5]
    split
    · exact ⟨l, by omega, rfl⟩
    · exact ⟨0, by omega, rfl⟩
  rw [if_neg c5]
  by_cases c6 : d (23 + k) = 6
  · rw [if_pos c6]
    by_cases c7 : nI l = 0
    · rw [if_neg (fun z => z c7)]; exact ⟨0, by omega, rfl⟩
    · rw [if_pos c7]
      have : l ≠ 0 := fun z => c7 (by rw [z]; rfl)
      refine ⟨2 * l - 1, by omega, ?_⟩
      rw [show (2 : Int32) = nI 2 from rfl, pk_mul, show (1 : Int32) = nI 1 from rfl, pk_sub (by omega)]
  · rw [if_neg c6]; exact ⟨l, by omega, rfl⟩
theorem splp_nn (d : Nat → Int32) (k : Nat) : ∃ n, n ≤ 1 ∧ splp d k = nI n := by
  unfold splp
  split
  · exact ⟨0, by omega, rfl⟩
  · split
    · exact ⟨0, by omega, rfl⟩
    · exact ⟨1, by omega, rfl⟩
theorem splits_nn {d : Nat → Int32} (hd : inv d) (k : Nat) : ∃ n, n ≤ 100 ∧ splits d k = nI n := by
  obtain ⟨y, hy, ey⟩ := inv_Y hd
  obtain ⟨m, hm, em⟩ := splp_nn d k
  unfold splits
  rw [em, ey]
  split
  · exact ⟨0, by omega, rfl⟩
  · split
    · refine ⟨y % 2, by omega, ?_⟩
      exact pk_rem (d := 2) (by omega) (by decide) (by decide)
    · split
      · split
        · exact ⟨m, by omega, Int32.add_zero _⟩
        · exact ⟨m + 1, by omega, nI_1 m⟩
      · exact ⟨m, by omega, rfl⟩
theorem fetches_nn {d : Nat → Int32} (k : Nat) : ∃ n, n ≤ 5000 ∧ fetches d k = nI n := by
  obtain ⟨m, hm, em⟩ := bd_nI (n := 999) (by decide) (held_bd ((d (39 + k) / 10 + d (47 + k)) - 5 * d (55 + k)) 999 (by decide))
  have em : fetp d k = nI m := em
  unfold fetches
  rw [em]
  split
  · exact ⟨2 * m, by omega, pk_mul 2 m⟩
  split
  · exact ⟨m + 10, by omega, nI_add m 10⟩
  split
  · exact ⟨m + 10, by omega, nI_add m 10⟩
  split
  · refine ⟨3 * (m + 10), by omega, ?_⟩
    rw [show nI m + 10 = nI (m + 10) from nI_add m 10]
    exact pk_mul 3 (m + 10)
  split
  · exact ⟨1, by omega, rfl⟩
  split
  · exact ⟨2 * m, by omega, pk_mul 2 m⟩
  · exact ⟨m, by omega, rfl⟩
theorem nn_of {d : Nat → Int32} (hd : inv d) {k : Nat} (hk : k < 8) : (∃ n, n ≤ 9999 ∧ d (39 + k) = nI n) ∧ (∃ n, n ≤ 9999 ∧ d (55 + k) = nI n) ∧ (∃ n, n ≤ 9999 ∧ d (63 + k) = nI n) ∧ (∃ n, n ≤ 9999 ∧ d (71 + k) = nI n) := by
  obtain ⟨a, ha, ea⟩ := bd_nI (n := 999) (by decide) ((okb_39 hk _).mp (hd.2.1 (39 + k) (by omega) (by omega)))
  obtain ⟨b, hb, eb⟩ := bd_nI (n := 9) (by decide) ((okb_55 hk _).mp (hd.2.1 (55 + k) (by omega) (by omega)))
  obtain ⟨c, hc, ec⟩ := bd_nI (n := 9999) (by decide) ((okb_63 hk _).mp (hd.2.1 (63 + k) (by omega) (by omega)))
  obtain ⟨e, he, ee⟩ := bd_nI (n := 9999) (by decide) ((okb_71 hk _).mp (hd.2.1 (71 + k) (by omega) (by omega)))
  exact ⟨⟨a, by omega, ea⟩, ⟨b, by omega, eb⟩, ⟨c, hc, ec⟩, ⟨e, he, ee⟩⟩
theorem v_grow {u : xm_U} {i : Nat} {d : Nat → Int32} (hc : xm_cls i = 2) (hv : vd u i d) (hd : inv d) {k : Nat} (hk : k < nN d) : ∃ u', xm_C 34 [xv_r i 0, xv_i (nI k)] u = some (none, u') ∧ vd u' i (grow d k) ∧ oth u u' i := by
  have k8 : k < 8 := by have := (inv_nN hd).1; omega
  have k1 : (nI k).toNatClampNeg = k := nI_clamp (by omega)
  have g11 : xm_in i 11 (nI k) := v_in hc (n := 8) rfl k8 (by decide)
  have g12 : xm_in i 12 (nI k) := v_in hc (n := 8) rfl k8 (by decide)
  have g13 : xm_in i 13 (nI k) := v_in hc (n := 8) rfl k8 (by decide)
  have g14 : xm_in i 14 (nI k) := v_in hc (n := 8) rfl k8 (by decide)
  obtain ⟨a, ha, ea⟩ := hears_nn hd k8
  obtain ⟨b, hb, eb⟩ := splits_nn hd k
  obtain ⟨⟨n1, hn1, en1⟩, ⟨n2, hn2, en2⟩, ⟨n3, hn3, en3⟩, -⟩ := nn_of hd k8
  have p1 : 0 ≤ d (39 + k) + hears d k := by rw [en1, ea]; exact nn_add (by omega)
  have p2 : 0 ≤ d (55 + k) + splits d k := by rw [en2, eb]; exact nn_add (by omega)
  have p3 : 0 ≤ d (63 + k) + 1 := by rw [en3, show (1 : Int32) = nI 1 from rfl]; exact nn_add (by omega)
  have w1 := vw_11 hv k8 (held (d (39 + k) + hears d k) 0 999)
  have w2 := vw_12 w1 k8 (held (d (47 + k) + follows d k) 0 99)
  have w3 := vw_13 w2 k8 (held (d (55 + k) + splits d k) 0 9)
  have w4 := vw_14 w3 k8 (held (d (63 + k) + 1) 0 9999)
  refine ⟨xm_us (xm_us (xm_us (xm_us u i 11 k (held (d (39 + k) + hears d k) 0 999)) i 12 k (held (d (47 + k) + follows d k) 0 99)) i 13 k (held (d (55 + k) + splits d k) 0 9)) i 14 k (held (d (63 + k) + 1) 0 9999), ?_, ?_, oth_tr (oth_tr (oth_tr (oth_us _ _ _ _ _) (oth_us _ _ _ _ _)) (oth_us _ _ _ _ _)) (oth_us _ _ _ _ _)⟩
  rotate_left
  · have e : grow d k = upd (upd (upd (upd d (39 + k) (held (d (39 + k) + hears d k) 0 999)) (47 + k) (held (d (47 + k) + follows d k) 0 99)) (55 + k) (held (d (55 + k) + splits d k) 0 9)) (63 + k) (held (d (63 + k) + 1) 0 9999) := by
      unfold grow ad1
      have q1 : ∀ x, upd d (39 + k) x (47 + k) = d (47 + k) := fun x => upd_ne (by omega)
      have q2 : ∀ x y, upd (upd d (39 + k) x) (47 + k) y (55 + k) = d (55 + k) := fun x y => by rw [upd_ne (by omega), upd_ne (by omega)]
      have q3 : ∀ x y z, upd (upd (upd d (39 + k) x) (47 + k) y) (55 + k) z (63 + k) = d (63 + k) := fun x y z => by rw [upd_ne (by omega), upd_ne (by omega), upd_ne (by omega)]
      rw [q1, q2, q3]
    rw [e]
    exact w4
  · rw [xe_X2_grow]
    refine xg hc (xbi (v_hearing hc hv hd hk) (xg hc (xbi (v_following hc hv hd hk) (xg hc (xbi (v_splitting hc hv hd hk) ?_)))))
    rw [k1, (hv.2.2.2.2.1 k k8).2.2.1, min_held 999 p1]
    refine xg hc (xg hc (xg g11 (xg g11 (xlt ?_))))
    rw [(w1.2.2.2.2.1 k k8).2.2.2.1, mm_held, upd_ne (by omega)]
    refine xg hc (xg hc (xg g12 (xg g12 (xlt ?_))))
    rw [(w2.2.2.2.2.1 k k8).2.2.2.2.1, upd_ne (by omega), upd_ne (by omega), min_held 9 p2]
    refine xg hc (xg hc (xg g13 (xg g13 (xlt ?_))))
    rw [(w3.2.2.2.2.1 k k8).2.2.2.2.2.1, upd_ne (by omega), upd_ne (by omega), upd_ne (by omega), min_held 9999 p3]
    exact xg hc (xg hc (xg g14 (xg g14 rfl)))
theorem v_offer {u : xm_U} {i : Nat} {d : Nat → Int32} (hc : xm_cls i = 2) (hv : vd u i d) (hd : inv d) {k : Nat} (hk : k < nN d) : ∃ u', xm_C 36 [xv_r i 0, xv_i (nI k)] u = some (none, u') ∧ vd u' i (offer d k) ∧ oth u u' i := by
  have k8 : k < 8 := by have := (inv_nN hd).1; omega
  have k1 : (nI k).toNatClampNeg = k := nI_clamp (by omega)
  have g11 : xm_in i 11 (nI k) := v_in hc (n := 8) rfl k8 (by decide)
  have g12 : xm_in i 12 (nI k) := v_in hc (n := 8) rfl k8 (by decide)
  have g13 : xm_in i 13 (nI k) := v_in hc (n := 8) rfl k8 (by decide)
  have g14 : xm_in i 14 (nI k) := v_in hc (n := 8) rfl k8 (by decide)
  have g15 : xm_in i 15 (nI k) := v_in hc (n := 8) rfl k8 (by decide)
  by_cases hr : ringsP d k
  · obtain ⟨a, ha, ea⟩ := fetches_nn (d := d) k
    obtain ⟨-, -, -, ⟨n4, hn4, en4⟩⟩ := nn_of hd k8
    obtain ⟨n3, hn3, en3⟩ := bd_nI (n := 99999) (by decide) ((okb_3 _).mp (hd.2.1 3 (by decide) (by decide)))
    have p1 : 0 ≤ d 3 + fetches d k := by rw [en3, ea]; exact nn_add (by omega)
    have p2 : 0 ≤ d (71 + k) + 1 := by rw [en4, show (1 : Int32) = nI 1 from rfl]; exact nn_add (by omega)
    have w1 := vw_f4 hv (held (d 3 + fetches d k) 0 99999)
    have w2 := vw_15 w1 k8 (held (d (71 + k) + 1) 0 9999)
    have w6 := vw_14 (vw_13 (vw_12 (vw_11 w2 k8 0) k8 0) k8 0) k8 0
    refine ⟨xm_us (xm_us (xm_us (xm_us (xm_us (xm_us u i 0 4 (held (d 3 + fetches d k) 0 99999)) i 15 k (held (d (71 + k) + 1) 0 9999)) i 11 k 0) i 12 k 0) i 13 k 0) i 14 k 0, ?_, ?_, oth_tr (oth_tr (oth_tr (oth_tr (oth_tr (oth_us _ _ _ _ _) (oth_us _ _ _ _ _)) (oth_us _ _ _ _ _)) (oth_us _ _ _ _ _)) (oth_us _ _ _ _ _)) (oth_us _ _ _ _ _)⟩
    rotate_left
    · rw [offer_t hr]
      unfold ad1
      rw [show ∀ x, upd d 3 x (71 + k) = d (71 + k) from fun x => upd_ne (by omega)]
      exact w6
    · rw [xe_X2_offer]
      refine xg hc (xbi (v_isRinging hc hv k8) ?_)
      rw [ringsI_t hr]
      refine xg (by decide) (xg hc (xg hc (xbi (v_fetching hc hv hd hk) (xg hc ?_))))
      rw [hv.2.2.2.1.2.1, min_held 99999 p1]
      refine xlt (xg hc (xg hc (xg g15 (xg g15 ?_))))
      rw [k1, (w1.2.2.2.2.1 k k8).2.2.2.2.2.2, upd_ne (by omega), min_held 9999 p2]
      exact xlt (xg hc (xg g11 (xlt (xg hc (xg g12 (xlt (xg hc (xg g13 (xlt (xg hc (xg g14 rfl)))))))))))
  · refine ⟨u, ?_, by rw [offer_f hr]; exact hv, oth_rf u i⟩
    rw [xe_X2_offer]
    refine xg hc (xbi (v_isRinging hc hv k8) ?_)
    rw [ringsI_f hr]
    exact xn (fun z => z rfl) rfl
