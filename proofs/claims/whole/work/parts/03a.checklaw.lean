/-! the law's table, in stretches -/
theorem xq_L_0 : (List.range 0).all (xm_chj xi_L_law) = true := rfl
theorem xq_Lp_0 : (List.range' 0 30).all (xm_chj xi_L_law) = true := by decide +kernel
theorem xq_L_1 : (List.range 30).all (xm_chj xi_L_law) = true := xm_chk_app (a := 0) (n := 30) xq_L_0 xq_Lp_0
theorem xq_Lp_1 : (List.range' 30 30).all (xm_chj xi_L_law) = true := by decide +kernel
theorem xq_L_2 : (List.range 60).all (xm_chj xi_L_law) = true := xm_chk_app (a := 30) (n := 30) xq_L_1 xq_Lp_1
theorem xq_Lp_2 : (List.range' 60 30).all (xm_chj xi_L_law) = true := by decide +kernel
theorem xq_L_3 : (List.range 90).all (xm_chj xi_L_law) = true := xm_chk_app (a := 60) (n := 30) xq_L_2 xq_Lp_2
theorem xq_Lp_3 : (List.range' 90 30).all (xm_chj xi_L_law) = true := by decide +kernel
theorem xq_L_4 : (List.range 120).all (xm_chj xi_L_law) = true := xm_chk_app (a := 90) (n := 30) xq_L_3 xq_Lp_3
theorem xq_Lp_4 : (List.range' 120 30).all (xm_chj xi_L_law) = true := by decide +kernel
theorem xq_L_5 : (List.range 150).all (xm_chj xi_L_law) = true := xm_chk_app (a := 120) (n := 30) xq_L_4 xq_Lp_4
theorem xq_Lp_5 : (List.range' 150 30).all (xm_chj xi_L_law) = true := by decide +kernel
theorem xq_L_6 : (List.range 180).all (xm_chj xi_L_law) = true := xm_chk_app (a := 150) (n := 30) xq_L_5 xq_Lp_5
theorem xq_Lp_6 : (List.range' 180 30).all (xm_chj xi_L_law) = true := by decide +kernel
theorem xq_L_7 : (List.range 210).all (xm_chj xi_L_law) = true := xm_chk_app (a := 180) (n := 30) xq_L_6 xq_Lp_6
theorem xq_Lp_7 : (List.range' 210 30).all (xm_chj xi_L_law) = true := by decide +kernel
theorem xq_L_8 : (List.range 240).all (xm_chj xi_L_law) = true := xm_chk_app (a := 210) (n := 30) xq_L_7 xq_Lp_7
theorem xq_Lp_8 : (List.range' 240 30).all (xm_chj xi_L_law) = true := by decide +kernel
theorem xq_L_9 : (List.range 270).all (xm_chj xi_L_law) = true := xm_chk_app (a := 240) (n := 30) xq_L_8 xq_Lp_8
theorem xq_Lp_9 : (List.range' 270 30).all (xm_chj xi_L_law) = true := by decide +kernel
theorem xq_L_10 : (List.range 300).all (xm_chj xi_L_law) = true := xm_chk_app (a := 270) (n := 30) xq_L_9 xq_Lp_9
theorem xq_Lp_10 : (List.range' 300 30).all (xm_chj xi_L_law) = true := by decide +kernel
theorem xq_L_11 : (List.range 330).all (xm_chj xi_L_law) = true := xm_chk_app (a := 300) (n := 30) xq_L_10 xq_Lp_10
theorem xq_Lp_11 : (List.range' 330 30).all (xm_chj xi_L_law) = true := by decide +kernel
theorem xq_L_12 : (List.range 360).all (xm_chj xi_L_law) = true := xm_chk_app (a := 330) (n := 30) xq_L_11 xq_Lp_11
theorem xq_Lp_12 : (List.range' 360 30).all (xm_chj xi_L_law) = true := by decide +kernel
theorem xq_L_13 : (List.range 390).all (xm_chj xi_L_law) = true := xm_chk_app (a := 360) (n := 30) xq_L_12 xq_Lp_12
theorem xq_Lp_13 : (List.range' 390 30).all (xm_chj xi_L_law) = true := by decide +kernel
theorem xq_L_14 : (List.range 420).all (xm_chj xi_L_law) = true := xm_chk_app (a := 390) (n := 30) xq_L_13 xq_Lp_13
theorem xq_Lp_14 : (List.range' 420 30).all (xm_chj xi_L_law) = true := by decide +kernel
theorem xq_L_15 : (List.range 450).all (xm_chj xi_L_law) = true := xm_chk_app (a := 420) (n := 30) xq_L_14 xq_Lp_14
theorem xq_Lp_15 : (List.range' 450 30).all (xm_chj xi_L_law) = true := by decide +kernel
theorem xq_L_16 : (List.range 480).all (xm_chj xi_L_law) = true := xm_chk_app (a := 450) (n := 30) xq_L_15 xq_Lp_15
theorem xq_Lp_16 : (List.range' 480 30).all (xm_chj xi_L_law) = true := by decide +kernel
theorem xq_L_17 : (List.range 510).all (xm_chj xi_L_law) = true := xm_chk_app (a := 480) (n := 30) xq_L_16 xq_Lp_16
theorem xq_Lp_17 : (List.range' 510 30).all (xm_chj xi_L_law) = true := by decide +kernel
theorem xq_L_18 : (List.range 540).all (xm_chj xi_L_law) = true := xm_chk_app (a := 510) (n := 30) xq_L_17 xq_Lp_17
theorem xq_Lp_18 : (List.range' 540 30).all (xm_chj xi_L_law) = true := by decide +kernel
theorem xq_L_19 : (List.range 570).all (xm_chj xi_L_law) = true := xm_chk_app (a := 540) (n := 30) xq_L_18 xq_Lp_18
theorem xq_Lp_19 : (List.range' 570 30).all (xm_chj xi_L_law) = true := by decide +kernel
theorem xq_L_20 : (List.range 600).all (xm_chj xi_L_law) = true := xm_chk_app (a := 570) (n := 30) xq_L_19 xq_Lp_19
theorem xq_Lp_20 : (List.range' 600 30).all (xm_chj xi_L_law) = true := by decide +kernel
theorem xq_L_21 : (List.range 630).all (xm_chj xi_L_law) = true := xm_chk_app (a := 600) (n := 30) xq_L_20 xq_Lp_20
theorem xq_Lp_21 : (List.range' 630 30).all (xm_chj xi_L_law) = true := by decide +kernel
theorem xq_L_22 : (List.range 660).all (xm_chj xi_L_law) = true := xm_chk_app (a := 630) (n := 30) xq_L_21 xq_Lp_21
theorem xq_Lp_22 : (List.range' 660 30).all (xm_chj xi_L_law) = true := by decide +kernel
theorem xq_L_23 : (List.range 690).all (xm_chj xi_L_law) = true := xm_chk_app (a := 660) (n := 30) xq_L_22 xq_Lp_22
theorem xq_Lp_23 : (List.range' 690 30).all (xm_chj xi_L_law) = true := by decide +kernel
theorem xq_L_24 : (List.range 720).all (xm_chj xi_L_law) = true := xm_chk_app (a := 690) (n := 30) xq_L_23 xq_Lp_23
theorem xq_Lp_24 : (List.range' 720 30).all (xm_chj xi_L_law) = true := by decide +kernel
theorem xq_L_25 : (List.range 750).all (xm_chj xi_L_law) = true := xm_chk_app (a := 720) (n := 30) xq_L_24 xq_Lp_24
theorem xq_Lp_25 : (List.range' 750 30).all (xm_chj xi_L_law) = true := by decide +kernel
theorem xq_L_26 : (List.range 780).all (xm_chj xi_L_law) = true := xm_chk_app (a := 750) (n := 30) xq_L_25 xq_Lp_25
theorem xq_Lp_26 : (List.range' 780 30).all (xm_chj xi_L_law) = true := by decide +kernel
theorem xq_L_27 : (List.range 810).all (xm_chj xi_L_law) = true := xm_chk_app (a := 780) (n := 30) xq_L_26 xq_Lp_26
theorem xq_Lp_27 : (List.range' 810 30).all (xm_chj xi_L_law) = true := by decide +kernel
theorem xq_L_28 : (List.range 840).all (xm_chj xi_L_law) = true := xm_chk_app (a := 810) (n := 30) xq_L_27 xq_Lp_27
theorem xq_Lp_28 : (List.range' 840 30).all (xm_chj xi_L_law) = true := by decide +kernel
theorem xq_L_29 : (List.range 870).all (xm_chj xi_L_law) = true := xm_chk_app (a := 840) (n := 30) xq_L_28 xq_Lp_28
theorem xq_Lp_29 : (List.range' 870 30).all (xm_chj xi_L_law) = true := by decide +kernel
theorem xq_L_30 : (List.range 900).all (xm_chj xi_L_law) = true := xm_chk_app (a := 870) (n := 30) xq_L_29 xq_Lp_29
theorem xq_Lp_30 : (List.range' 900 30).all (xm_chj xi_L_law) = true := by decide +kernel
theorem xq_L_31 : (List.range 930).all (xm_chj xi_L_law) = true := xm_chk_app (a := 900) (n := 30) xq_L_30 xq_Lp_30
theorem xq_Lp_31 : (List.range' 930 30).all (xm_chj xi_L_law) = true := by decide +kernel
theorem xq_L_32 : (List.range 960).all (xm_chj xi_L_law) = true := xm_chk_app (a := 930) (n := 30) xq_L_31 xq_Lp_31
theorem xq_Lp_32 : (List.range' 960 27).all (xm_chj xi_L_law) = true := by decide +kernel
theorem xq_L_33 : (List.range 987).all (xm_chj xi_L_law) = true := xm_chk_app (a := 960) (n := 27) xq_L_32 xq_Lp_32
theorem xq_L_len : xc_L_law.length = 987 := by decide +kernel
theorem xq_L_law : xm_chk xi_L_law = true := by
  refine Bool.and_eq_true_iff.mpr ⟨by decide +kernel, ?_⟩
  show (List.range xc_L_law.length).all (xm_chj xi_L_law) = true
  rw [xq_L_len]
  exact xq_L_33
