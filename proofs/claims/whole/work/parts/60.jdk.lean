theorem j_bits_0 (l : Launch) (G : Gl) (Λ : Lay) (sz : Nat) (μ : Mem)   : Sp l G yJ6_bitCount_0f7a4 cJ6_bitCount_0f7a4 1 (some FieldType.int) 0 [iv 0] Λ sz μ (pP μ 0) := by
  refine Sp.introF (by decide +kernel) (Nat.le_of_ble_eq_true rfl) (fun x hx hBD => ?_)
  refine v_lv [(0, iv 0)] rfl ?_
  refine v_iload hx DJ6_bitCount_0f7a4_0 0 rfl ?_
  refine v_iload hx DJ6_bitCount_0f7a4_1 0 rfl ?_
  refine v_push hx DJ6_bitCount_0f7a4_2 ?_
  refine v_iushr hx DJ6_bitCount_0f7a4_3 (z := 0) (by decide +kernel) ?_
  refine v_ldcw hx DJ6_bitCount_0f7a4_4 cnRJ6_265 (z := 1431655765) rfl ?_
  refine v_iand hx DJ6_bitCount_0f7a4_7 (z := 0) (by decide +kernel) ?_
  refine v_isub hx DJ6_bitCount_0f7a4_8 ?_
  refine v_top (z' := 0) (by decide) ?_
  refine v_istore hx DJ6_bitCount_0f7a4_9 [(0, iv 0)] rfl (by decide) ?_
  refine v_iload hx DJ6_bitCount_0f7a4_10 0 rfl ?_
  refine v_ldcw hx DJ6_bitCount_0f7a4_11 cnRJ6_266 (z := 858993459) rfl ?_
  refine v_iand hx DJ6_bitCount_0f7a4_14 (z := 0) (by decide +kernel) ?_
  refine v_iload hx DJ6_bitCount_0f7a4_15 0 rfl ?_
  refine v_push hx DJ6_bitCount_0f7a4_16 ?_
  refine v_iushr hx DJ6_bitCount_0f7a4_17 (z := 0) (by decide +kernel) ?_
  refine v_ldcw hx DJ6_bitCount_0f7a4_18 cnRJ6_266 (z := 858993459) rfl ?_
  refine v_iand hx DJ6_bitCount_0f7a4_21 (z := 0) (by decide +kernel) ?_
  refine v_iadd hx DJ6_bitCount_0f7a4_22 ?_
  refine v_top (z' := 0) (by decide) ?_
  refine v_istore hx DJ6_bitCount_0f7a4_23 [(0, iv 0)] rfl (by decide) ?_
  refine v_iload hx DJ6_bitCount_0f7a4_24 0 rfl ?_
  refine v_iload hx DJ6_bitCount_0f7a4_25 0 rfl ?_
  refine v_push hx DJ6_bitCount_0f7a4_26 ?_
  refine v_iushr hx DJ6_bitCount_0f7a4_27 (z := 0) (by decide +kernel) ?_
  refine v_iadd hx DJ6_bitCount_0f7a4_28 ?_
  refine v_top (z' := 0) (by decide) ?_
  refine v_ldcw hx DJ6_bitCount_0f7a4_29 cnRJ6_267 (z := 252645135) rfl ?_
  refine v_iand hx DJ6_bitCount_0f7a4_32 (z := 0) (by decide +kernel) ?_
  refine v_istore hx DJ6_bitCount_0f7a4_33 [(0, iv 0)] rfl (by decide) ?_
  refine v_iload hx DJ6_bitCount_0f7a4_34 0 rfl ?_
  refine v_iload hx DJ6_bitCount_0f7a4_35 0 rfl ?_
  refine v_push hx DJ6_bitCount_0f7a4_36 ?_
  refine v_iushr hx DJ6_bitCount_0f7a4_38 (z := 0) (by decide +kernel) ?_
  refine v_iadd hx DJ6_bitCount_0f7a4_39 ?_
  refine v_top (z' := 0) (by decide) ?_
  refine v_istore hx DJ6_bitCount_0f7a4_40 [(0, iv 0)] rfl (by decide) ?_
  refine v_iload hx DJ6_bitCount_0f7a4_41 0 rfl ?_
  refine v_iload hx DJ6_bitCount_0f7a4_42 0 rfl ?_
  refine v_push hx DJ6_bitCount_0f7a4_43 ?_
  refine v_iushr hx DJ6_bitCount_0f7a4_45 (z := 0) (by decide +kernel) ?_
  refine v_iadd hx DJ6_bitCount_0f7a4_46 ?_
  refine v_top (z' := 0) (by decide) ?_
  refine v_istore hx DJ6_bitCount_0f7a4_47 [(0, iv 0)] rfl (by decide) ?_
  refine v_iload hx DJ6_bitCount_0f7a4_48 0 rfl ?_
  refine v_push hx DJ6_bitCount_0f7a4_49 ?_
  refine v_iand hx DJ6_bitCount_0f7a4_51 (z := 0) (by decide +kernel) ?_
  exact v_ri hx hBD DJ6_bitCount_0f7a4_52 (⟨rfl, rfl⟩)
theorem j_bits_1 (l : Launch) (G : Gl) (Λ : Lay) (sz : Nat) (μ : Mem)   : Sp l G yJ6_bitCount_0f7a4 cJ6_bitCount_0f7a4 1 (some FieldType.int) 0 [iv 1] Λ sz μ (pP μ 1) := by
  refine Sp.introF (by decide +kernel) (Nat.le_of_ble_eq_true rfl) (fun x hx hBD => ?_)
  refine v_lv [(0, iv 1)] rfl ?_
  refine v_iload hx DJ6_bitCount_0f7a4_0 0 rfl ?_
  refine v_iload hx DJ6_bitCount_0f7a4_1 0 rfl ?_
  refine v_push hx DJ6_bitCount_0f7a4_2 ?_
  refine v_iushr hx DJ6_bitCount_0f7a4_3 (z := 0) (by decide +kernel) ?_
  refine v_ldcw hx DJ6_bitCount_0f7a4_4 cnRJ6_265 (z := 1431655765) rfl ?_
  refine v_iand hx DJ6_bitCount_0f7a4_7 (z := 0) (by decide +kernel) ?_
  refine v_isub hx DJ6_bitCount_0f7a4_8 ?_
  refine v_top (z' := 1) (by decide) ?_
  refine v_istore hx DJ6_bitCount_0f7a4_9 [(0, iv 1)] rfl (by decide) ?_
  refine v_iload hx DJ6_bitCount_0f7a4_10 0 rfl ?_
  refine v_ldcw hx DJ6_bitCount_0f7a4_11 cnRJ6_266 (z := 858993459) rfl ?_
  refine v_iand hx DJ6_bitCount_0f7a4_14 (z := 1) (by decide +kernel) ?_
  refine v_iload hx DJ6_bitCount_0f7a4_15 0 rfl ?_
  refine v_push hx DJ6_bitCount_0f7a4_16 ?_
  refine v_iushr hx DJ6_bitCount_0f7a4_17 (z := 0) (by decide +kernel) ?_
  refine v_ldcw hx DJ6_bitCount_0f7a4_18 cnRJ6_266 (z := 858993459) rfl ?_
  refine v_iand hx DJ6_bitCount_0f7a4_21 (z := 0) (by decide +kernel) ?_
  refine v_iadd hx DJ6_bitCount_0f7a4_22 ?_
  refine v_top (z' := 1) (by decide) ?_
  refine v_istore hx DJ6_bitCount_0f7a4_23 [(0, iv 1)] rfl (by decide) ?_
  refine v_iload hx DJ6_bitCount_0f7a4_24 0 rfl ?_
  refine v_iload hx DJ6_bitCount_0f7a4_25 0 rfl ?_
  refine v_push hx DJ6_bitCount_0f7a4_26 ?_
  refine v_iushr hx DJ6_bitCount_0f7a4_27 (z := 0) (by decide +kernel) ?_
  refine v_iadd hx DJ6_bitCount_0f7a4_28 ?_
  refine v_top (z' := 1) (by decide) ?_
  refine v_ldcw hx DJ6_bitCount_0f7a4_29 cnRJ6_267 (z := 252645135) rfl ?_
  refine v_iand hx DJ6_bitCount_0f7a4_32 (z := 1) (by decide +kernel) ?_
  refine v_istore hx DJ6_bitCount_0f7a4_33 [(0, iv 1)] rfl (by decide) ?_
  refine v_iload hx DJ6_bitCount_0f7a4_34 0 rfl ?_
  refine v_iload hx DJ6_bitCount_0f7a4_35 0 rfl ?_
  refine v_push hx DJ6_bitCount_0f7a4_36 ?_
  refine v_iushr hx DJ6_bitCount_0f7a4_38 (z := 0) (by decide +kernel) ?_
  refine v_iadd hx DJ6_bitCount_0f7a4_39 ?_
  refine v_top (z' := 1) (by decide) ?_
  refine v_istore hx DJ6_bitCount_0f7a4_40 [(0, iv 1)] rfl (by decide) ?_
  refine v_iload hx DJ6_bitCount_0f7a4_41 0 rfl ?_
  refine v_iload hx DJ6_bitCount_0f7a4_42 0 rfl ?_
  refine v_push hx DJ6_bitCount_0f7a4_43 ?_
  refine v_iushr hx DJ6_bitCount_0f7a4_45 (z := 0) (by decide +kernel) ?_
  refine v_iadd hx DJ6_bitCount_0f7a4_46 ?_
  refine v_top (z' := 1) (by decide) ?_
  refine v_istore hx DJ6_bitCount_0f7a4_47 [(0, iv 1)] rfl (by decide) ?_
  refine v_iload hx DJ6_bitCount_0f7a4_48 0 rfl ?_
  refine v_push hx DJ6_bitCount_0f7a4_49 ?_
  refine v_iand hx DJ6_bitCount_0f7a4_51 (z := 1) (by decide +kernel) ?_
  exact v_ri hx hBD DJ6_bitCount_0f7a4_52 (⟨rfl, rfl⟩)
theorem j_bits_2 (l : Launch) (G : Gl) (Λ : Lay) (sz : Nat) (μ : Mem)   : Sp l G yJ6_bitCount_0f7a4 cJ6_bitCount_0f7a4 1 (some FieldType.int) 0 [iv 2] Λ sz μ (pP μ 1) := by
  refine Sp.introF (by decide +kernel) (Nat.le_of_ble_eq_true rfl) (fun x hx hBD => ?_)
  refine v_lv [(0, iv 2)] rfl ?_
  refine v_iload hx DJ6_bitCount_0f7a4_0 0 rfl ?_
  refine v_iload hx DJ6_bitCount_0f7a4_1 0 rfl ?_
  refine v_push hx DJ6_bitCount_0f7a4_2 ?_
  refine v_iushr hx DJ6_bitCount_0f7a4_3 (z := 1) (by decide +kernel) ?_
  refine v_ldcw hx DJ6_bitCount_0f7a4_4 cnRJ6_265 (z := 1431655765) rfl ?_
  refine v_iand hx DJ6_bitCount_0f7a4_7 (z := 1) (by decide +kernel) ?_
  refine v_isub hx DJ6_bitCount_0f7a4_8 ?_
  refine v_top (z' := 1) (by decide) ?_
  refine v_istore hx DJ6_bitCount_0f7a4_9 [(0, iv 1)] rfl (by decide) ?_
  refine v_iload hx DJ6_bitCount_0f7a4_10 0 rfl ?_
  refine v_ldcw hx DJ6_bitCount_0f7a4_11 cnRJ6_266 (z := 858993459) rfl ?_
  refine v_iand hx DJ6_bitCount_0f7a4_14 (z := 1) (by decide +kernel) ?_
  refine v_iload hx DJ6_bitCount_0f7a4_15 0 rfl ?_
  refine v_push hx DJ6_bitCount_0f7a4_16 ?_
  refine v_iushr hx DJ6_bitCount_0f7a4_17 (z := 0) (by decide +kernel) ?_
  refine v_ldcw hx DJ6_bitCount_0f7a4_18 cnRJ6_266 (z := 858993459) rfl ?_
  refine v_iand hx DJ6_bitCount_0f7a4_21 (z := 0) (by decide +kernel) ?_
  refine v_iadd hx DJ6_bitCount_0f7a4_22 ?_
  refine v_top (z' := 1) (by decide) ?_
  refine v_istore hx DJ6_bitCount_0f7a4_23 [(0, iv 1)] rfl (by decide) ?_
  refine v_iload hx DJ6_bitCount_0f7a4_24 0 rfl ?_
  refine v_iload hx DJ6_bitCount_0f7a4_25 0 rfl ?_
  refine v_push hx DJ6_bitCount_0f7a4_26 ?_
  refine v_iushr hx DJ6_bitCount_0f7a4_27 (z := 0) (by decide +kernel) ?_
  refine v_iadd hx DJ6_bitCount_0f7a4_28 ?_
  refine v_top (z' := 1) (by decide) ?_
  refine v_ldcw hx DJ6_bitCount_0f7a4_29 cnRJ6_267 (z := 252645135) rfl ?_
  refine v_iand hx DJ6_bitCount_0f7a4_32 (z := 1) (by decide +kernel) ?_
  refine v_istore hx DJ6_bitCount_0f7a4_33 [(0, iv 1)] rfl (by decide) ?_
  refine v_iload hx DJ6_bitCount_0f7a4_34 0 rfl ?_
  refine v_iload hx DJ6_bitCount_0f7a4_35 0 rfl ?_
  refine v_push hx DJ6_bitCount_0f7a4_36 ?_
  refine v_iushr hx DJ6_bitCount_0f7a4_38 (z := 0) (by decide +kernel) ?_
  refine v_iadd hx DJ6_bitCount_0f7a4_39 ?_
  refine v_top (z' := 1) (by decide) ?_
  refine v_istore hx DJ6_bitCount_0f7a4_40 [(0, iv 1)] rfl (by decide) ?_
  refine v_iload hx DJ6_bitCount_0f7a4_41 0 rfl ?_
  refine v_iload hx DJ6_bitCount_0f7a4_42 0 rfl ?_
  refine v_push hx DJ6_bitCount_0f7a4_43 ?_
  refine v_iushr hx DJ6_bitCount_0f7a4_45 (z := 0) (by decide +kernel) ?_
  refine v_iadd hx DJ6_bitCount_0f7a4_46 ?_
  refine v_top (z' := 1) (by decide) ?_
  refine v_istore hx DJ6_bitCount_0f7a4_47 [(0, iv 1)] rfl (by decide) ?_
  refine v_iload hx DJ6_bitCount_0f7a4_48 0 rfl ?_
  refine v_push hx DJ6_bitCount_0f7a4_49 ?_
  refine v_iand hx DJ6_bitCount_0f7a4_51 (z := 1) (by decide +kernel) ?_
  exact v_ri hx hBD DJ6_bitCount_0f7a4_52 (⟨rfl, rfl⟩)
theorem j_bits_3 (l : Launch) (G : Gl) (Λ : Lay) (sz : Nat) (μ : Mem)   : Sp l G yJ6_bitCount_0f7a4 cJ6_bitCount_0f7a4 1 (some FieldType.int) 0 [iv 3] Λ sz μ (pP μ 2) := by
  refine Sp.introF (by decide +kernel) (Nat.le_of_ble_eq_true rfl) (fun x hx hBD => ?_)
  refine v_lv [(0, iv 3)] rfl ?_
  refine v_iload hx DJ6_bitCount_0f7a4_0 0 rfl ?_
  refine v_iload hx DJ6_bitCount_0f7a4_1 0 rfl ?_
  refine v_push hx DJ6_bitCount_0f7a4_2 ?_
  refine v_iushr hx DJ6_bitCount_0f7a4_3 (z := 1) (by decide +kernel) ?_
  refine v_ldcw hx DJ6_bitCount_0f7a4_4 cnRJ6_265 (z := 1431655765) rfl ?_
  refine v_iand hx DJ6_bitCount_0f7a4_7 (z := 1) (by decide +kernel) ?_
  refine v_isub hx DJ6_bitCount_0f7a4_8 ?_
  refine v_top (z' := 2) (by decide) ?_
  refine v_istore hx DJ6_bitCount_0f7a4_9 [(0, iv 2)] rfl (by decide) ?_
  refine v_iload hx DJ6_bitCount_0f7a4_10 0 rfl ?_
  refine v_ldcw hx DJ6_bitCount_0f7a4_11 cnRJ6_266 (z := 858993459) rfl ?_
  refine v_iand hx DJ6_bitCount_0f7a4_14 (z := 2) (by decide +kernel) ?_
  refine v_iload hx DJ6_bitCount_0f7a4_15 0 rfl ?_
  refine v_push hx DJ6_bitCount_0f7a4_16 ?_
  refine v_iushr hx DJ6_bitCount_0f7a4_17 (z := 0) (by decide +kernel) ?_
  refine v_ldcw hx DJ6_bitCount_0f7a4_18 cnRJ6_266 (z := 858993459) rfl ?_
  refine v_iand hx DJ6_bitCount_0f7a4_21 (z := 0) (by decide +kernel) ?_
  refine v_iadd hx DJ6_bitCount_0f7a4_22 ?_
  refine v_top (z' := 2) (by decide) ?_
  refine v_istore hx DJ6_bitCount_0f7a4_23 [(0, iv 2)] rfl (by decide) ?_
  refine v_iload hx DJ6_bitCount_0f7a4_24 0 rfl ?_
  refine v_iload hx DJ6_bitCount_0f7a4_25 0 rfl ?_
  refine v_push hx DJ6_bitCount_0f7a4_26 ?_
  refine v_iushr hx DJ6_bitCount_0f7a4_27 (z := 0) (by decide +kernel) ?_
  refine v_iadd hx DJ6_bitCount_0f7a4_28 ?_
  refine v_top (z' := 2) (by decide) ?_
  refine v_ldcw hx DJ6_bitCount_0f7a4_29 cnRJ6_267 (z := 252645135) rfl ?_
  refine v_iand hx DJ6_bitCount_0f7a4_32 (z := 2) (by decide +kernel) ?_
  refine v_istore hx DJ6_bitCount_0f7a4_33 [(0, iv 2)] rfl (by decide) ?_
  refine v_iload hx DJ6_bitCount_0f7a4_34 0 rfl ?_
  refine v_iload hx DJ6_bitCount_0f7a4_35 0 rfl ?_
  refine v_push hx DJ6_bitCount_0f7a4_36 ?_
  refine v_iushr hx DJ6_bitCount_0f7a4_38 (z := 0) (by decide +kernel) ?_
  refine v_iadd hx DJ6_bitCount_0f7a4_39 ?_
  refine v_top (z' := 2) (by decide) ?_
  refine v_istore hx DJ6_bitCount_0f7a4_40 [(0, iv 2)] rfl (by decide) ?_
  refine v_iload hx DJ6_bitCount_0f7a4_41 0 rfl ?_
  refine v_iload hx DJ6_bitCount_0f7a4_42 0 rfl ?_
  refine v_push hx DJ6_bitCount_0f7a4_43 ?_
  refine v_iushr hx DJ6_bitCount_0f7a4_45 (z := 0) (by decide +kernel) ?_
  refine v_iadd hx DJ6_bitCount_0f7a4_46 ?_
  refine v_top (z' := 2) (by decide) ?_
  refine v_istore hx DJ6_bitCount_0f7a4_47 [(0, iv 2)] rfl (by decide) ?_
  refine v_iload hx DJ6_bitCount_0f7a4_48 0 rfl ?_
  refine v_push hx DJ6_bitCount_0f7a4_49 ?_
  refine v_iand hx DJ6_bitCount_0f7a4_51 (z := 2) (by decide +kernel) ?_
  exact v_ri hx hBD DJ6_bitCount_0f7a4_52 (⟨rfl, rfl⟩)
theorem j_bits_4 (l : Launch) (G : Gl) (Λ : Lay) (sz : Nat) (μ : Mem)   : Sp l G yJ6_bitCount_0f7a4 cJ6_bitCount_0f7a4 1 (some FieldType.int) 0 [iv 4] Λ sz μ (pP μ 1) := by
  refine Sp.introF (by decide +kernel) (Nat.le_of_ble_eq_true rfl) (fun x hx hBD => ?_)
  refine v_lv [(0, iv 4)] rfl ?_
  refine v_iload hx DJ6_bitCount_0f7a4_0 0 rfl ?_
  refine v_iload hx DJ6_bitCount_0f7a4_1 0 rfl ?_
  refine v_push hx DJ6_bitCount_0f7a4_2 ?_
  refine v_iushr hx DJ6_bitCount_0f7a4_3 (z := 2) (by decide +kernel) ?_
  refine v_ldcw hx DJ6_bitCount_0f7a4_4 cnRJ6_265 (z := 1431655765) rfl ?_
  refine v_iand hx DJ6_bitCount_0f7a4_7 (z := 0) (by decide +kernel) ?_
  refine v_isub hx DJ6_bitCount_0f7a4_8 ?_
  refine v_top (z' := 4) (by decide) ?_
  refine v_istore hx DJ6_bitCount_0f7a4_9 [(0, iv 4)] rfl (by decide) ?_
  refine v_iload hx DJ6_bitCount_0f7a4_10 0 rfl ?_
  refine v_ldcw hx DJ6_bitCount_0f7a4_11 cnRJ6_266 (z := 858993459) rfl ?_
  refine v_iand hx DJ6_bitCount_0f7a4_14 (z := 0) (by decide +kernel) ?_
  refine v_iload hx DJ6_bitCount_0f7a4_15 0 rfl ?_
  refine v_push hx DJ6_bitCount_0f7a4_16 ?_
  refine v_iushr hx DJ6_bitCount_0f7a4_17 (z := 1) (by decide +kernel) ?_
  refine v_ldcw hx DJ6_bitCount_0f7a4_18 cnRJ6_266 (z := 858993459) rfl ?_
  refine v_iand hx DJ6_bitCount_0f7a4_21 (z := 1) (by decide +kernel) ?_
  refine v_iadd hx DJ6_bitCount_0f7a4_22 ?_
  refine v_top (z' := 1) (by decide) ?_
  refine v_istore hx DJ6_bitCount_0f7a4_23 [(0, iv 1)] rfl (by decide) ?_
  refine v_iload hx DJ6_bitCount_0f7a4_24 0 rfl ?_
  refine v_iload hx DJ6_bitCount_0f7a4_25 0 rfl ?_
  refine v_push hx DJ6_bitCount_0f7a4_26 ?_
  refine v_iushr hx DJ6_bitCount_0f7a4_27 (z := 0) (by decide +kernel) ?_
  refine v_iadd hx DJ6_bitCount_0f7a4_28 ?_
  refine v_top (z' := 1) (by decide) ?_
  refine v_ldcw hx DJ6_bitCount_0f7a4_29 cnRJ6_267 (z := 252645135) rfl ?_
  refine v_iand hx DJ6_bitCount_0f7a4_32 (z := 1) (by decide +kernel) ?_
  refine v_istore hx DJ6_bitCount_0f7a4_33 [(0, iv 1)] rfl (by decide) ?_
  refine v_iload hx DJ6_bitCount_0f7a4_34 0 rfl ?_
  refine v_iload hx DJ6_bitCount_0f7a4_35 0 rfl ?_
  refine v_push hx DJ6_bitCount_0f7a4_36 ?_
  refine v_iushr hx DJ6_bitCount_0f7a4_38 (z := 0) (by decide +kernel) ?_
  refine v_iadd hx DJ6_bitCount_0f7a4_39 ?_
  refine v_top (z' := 1) (by decide) ?_
  refine v_istore hx DJ6_bitCount_0f7a4_40 [(0, iv 1)] rfl (by decide) ?_
  refine v_iload hx DJ6_bitCount_0f7a4_41 0 rfl ?_
  refine v_iload hx DJ6_bitCount_0f7a4_42 0 rfl ?_
  refine v_push hx DJ6_bitCount_0f7a4_43 ?_
  refine v_iushr hx DJ6_bitCount_0f7a4_45 (z := 0) (by decide +kernel) ?_
  refine v_iadd hx DJ6_bitCount_0f7a4_46 ?_
  refine v_top (z' := 1) (by decide) ?_
  refine v_istore hx DJ6_bitCount_0f7a4_47 [(0, iv 1)] rfl (by decide) ?_
  refine v_iload hx DJ6_bitCount_0f7a4_48 0 rfl ?_
  refine v_push hx DJ6_bitCount_0f7a4_49 ?_
  refine v_iand hx DJ6_bitCount_0f7a4_51 (z := 1) (by decide +kernel) ?_
  exact v_ri hx hBD DJ6_bitCount_0f7a4_52 (⟨rfl, rfl⟩)
theorem j_bits_5 (l : Launch) (G : Gl) (Λ : Lay) (sz : Nat) (μ : Mem)   : Sp l G yJ6_bitCount_0f7a4 cJ6_bitCount_0f7a4 1 (some FieldType.int) 0 [iv 5] Λ sz μ (pP μ 2) := by
  refine Sp.introF (by decide +kernel) (Nat.le_of_ble_eq_true rfl) (fun x hx hBD => ?_)
  refine v_lv [(0, iv 5)] rfl ?_
  refine v_iload hx DJ6_bitCount_0f7a4_0 0 rfl ?_
  refine v_iload hx DJ6_bitCount_0f7a4_1 0 rfl ?_
  refine v_push hx DJ6_bitCount_0f7a4_2 ?_
  refine v_iushr hx DJ6_bitCount_0f7a4_3 (z := 2) (by decide +kernel) ?_
  refine v_ldcw hx DJ6_bitCount_0f7a4_4 cnRJ6_265 (z := 1431655765) rfl ?_
  refine v_iand hx DJ6_bitCount_0f7a4_7 (z := 0) (by decide +kernel) ?_
  refine v_isub hx DJ6_bitCount_0f7a4_8 ?_
  refine v_top (z' := 5) (by decide) ?_
  refine v_istore hx DJ6_bitCount_0f7a4_9 [(0, iv 5)] rfl (by decide) ?_
  refine v_iload hx DJ6_bitCount_0f7a4_10 0 rfl ?_
  refine v_ldcw hx DJ6_bitCount_0f7a4_11 cnRJ6_266 (z := 858993459) rfl ?_
  refine v_iand hx DJ6_bitCount_0f7a4_14 (z := 1) (by decide +kernel) ?_
  refine v_iload hx DJ6_bitCount_0f7a4_15 0 rfl ?_
  refine v_push hx DJ6_bitCount_0f7a4_16 ?_
  refine v_iushr hx DJ6_bitCount_0f7a4_17 (z := 1) (by decide +kernel) ?_
  refine v_ldcw hx DJ6_bitCount_0f7a4_18 cnRJ6_266 (z := 858993459) rfl ?_
  refine v_iand hx DJ6_bitCount_0f7a4_21 (z := 1) (by decide +kernel) ?_
  refine v_iadd hx DJ6_bitCount_0f7a4_22 ?_
  refine v_top (z' := 2) (by decide) ?_
  refine v_istore hx DJ6_bitCount_0f7a4_23 [(0, iv 2)] rfl (by decide) ?_
  refine v_iload hx DJ6_bitCount_0f7a4_24 0 rfl ?_
  refine v_iload hx DJ6_bitCount_0f7a4_25 0 rfl ?_
  refine v_push hx DJ6_bitCount_0f7a4_26 ?_
  refine v_iushr hx DJ6_bitCount_0f7a4_27 (z := 0) (by decide +kernel) ?_
  refine v_iadd hx DJ6_bitCount_0f7a4_28 ?_
  refine v_top (z' := 2) (by decide) ?_
  refine v_ldcw hx DJ6_bitCount_0f7a4_29 cnRJ6_267 (z := 252645135) rfl ?_
  refine v_iand hx DJ6_bitCount_0f7a4_32 (z := 2) (by decide +kernel) ?_
  refine v_istore hx DJ6_bitCount_0f7a4_33 [(0, iv 2)] rfl (by decide) ?_
  refine v_iload hx DJ6_bitCount_0f7a4_34 0 rfl ?_
  refine v_iload hx DJ6_bitCount_0f7a4_35 0 rfl ?_
  refine v_push hx DJ6_bitCount_0f7a4_36 ?_
  refine v_iushr hx DJ6_bitCount_0f7a4_38 (z := 0) (by decide +kernel) ?_
  refine v_iadd hx DJ6_bitCount_0f7a4_39 ?_
  refine v_top (z' := 2) (by decide) ?_
  refine v_istore hx DJ6_bitCount_0f7a4_40 [(0, iv 2)] rfl (by decide) ?_
  refine v_iload hx DJ6_bitCount_0f7a4_41 0 rfl ?_
  refine v_iload hx DJ6_bitCount_0f7a4_42 0 rfl ?_
  refine v_push hx DJ6_bitCount_0f7a4_43 ?_
  refine v_iushr hx DJ6_bitCount_0f7a4_45 (z := 0) (by decide +kernel) ?_
  refine v_iadd hx DJ6_bitCount_0f7a4_46 ?_
  refine v_top (z' := 2) (by decide) ?_
  refine v_istore hx DJ6_bitCount_0f7a4_47 [(0, iv 2)] rfl (by decide) ?_
  refine v_iload hx DJ6_bitCount_0f7a4_48 0 rfl ?_
  refine v_push hx DJ6_bitCount_0f7a4_49 ?_
  refine v_iand hx DJ6_bitCount_0f7a4_51 (z := 2) (by decide +kernel) ?_
  exact v_ri hx hBD DJ6_bitCount_0f7a4_52 (⟨rfl, rfl⟩)
theorem j_bits_6 (l : Launch) (G : Gl) (Λ : Lay) (sz : Nat) (μ : Mem)   : Sp l G yJ6_bitCount_0f7a4 cJ6_bitCount_0f7a4 1 (some FieldType.int) 0 [iv 6] Λ sz μ (pP μ 2) := by
  refine Sp.introF (by decide +kernel) (Nat.le_of_ble_eq_true rfl) (fun x hx hBD => ?_)
  refine v_lv [(0, iv 6)] rfl ?_
  refine v_iload hx DJ6_bitCount_0f7a4_0 0 rfl ?_
  refine v_iload hx DJ6_bitCount_0f7a4_1 0 rfl ?_
  refine v_push hx DJ6_bitCount_0f7a4_2 ?_
  refine v_iushr hx DJ6_bitCount_0f7a4_3 (z := 3) (by decide +kernel) ?_
  refine v_ldcw hx DJ6_bitCount_0f7a4_4 cnRJ6_265 (z := 1431655765) rfl ?_
  refine v_iand hx DJ6_bitCount_0f7a4_7 (z := 1) (by decide +kernel) ?_
  refine v_isub hx DJ6_bitCount_0f7a4_8 ?_
  refine v_top (z' := 5) (by decide) ?_
  refine v_istore hx DJ6_bitCount_0f7a4_9 [(0, iv 5)] rfl (by decide) ?_
  refine v_iload hx DJ6_bitCount_0f7a4_10 0 rfl ?_
  refine v_ldcw hx DJ6_bitCount_0f7a4_11 cnRJ6_266 (z := 858993459) rfl ?_
  refine v_iand hx DJ6_bitCount_0f7a4_14 (z := 1) (by decide +kernel) ?_
  refine v_iload hx DJ6_bitCount_0f7a4_15 0 rfl ?_
  refine v_push hx DJ6_bitCount_0f7a4_16 ?_
  refine v_iushr hx DJ6_bitCount_0f7a4_17 (z := 1) (by decide +kernel) ?_
  refine v_ldcw hx DJ6_bitCount_0f7a4_18 cnRJ6_266 (z := 858993459) rfl ?_
  refine v_iand hx DJ6_bitCount_0f7a4_21 (z := 1) (by decide +kernel) ?_
  refine v_iadd hx DJ6_bitCount_0f7a4_22 ?_
  refine v_top (z' := 2) (by decide) ?_
  refine v_istore hx DJ6_bitCount_0f7a4_23 [(0, iv 2)] rfl (by decide) ?_
  refine v_iload hx DJ6_bitCount_0f7a4_24 0 rfl ?_
  refine v_iload hx DJ6_bitCount_0f7a4_25 0 rfl ?_
  refine v_push hx DJ6_bitCount_0f7a4_26 ?_
  refine v_iushr hx DJ6_bitCount_0f7a4_27 (z := 0) (by decide +kernel) ?_
  refine v_iadd hx DJ6_bitCount_0f7a4_28 ?_
  refine v_top (z' := 2) (by decide) ?_
  refine v_ldcw hx DJ6_bitCount_0f7a4_29 cnRJ6_267 (z := 252645135) rfl ?_
  refine v_iand hx DJ6_bitCount_0f7a4_32 (z := 2) (by decide +kernel) ?_
  refine v_istore hx DJ6_bitCount_0f7a4_33 [(0, iv 2)] rfl (by decide) ?_
  refine v_iload hx DJ6_bitCount_0f7a4_34 0 rfl ?_
  refine v_iload hx DJ6_bitCount_0f7a4_35 0 rfl ?_
  refine v_push hx DJ6_bitCount_0f7a4_36 ?_
  refine v_iushr hx DJ6_bitCount_0f7a4_38 (z := 0) (by decide +kernel) ?_
  refine v_iadd hx DJ6_bitCount_0f7a4_39 ?_
  refine v_top (z' := 2) (by decide) ?_
  refine v_istore hx DJ6_bitCount_0f7a4_40 [(0, iv 2)] rfl (by decide) ?_
  refine v_iload hx DJ6_bitCount_0f7a4_41 0 rfl ?_
  refine v_iload hx DJ6_bitCount_0f7a4_42 0 rfl ?_
  refine v_push hx DJ6_bitCount_0f7a4_43 ?_
  refine v_iushr hx DJ6_bitCount_0f7a4_45 (z := 0) (by decide +kernel) ?_
  refine v_iadd hx DJ6_bitCount_0f7a4_46 ?_
  refine v_top (z' := 2) (by decide) ?_
  refine v_istore hx DJ6_bitCount_0f7a4_47 [(0, iv 2)] rfl (by decide) ?_
  refine v_iload hx DJ6_bitCount_0f7a4_48 0 rfl ?_
  refine v_push hx DJ6_bitCount_0f7a4_49 ?_
  refine v_iand hx DJ6_bitCount_0f7a4_51 (z := 2) (by decide +kernel) ?_
  exact v_ri hx hBD DJ6_bitCount_0f7a4_52 (⟨rfl, rfl⟩)
theorem j_bits_7 (l : Launch) (G : Gl) (Λ : Lay) (sz : Nat) (μ : Mem)   : Sp l G yJ6_bitCount_0f7a4 cJ6_bitCount_0f7a4 1 (some FieldType.int) 0 [iv 7] Λ sz μ (pP μ 3) := by
  refine Sp.introF (by decide +kernel) (Nat.le_of_ble_eq_true rfl) (fun x hx hBD => ?_)
  refine v_lv [(0, iv 7)] rfl ?_
  refine v_iload hx DJ6_bitCount_0f7a4_0 0 rfl ?_
  refine v_iload hx DJ6_bitCount_0f7a4_1 0 rfl ?_
  refine v_push hx DJ6_bitCount_0f7a4_2 ?_
  refine v_iushr hx DJ6_bitCount_0f7a4_3 (z := 3) (by decide +kernel) ?_
  refine v_ldcw hx DJ6_bitCount_0f7a4_4 cnRJ6_265 (z := 1431655765) rfl ?_
  refine v_iand hx DJ6_bitCount_0f7a4_7 (z := 1) (by decide +kernel) ?_
  refine v_isub hx DJ6_bitCount_0f7a4_8 ?_
  refine v_top (z' := 6) (by decide) ?_
  refine v_istore hx DJ6_bitCount_0f7a4_9 [(0, iv 6)] rfl (by decide) ?_
  refine v_iload hx DJ6_bitCount_0f7a4_10 0 rfl ?_
  refine v_ldcw hx DJ6_bitCount_0f7a4_11 cnRJ6_266 (z := 858993459) rfl ?_
  refine v_iand hx DJ6_bitCount_0f7a4_14 (z := 2) (by decide +kernel) ?_
  refine v_iload hx DJ6_bitCount_0f7a4_15 0 rfl ?_
  refine v_push hx DJ6_bitCount_0f7a4_16 ?_
  refine v_iushr hx DJ6_bitCount_0f7a4_17 (z := 1) (by decide +kernel) ?_
  refine v_ldcw hx DJ6_bitCount_0f7a4_18 cnRJ6_266 (z := 858993459) rfl ?_
  refine v_iand hx DJ6_bitCount_0f7a4_21 (z := 1) (by decide +kernel) ?_
  refine v_iadd hx DJ6_bitCount_0f7a4_22 ?_
  refine v_top (z' := 3) (by decide) ?_
  refine v_istore hx DJ6_bitCount_0f7a4_23 [(0, iv 3)] rfl (by decide) ?_
  refine v_iload hx DJ6_bitCount_0f7a4_24 0 rfl ?_
  refine v_iload hx DJ6_bitCount_0f7a4_25 0 rfl ?_
  refine v_push hx DJ6_bitCount_0f7a4_26 ?_
  refine v_iushr hx DJ6_bitCount_0f7a4_27 (z := 0) (by decide +kernel) ?_
  refine v_iadd hx DJ6_bitCount_0f7a4_28 ?_
  refine v_top (z' := 3) (by decide) ?_
  refine v_ldcw hx DJ6_bitCount_0f7a4_29 cnRJ6_267 (z := 252645135) rfl ?_
  refine v_iand hx DJ6_bitCount_0f7a4_32 (z := 3) (by decide +kernel) ?_
  refine v_istore hx DJ6_bitCount_0f7a4_33 [(0, iv 3)] rfl (by decide) ?_
  refine v_iload hx DJ6_bitCount_0f7a4_34 0 rfl ?_
  refine v_iload hx DJ6_bitCount_0f7a4_35 0 rfl ?_
  refine v_push hx DJ6_bitCount_0f7a4_36 ?_
  refine v_iushr hx DJ6_bitCount_0f7a4_38 (z := 0) (by decide +kernel) ?_
  refine v_iadd hx DJ6_bitCount_0f7a4_39 ?_
  refine v_top (z' := 3) (by decide) ?_
  refine v_istore hx DJ6_bitCount_0f7a4_40 [(0, iv 3)] rfl (by decide) ?_
  refine v_iload hx DJ6_bitCount_0f7a4_41 0 rfl ?_
  refine v_iload hx DJ6_bitCount_0f7a4_42 0 rfl ?_
  refine v_push hx DJ6_bitCount_0f7a4_43 ?_
  refine v_iushr hx DJ6_bitCount_0f7a4_45 (z := 0) (by decide +kernel) ?_
  refine v_iadd hx DJ6_bitCount_0f7a4_46 ?_
  refine v_top (z' := 3) (by decide) ?_
  refine v_istore hx DJ6_bitCount_0f7a4_47 [(0, iv 3)] rfl (by decide) ?_
  refine v_iload hx DJ6_bitCount_0f7a4_48 0 rfl ?_
  refine v_push hx DJ6_bitCount_0f7a4_49 ?_
  refine v_iand hx DJ6_bitCount_0f7a4_51 (z := 3) (by decide +kernel) ?_
  exact v_ri hx hBD DJ6_bitCount_0f7a4_52 (⟨rfl, rfl⟩)
theorem j_bits_8 (l : Launch) (G : Gl) (Λ : Lay) (sz : Nat) (μ : Mem)   : Sp l G yJ6_bitCount_0f7a4 cJ6_bitCount_0f7a4 1 (some FieldType.int) 0 [iv 8] Λ sz μ (pP μ 1) := by
  refine Sp.introF (by decide +kernel) (Nat.le_of_ble_eq_true rfl) (fun x hx hBD => ?_)
  refine v_lv [(0, iv 8)] rfl ?_
  refine v_iload hx DJ6_bitCount_0f7a4_0 0 rfl ?_
  refine v_iload hx DJ6_bitCount_0f7a4_1 0 rfl ?_
  refine v_push hx DJ6_bitCount_0f7a4_2 ?_
  refine v_iushr hx DJ6_bitCount_0f7a4_3 (z := 4) (by decide +kernel) ?_
  refine v_ldcw hx DJ6_bitCount_0f7a4_4 cnRJ6_265 (z := 1431655765) rfl ?_
  refine v_iand hx DJ6_bitCount_0f7a4_7 (z := 4) (by decide +kernel) ?_
  refine v_isub hx DJ6_bitCount_0f7a4_8 ?_
  refine v_top (z' := 4) (by decide) ?_
  refine v_istore hx DJ6_bitCount_0f7a4_9 [(0, iv 4)] rfl (by decide) ?_
  refine v_iload hx DJ6_bitCount_0f7a4_10 0 rfl ?_
  refine v_ldcw hx DJ6_bitCount_0f7a4_11 cnRJ6_266 (z := 858993459) rfl ?_
  refine v_iand hx DJ6_bitCount_0f7a4_14 (z := 0) (by decide +kernel) ?_
  refine v_iload hx DJ6_bitCount_0f7a4_15 0 rfl ?_
  refine v_push hx DJ6_bitCount_0f7a4_16 ?_
  refine v_iushr hx DJ6_bitCount_0f7a4_17 (z := 1) (by decide +kernel) ?_
  refine v_ldcw hx DJ6_bitCount_0f7a4_18 cnRJ6_266 (z := 858993459) rfl ?_
  refine v_iand hx DJ6_bitCount_0f7a4_21 (z := 1) (by decide +kernel) ?_
  refine v_iadd hx DJ6_bitCount_0f7a4_22 ?_
  refine v_top (z' := 1) (by decide) ?_
  refine v_istore hx DJ6_bitCount_0f7a4_23 [(0, iv 1)] rfl (by decide) ?_
  refine v_iload hx DJ6_bitCount_0f7a4_24 0 rfl ?_
  refine v_iload hx DJ6_bitCount_0f7a4_25 0 rfl ?_
  refine v_push hx DJ6_bitCount_0f7a4_26 ?_
  refine v_iushr hx DJ6_bitCount_0f7a4_27 (z := 0) (by decide +kernel) ?_
  refine v_iadd hx DJ6_bitCount_0f7a4_28 ?_
  refine v_top (z' := 1) (by decide) ?_
  refine v_ldcw hx DJ6_bitCount_0f7a4_29 cnRJ6_267 (z := 252645135) rfl ?_
  refine v_iand hx DJ6_bitCount_0f7a4_32 (z := 1) (by decide +kernel) ?_
  refine v_istore hx DJ6_bitCount_0f7a4_33 [(0, iv 1)] rfl (by decide) ?_
  refine v_iload hx DJ6_bitCount_0f7a4_34 0 rfl ?_
  refine v_iload hx DJ6_bitCount_0f7a4_35 0 rfl ?_
  refine v_push hx DJ6_bitCount_0f7a4_36 ?_
  refine v_iushr hx DJ6_bitCount_0f7a4_38 (z := 0) (by decide +kernel) ?_
  refine v_iadd hx DJ6_bitCount_0f7a4_39 ?_
  refine v_top (z' := 1) (by decide) ?_
  refine v_istore hx DJ6_bitCount_0f7a4_40 [(0, iv 1)] rfl (by decide) ?_
  refine v_iload hx DJ6_bitCount_0f7a4_41 0 rfl ?_
  refine v_iload hx DJ6_bitCount_0f7a4_42 0 rfl ?_
  refine v_push hx DJ6_bitCount_0f7a4_43 ?_
  refine v_iushr hx DJ6_bitCount_0f7a4_45 (z := 0) (by decide +kernel) ?_
  refine v_iadd hx DJ6_bitCount_0f7a4_46 ?_
  refine v_top (z' := 1) (by decide) ?_
  refine v_istore hx DJ6_bitCount_0f7a4_47 [(0, iv 1)] rfl (by decide) ?_
  refine v_iload hx DJ6_bitCount_0f7a4_48 0 rfl ?_
  refine v_push hx DJ6_bitCount_0f7a4_49 ?_
  refine v_iand hx DJ6_bitCount_0f7a4_51 (z := 1) (by decide +kernel) ?_
  exact v_ri hx hBD DJ6_bitCount_0f7a4_52 (⟨rfl, rfl⟩)
theorem j_bits_9 (l : Launch) (G : Gl) (Λ : Lay) (sz : Nat) (μ : Mem)   : Sp l G yJ6_bitCount_0f7a4 cJ6_bitCount_0f7a4 1 (some FieldType.int) 0 [iv 9] Λ sz μ (pP μ 2) := by
  refine Sp.introF (by decide +kernel) (Nat.le_of_ble_eq_true rfl) (fun x hx hBD => ?_)
  refine v_lv [(0, iv 9)] rfl ?_
  refine v_iload hx DJ6_bitCount_0f7a4_0 0 rfl ?_
  refine v_iload hx DJ6_bitCount_0f7a4_1 0 rfl ?_
  refine v_push hx DJ6_bitCount_0f7a4_2 ?_
  refine v_iushr hx DJ6_bitCount_0f7a4_3 (z := 4) (by decide +kernel) ?_
  refine v_ldcw hx DJ6_bitCount_0f7a4_4 cnRJ6_265 (z := 1431655765) rfl ?_
  refine v_iand hx DJ6_bitCount_0f7a4_7 (z := 4) (by decide +kernel) ?_
  refine v_isub hx DJ6_bitCount_0f7a4_8 ?_
  refine v_top (z' := 5) (by decide) ?_
  refine v_istore hx DJ6_bitCount_0f7a4_9 [(0, iv 5)] rfl (by decide) ?_
  refine v_iload hx DJ6_bitCount_0f7a4_10 0 rfl ?_
  refine v_ldcw hx DJ6_bitCount_0f7a4_11 cnRJ6_266 (z := 858993459) rfl ?_
  refine v_iand hx DJ6_bitCount_0f7a4_14 (z := 1) (by decide +kernel) ?_
  refine v_iload hx DJ6_bitCount_0f7a4_15 0 rfl ?_
  refine v_push hx DJ6_bitCount_0f7a4_16 ?_
  refine v_iushr hx DJ6_bitCount_0f7a4_17 (z := 1) (by decide +kernel) ?_
  refine v_ldcw hx DJ6_bitCount_0f7a4_18 cnRJ6_266 (z := 858993459) rfl ?_
  refine v_iand hx DJ6_bitCount_0f7a4_21 (z := 1) (by decide +kernel) ?_
  refine v_iadd hx DJ6_bitCount_0f7a4_22 ?_
  refine v_top (z' := 2) (by decide) ?_
  refine v_istore hx DJ6_bitCount_0f7a4_23 [(0, iv 2)] rfl (by decide) ?_
  refine v_iload hx DJ6_bitCount_0f7a4_24 0 rfl ?_
  refine v_iload hx DJ6_bitCount_0f7a4_25 0 rfl ?_
  refine v_push hx DJ6_bitCount_0f7a4_26 ?_
  refine v_iushr hx DJ6_bitCount_0f7a4_27 (z := 0) (by decide +kernel) ?_
  refine v_iadd hx DJ6_bitCount_0f7a4_28 ?_
  refine v_top (z' := 2) (by decide) ?_
  refine v_ldcw hx DJ6_bitCount_0f7a4_29 cnRJ6_267 (z := 252645135) rfl ?_
  refine v_iand hx DJ6_bitCount_0f7a4_32 (z := 2) (by decide +kernel) ?_
  refine v_istore hx DJ6_bitCount_0f7a4_33 [(0, iv 2)] rfl (by decide) ?_
  refine v_iload hx DJ6_bitCount_0f7a4_34 0 rfl ?_
  refine v_iload hx DJ6_bitCount_0f7a4_35 0 rfl ?_
  refine v_push hx DJ6_bitCount_0f7a4_36 ?_
  refine v_iushr hx DJ6_bitCount_0f7a4_38 (z := 0) (by decide +kernel) ?_
  refine v_iadd hx DJ6_bitCount_0f7a4_39 ?_
  refine v_top (z' := 2) (by decide) ?_
  refine v_istore hx DJ6_bitCount_0f7a4_40 [(0, iv 2)] rfl (by decide) ?_
  refine v_iload hx DJ6_bitCount_0f7a4_41 0 rfl ?_
  refine v_iload hx DJ6_bitCount_0f7a4_42 0 rfl ?_
  refine v_push hx DJ6_bitCount_0f7a4_43 ?_
  refine v_iushr hx DJ6_bitCount_0f7a4_45 (z := 0) (by decide +kernel) ?_
  refine v_iadd hx DJ6_bitCount_0f7a4_46 ?_
  refine v_top (z' := 2) (by decide) ?_
  refine v_istore hx DJ6_bitCount_0f7a4_47 [(0, iv 2)] rfl (by decide) ?_
  refine v_iload hx DJ6_bitCount_0f7a4_48 0 rfl ?_
  refine v_push hx DJ6_bitCount_0f7a4_49 ?_
  refine v_iand hx DJ6_bitCount_0f7a4_51 (z := 2) (by decide +kernel) ?_
  exact v_ri hx hBD DJ6_bitCount_0f7a4_52 (⟨rfl, rfl⟩)
theorem j_bits_10 (l : Launch) (G : Gl) (Λ : Lay) (sz : Nat) (μ : Mem)   : Sp l G yJ6_bitCount_0f7a4 cJ6_bitCount_0f7a4 1 (some FieldType.int) 0 [iv 10] Λ sz μ (pP μ 2) := by
  refine Sp.introF (by decide +kernel) (Nat.le_of_ble_eq_true rfl) (fun x hx hBD => ?_)
  refine v_lv [(0, iv 10)] rfl ?_
  refine v_iload hx DJ6_bitCount_0f7a4_0 0 rfl ?_
  refine v_iload hx DJ6_bitCount_0f7a4_1 0 rfl ?_
  refine v_push hx DJ6_bitCount_0f7a4_2 ?_
  refine v_iushr hx DJ6_bitCount_0f7a4_3 (z := 5) (by decide +kernel) ?_
  refine v_ldcw hx DJ6_bitCount_0f7a4_4 cnRJ6_265 (z := 1431655765) rfl ?_
  refine v_iand hx DJ6_bitCount_0f7a4_7 (z := 5) (by decide +kernel) ?_
  refine v_isub hx DJ6_bitCount_0f7a4_8 ?_
  refine v_top (z' := 5) (by decide) ?_
  refine v_istore hx DJ6_bitCount_0f7a4_9 [(0, iv 5)] rfl (by decide) ?_
  refine v_iload hx DJ6_bitCount_0f7a4_10 0 rfl ?_
  refine v_ldcw hx DJ6_bitCount_0f7a4_11 cnRJ6_266 (z := 858993459) rfl ?_
  refine v_iand hx DJ6_bitCount_0f7a4_14 (z := 1) (by decide +kernel) ?_
  refine v_iload hx DJ6_bitCount_0f7a4_15 0 rfl ?_
  refine v_push hx DJ6_bitCount_0f7a4_16 ?_
  refine v_iushr hx DJ6_bitCount_0f7a4_17 (z := 1) (by decide +kernel) ?_
  refine v_ldcw hx DJ6_bitCount_0f7a4_18 cnRJ6_266 (z := 858993459) rfl ?_
  refine v_iand hx DJ6_bitCount_0f7a4_21 (z := 1) (by decide +kernel) ?_
  refine v_iadd hx DJ6_bitCount_0f7a4_22 ?_
  refine v_top (z' := 2) (by decide) ?_
  refine v_istore hx DJ6_bitCount_0f7a4_23 [(0, iv 2)] rfl (by decide) ?_
  refine v_iload hx DJ6_bitCount_0f7a4_24 0 rfl ?_
  refine v_iload hx DJ6_bitCount_0f7a4_25 0 rfl ?_
  refine v_push hx DJ6_bitCount_0f7a4_26 ?_
  refine v_iushr hx DJ6_bitCount_0f7a4_27 (z := 0) (by decide +kernel) ?_
  refine v_iadd hx DJ6_bitCount_0f7a4_28 ?_
  refine v_top (z' := 2) (by decide) ?_
  refine v_ldcw hx DJ6_bitCount_0f7a4_29 cnRJ6_267 (z := 252645135) rfl ?_
  refine v_iand hx DJ6_bitCount_0f7a4_32 (z := 2) (by decide +kernel) ?_
  refine v_istore hx DJ6_bitCount_0f7a4_33 [(0, iv 2)] rfl (by decide) ?_
  refine v_iload hx DJ6_bitCount_0f7a4_34 0 rfl ?_
  refine v_iload hx DJ6_bitCount_0f7a4_35 0 rfl ?_
  refine v_push hx DJ6_bitCount_0f7a4_36 ?_
  refine v_iushr hx DJ6_bitCount_0f7a4_38 (z := 0) (by decide +kernel) ?_
  refine v_iadd hx DJ6_bitCount_0f7a4_39 ?_
  refine v_top (z' := 2) (by decide) ?_
  refine v_istore hx DJ6_bitCount_0f7a4_40 [(0, iv 2)] rfl (by decide) ?_
  refine v_iload hx DJ6_bitCount_0f7a4_41 0 rfl ?_
  refine v_iload hx DJ6_bitCount_0f7a4_42 0 rfl ?_
  refine v_push hx DJ6_bitCount_0f7a4_43 ?_
  refine v_iushr hx DJ6_bitCount_0f7a4_45 (z := 0) (by decide +kernel) ?_
  refine v_iadd hx DJ6_bitCount_0f7a4_46 ?_
  refine v_top (z' := 2) (by decide) ?_
  refine v_istore hx DJ6_bitCount_0f7a4_47 [(0, iv 2)] rfl (by decide) ?_
  refine v_iload hx DJ6_bitCount_0f7a4_48 0 rfl ?_
  refine v_push hx DJ6_bitCount_0f7a4_49 ?_
  refine v_iand hx DJ6_bitCount_0f7a4_51 (z := 2) (by decide +kernel) ?_
  exact v_ri hx hBD DJ6_bitCount_0f7a4_52 (⟨rfl, rfl⟩)
theorem j_bits_11 (l : Launch) (G : Gl) (Λ : Lay) (sz : Nat) (μ : Mem)   : Sp l G yJ6_bitCount_0f7a4 cJ6_bitCount_0f7a4 1 (some FieldType.int) 0 [iv 11] Λ sz μ (pP μ 3) := by
  refine Sp.introF (by decide +kernel) (Nat.le_of_ble_eq_true rfl) (fun x hx hBD => ?_)
  refine v_lv [(0, iv 11)] rfl ?_
  refine v_iload hx DJ6_bitCount_0f7a4_0 0 rfl ?_
  refine v_iload hx DJ6_bitCount_0f7a4_1 0 rfl ?_
  refine v_push hx DJ6_bitCount_0f7a4_2 ?_
  refine v_iushr hx DJ6_bitCount_0f7a4_3 (z := 5) (by decide +kernel) ?_
  refine v_ldcw hx DJ6_bitCount_0f7a4_4 cnRJ6_265 (z := 1431655765) rfl ?_
  refine v_iand hx DJ6_bitCount_0f7a4_7 (z := 5) (by decide +kernel) ?_
  refine v_isub hx DJ6_bitCount_0f7a4_8 ?_
  refine v_top (z' := 6) (by decide) ?_
  refine v_istore hx DJ6_bitCount_0f7a4_9 [(0, iv 6)] rfl (by decide) ?_
  refine v_iload hx DJ6_bitCount_0f7a4_10 0 rfl ?_
  refine v_ldcw hx DJ6_bitCount_0f7a4_11 cnRJ6_266 (z := 858993459) rfl ?_
  refine v_iand hx DJ6_bitCount_0f7a4_14 (z := 2) (by decide +kernel) ?_
  refine v_iload hx DJ6_bitCount_0f7a4_15 0 rfl ?_
  refine v_push hx DJ6_bitCount_0f7a4_16 ?_
  refine v_iushr hx DJ6_bitCount_0f7a4_17 (z := 1) (by decide +kernel) ?_
  refine v_ldcw hx DJ6_bitCount_0f7a4_18 cnRJ6_266 (z := 858993459) rfl ?_
  refine v_iand hx DJ6_bitCount_0f7a4_21 (z := 1) (by decide +kernel) ?_
  refine v_iadd hx DJ6_bitCount_0f7a4_22 ?_
  refine v_top (z' := 3) (by decide) ?_
  refine v_istore hx DJ6_bitCount_0f7a4_23 [(0, iv 3)] rfl (by decide) ?_
  refine v_iload hx DJ6_bitCount_0f7a4_24 0 rfl ?_
  refine v_iload hx DJ6_bitCount_0f7a4_25 0 rfl ?_
  refine v_push hx DJ6_bitCount_0f7a4_26 ?_
  refine v_iushr hx DJ6_bitCount_0f7a4_27 (z := 0) (by decide +kernel) ?_
  refine v_iadd hx DJ6_bitCount_0f7a4_28 ?_
  refine v_top (z' := 3) (by decide) ?_
  refine v_ldcw hx DJ6_bitCount_0f7a4_29 cnRJ6_267 (z := 252645135) rfl ?_
  refine v_iand hx DJ6_bitCount_0f7a4_32 (z := 3) (by decide +kernel) ?_
  refine v_istore hx DJ6_bitCount_0f7a4_33 [(0, iv 3)] rfl (by decide) ?_
  refine v_iload hx DJ6_bitCount_0f7a4_34 0 rfl ?_
  refine v_iload hx DJ6_bitCount_0f7a4_35 0 rfl ?_
  refine v_push hx DJ6_bitCount_0f7a4_36 ?_
  refine v_iushr hx DJ6_bitCount_0f7a4_38 (z := 0) (by decide +kernel) ?_
  refine v_iadd hx DJ6_bitCount_0f7a4_39 ?_
  refine v_top (z' := 3) (by decide) ?_
  refine v_istore hx DJ6_bitCount_0f7a4_40 [(0, iv 3)] rfl (by decide) ?_
  refine v_iload hx DJ6_bitCount_0f7a4_41 0 rfl ?_
  refine v_iload hx DJ6_bitCount_0f7a4_42 0 rfl ?_
  refine v_push hx DJ6_bitCount_0f7a4_43 ?_
  refine v_iushr hx DJ6_bitCount_0f7a4_45 (z := 0) (by decide +kernel) ?_
  refine v_iadd hx DJ6_bitCount_0f7a4_46 ?_
  refine v_top (z' := 3) (by decide) ?_
  refine v_istore hx DJ6_bitCount_0f7a4_47 [(0, iv 3)] rfl (by decide) ?_
  refine v_iload hx DJ6_bitCount_0f7a4_48 0 rfl ?_
  refine v_push hx DJ6_bitCount_0f7a4_49 ?_
  refine v_iand hx DJ6_bitCount_0f7a4_51 (z := 3) (by decide +kernel) ?_
  exact v_ri hx hBD DJ6_bitCount_0f7a4_52 (⟨rfl, rfl⟩)
theorem j_bits_12 (l : Launch) (G : Gl) (Λ : Lay) (sz : Nat) (μ : Mem)   : Sp l G yJ6_bitCount_0f7a4 cJ6_bitCount_0f7a4 1 (some FieldType.int) 0 [iv 12] Λ sz μ (pP μ 2) := by
  refine Sp.introF (by decide +kernel) (Nat.le_of_ble_eq_true rfl) (fun x hx hBD => ?_)
  refine v_lv [(0, iv 12)] rfl ?_
  refine v_iload hx DJ6_bitCount_0f7a4_0 0 rfl ?_
  refine v_iload hx DJ6_bitCount_0f7a4_1 0 rfl ?_
  refine v_push hx DJ6_bitCount_0f7a4_2 ?_
  refine v_iushr hx DJ6_bitCount_0f7a4_3 (z := 6) (by decide +kernel) ?_
  refine v_ldcw hx DJ6_bitCount_0f7a4_4 cnRJ6_265 (z := 1431655765) rfl ?_
  refine v_iand hx DJ6_bitCount_0f7a4_7 (z := 4) (by decide +kernel) ?_
  refine v_isub hx DJ6_bitCount_0f7a4_8 ?_
  refine v_top (z' := 8) (by decide) ?_
  refine v_istore hx DJ6_bitCount_0f7a4_9 [(0, iv 8)] rfl (by decide) ?_
  refine v_iload hx DJ6_bitCount_0f7a4_10 0 rfl ?_
  refine v_ldcw hx DJ6_bitCount_0f7a4_11 cnRJ6_266 (z := 858993459) rfl ?_
  refine v_iand hx DJ6_bitCount_0f7a4_14 (z := 0) (by decide +kernel) ?_
  refine v_iload hx DJ6_bitCount_0f7a4_15 0 rfl ?_
  refine v_push hx DJ6_bitCount_0f7a4_16 ?_
  refine v_iushr hx DJ6_bitCount_0f7a4_17 (z := 2) (by decide +kernel) ?_
  refine v_ldcw hx DJ6_bitCount_0f7a4_18 cnRJ6_266 (z := 858993459) rfl ?_
  refine v_iand hx DJ6_bitCount_0f7a4_21 (z := 2) (by decide +kernel) ?_
  refine v_iadd hx DJ6_bitCount_0f7a4_22 ?_
  refine v_top (z' := 2) (by decide) ?_
  refine v_istore hx DJ6_bitCount_0f7a4_23 [(0, iv 2)] rfl (by decide) ?_
  refine v_iload hx DJ6_bitCount_0f7a4_24 0 rfl ?_
  refine v_iload hx DJ6_bitCount_0f7a4_25 0 rfl ?_
  refine v_push hx DJ6_bitCount_0f7a4_26 ?_
  refine v_iushr hx DJ6_bitCount_0f7a4_27 (z := 0) (by decide +kernel) ?_
  refine v_iadd hx DJ6_bitCount_0f7a4_28 ?_
  refine v_top (z' := 2) (by decide) ?_
  refine v_ldcw hx DJ6_bitCount_0f7a4_29 cnRJ6_267 (z := 252645135) rfl ?_
  refine v_iand hx DJ6_bitCount_0f7a4_32 (z := 2) (by decide +kernel) ?_
  refine v_istore hx DJ6_bitCount_0f7a4_33 [(0, iv 2)] rfl (by decide) ?_
  refine v_iload hx DJ6_bitCount_0f7a4_34 0 rfl ?_
  refine v_iload hx DJ6_bitCount_0f7a4_35 0 rfl ?_
  refine v_push hx DJ6_bitCount_0f7a4_36 ?_
  refine v_iushr hx DJ6_bitCount_0f7a4_38 (z := 0) (by decide +kernel) ?_
  refine v_iadd hx DJ6_bitCount_0f7a4_39 ?_
  refine v_top (z' := 2) (by decide) ?_
  refine v_istore hx DJ6_bitCount_0f7a4_40 [(0, iv 2)] rfl (by decide) ?_
  refine v_iload hx DJ6_bitCount_0f7a4_41 0 rfl ?_
  refine v_iload hx DJ6_bitCount_0f7a4_42 0 rfl ?_
  refine v_push hx DJ6_bitCount_0f7a4_43 ?_
  refine v_iushr hx DJ6_bitCount_0f7a4_45 (z := 0) (by decide +kernel) ?_
  refine v_iadd hx DJ6_bitCount_0f7a4_46 ?_
  refine v_top (z' := 2) (by decide) ?_
  refine v_istore hx DJ6_bitCount_0f7a4_47 [(0, iv 2)] rfl (by decide) ?_
  refine v_iload hx DJ6_bitCount_0f7a4_48 0 rfl ?_
  refine v_push hx DJ6_bitCount_0f7a4_49 ?_
  refine v_iand hx DJ6_bitCount_0f7a4_51 (z := 2) (by decide +kernel) ?_
  exact v_ri hx hBD DJ6_bitCount_0f7a4_52 (⟨rfl, rfl⟩)
theorem j_bits_13 (l : Launch) (G : Gl) (Λ : Lay) (sz : Nat) (μ : Mem)   : Sp l G yJ6_bitCount_0f7a4 cJ6_bitCount_0f7a4 1 (some FieldType.int) 0 [iv 13] Λ sz μ (pP μ 3) := by
  refine Sp.introF (by decide +kernel) (Nat.le_of_ble_eq_true rfl) (fun x hx hBD => ?_)
  refine v_lv [(0, iv 13)] rfl ?_
  refine v_iload hx DJ6_bitCount_0f7a4_0 0 rfl ?_
  refine v_iload hx DJ6_bitCount_0f7a4_1 0 rfl ?_
  refine v_push hx DJ6_bitCount_0f7a4_2 ?_
  refine v_iushr hx DJ6_bitCount_0f7a4_3 (z := 6) (by decide +kernel) ?_
  refine v_ldcw hx DJ6_bitCount_0f7a4_4 cnRJ6_265 (z := 1431655765) rfl ?_
  refine v_iand hx DJ6_bitCount_0f7a4_7 (z := 4) (by decide +kernel) ?_
  refine v_isub hx DJ6_bitCount_0f7a4_8 ?_
  refine v_top (z' := 9) (by decide) ?_
  refine v_istore hx DJ6_bitCount_0f7a4_9 [(0, iv 9)] rfl (by decide) ?_
  refine v_iload hx DJ6_bitCount_0f7a4_10 0 rfl ?_
  refine v_ldcw hx DJ6_bitCount_0f7a4_11 cnRJ6_266 (z := 858993459) rfl ?_
  refine v_iand hx DJ6_bitCount_0f7a4_14 (z := 1) (by decide +kernel) ?_
  refine v_iload hx DJ6_bitCount_0f7a4_15 0 rfl ?_
  refine v_push hx DJ6_bitCount_0f7a4_16 ?_
  refine v_iushr hx DJ6_bitCount_0f7a4_17 (z := 2) (by decide +kernel) ?_
  refine v_ldcw hx DJ6_bitCount_0f7a4_18 cnRJ6_266 (z := 858993459) rfl ?_
  refine v_iand hx DJ6_bitCount_0f7a4_21 (z := 2) (by decide +kernel) ?_
  refine v_iadd hx DJ6_bitCount_0f7a4_22 ?_
  refine v_top (z' := 3) (by decide) ?_
  refine v_istore hx DJ6_bitCount_0f7a4_23 [(0, iv 3)] rfl (by decide) ?_
  refine v_iload hx DJ6_bitCount_0f7a4_24 0 rfl ?_
  refine v_iload hx DJ6_bitCount_0f7a4_25 0 rfl ?_
  refine v_push hx DJ6_bitCount_0f7a4_26 ?_
  refine v_iushr hx DJ6_bitCount_0f7a4_27 (z := 0) (by decide +kernel) ?_
  refine v_iadd hx DJ6_bitCount_0f7a4_28 ?_
  refine v_top (z' := 3) (by decide) ?_
  refine v_ldcw hx DJ6_bitCount_0f7a4_29 cnRJ6_267 (z := 252645135) rfl ?_
  refine v_iand hx DJ6_bitCount_0f7a4_32 (z := 3) (by decide +kernel) ?_
  refine v_istore hx DJ6_bitCount_0f7a4_33 [(0, iv 3)] rfl (by decide) ?_
  refine v_iload hx DJ6_bitCount_0f7a4_34 0 rfl ?_
  refine v_iload hx DJ6_bitCount_0f7a4_35 0 rfl ?_
  refine v_push hx DJ6_bitCount_0f7a4_36 ?_
  refine v_iushr hx DJ6_bitCount_0f7a4_38 (z := 0) (by decide +kernel) ?_
  refine v_iadd hx DJ6_bitCount_0f7a4_39 ?_
  refine v_top (z' := 3) (by decide) ?_
  refine v_istore hx DJ6_bitCount_0f7a4_40 [(0, iv 3)] rfl (by decide) ?_
  refine v_iload hx DJ6_bitCount_0f7a4_41 0 rfl ?_
  refine v_iload hx DJ6_bitCount_0f7a4_42 0 rfl ?_
  refine v_push hx DJ6_bitCount_0f7a4_43 ?_
  refine v_iushr hx DJ6_bitCount_0f7a4_45 (z := 0) (by decide +kernel) ?_
  refine v_iadd hx DJ6_bitCount_0f7a4_46 ?_
  refine v_top (z' := 3) (by decide) ?_
  refine v_istore hx DJ6_bitCount_0f7a4_47 [(0, iv 3)] rfl (by decide) ?_
  refine v_iload hx DJ6_bitCount_0f7a4_48 0 rfl ?_
  refine v_push hx DJ6_bitCount_0f7a4_49 ?_
  refine v_iand hx DJ6_bitCount_0f7a4_51 (z := 3) (by decide +kernel) ?_
  exact v_ri hx hBD DJ6_bitCount_0f7a4_52 (⟨rfl, rfl⟩)
theorem j_bits_14 (l : Launch) (G : Gl) (Λ : Lay) (sz : Nat) (μ : Mem)   : Sp l G yJ6_bitCount_0f7a4 cJ6_bitCount_0f7a4 1 (some FieldType.int) 0 [iv 14] Λ sz μ (pP μ 3) := by
  refine Sp.introF (by decide +kernel) (Nat.le_of_ble_eq_true rfl) (fun x hx hBD => ?_)
  refine v_lv [(0, iv 14)] rfl ?_
  refine v_iload hx DJ6_bitCount_0f7a4_0 0 rfl ?_
  refine v_iload hx DJ6_bitCount_0f7a4_1 0 rfl ?_
  refine v_push hx DJ6_bitCount_0f7a4_2 ?_
  refine v_iushr hx DJ6_bitCount_0f7a4_3 (z := 7) (by decide +kernel) ?_
  refine v_ldcw hx DJ6_bitCount_0f7a4_4 cnRJ6_265 (z := 1431655765) rfl ?_
  refine v_iand hx DJ6_bitCount_0f7a4_7 (z := 5) (by decide +kernel) ?_
  refine v_isub hx DJ6_bitCount_0f7a4_8 ?_
  refine v_top (z' := 9) (by decide) ?_
  refine v_istore hx DJ6_bitCount_0f7a4_9 [(0, iv 9)] rfl (by decide) ?_
  refine v_iload hx DJ6_bitCount_0f7a4_10 0 rfl ?_
  refine v_ldcw hx DJ6_bitCount_0f7a4_11 cnRJ6_266 (z := 858993459) rfl ?_
  refine v_iand hx DJ6_bitCount_0f7a4_14 (z := 1) (by decide +kernel) ?_
  refine v_iload hx DJ6_bitCount_0f7a4_15 0 rfl ?_
  refine v_push hx DJ6_bitCount_0f7a4_16 ?_
  refine v_iushr hx DJ6_bitCount_0f7a4_17 (z := 2) (by decide +kernel) ?_
  refine v_ldcw hx DJ6_bitCount_0f7a4_18 cnRJ6_266 (z := 858993459) rfl ?_
  refine v_iand hx DJ6_bitCount_0f7a4_21 (z := 2) (by decide +kernel) ?_
  refine v_iadd hx DJ6_bitCount_0f7a4_22 ?_
  refine v_top (z' := 3) (by decide) ?_
  refine v_istore hx DJ6_bitCount_0f7a4_23 [(0, iv 3)] rfl (by decide) ?_
  refine v_iload hx DJ6_bitCount_0f7a4_24 0 rfl ?_
  refine v_iload hx DJ6_bitCount_0f7a4_25 0 rfl ?_
  refine v_push hx DJ6_bitCount_0f7a4_26 ?_
  refine v_iushr hx DJ6_bitCount_0f7a4_27 (z := 0) (by decide +kernel) ?_
  refine v_iadd hx DJ6_bitCount_0f7a4_28 ?_
  refine v_top (z' := 3) (by decide) ?_
  refine v_ldcw hx DJ6_bitCount_0f7a4_29 cnRJ6_267 (z := 252645135) rfl ?_
  refine v_iand hx DJ6_bitCount_0f7a4_32 (z := 3) (by decide +kernel) ?_
  refine v_istore hx DJ6_bitCount_0f7a4_33 [(0, iv 3)] rfl (by decide) ?_
  refine v_iload hx DJ6_bitCount_0f7a4_34 0 rfl ?_
  refine v_iload hx DJ6_bitCount_0f7a4_35 0 rfl ?_
  refine v_push hx DJ6_bitCount_0f7a4_36 ?_
  refine v_iushr hx DJ6_bitCount_0f7a4_38 (z := 0) (by decide +kernel) ?_
  refine v_iadd hx DJ6_bitCount_0f7a4_39 ?_
  refine v_top (z' := 3) (by decide) ?_
  refine v_istore hx DJ6_bitCount_0f7a4_40 [(0, iv 3)] rfl (by decide) ?_
  refine v_iload hx DJ6_bitCount_0f7a4_41 0 rfl ?_
  refine v_iload hx DJ6_bitCount_0f7a4_42 0 rfl ?_
  refine v_push hx DJ6_bitCount_0f7a4_43 ?_
  refine v_iushr hx DJ6_bitCount_0f7a4_45 (z := 0) (by decide +kernel) ?_
  refine v_iadd hx DJ6_bitCount_0f7a4_46 ?_
  refine v_top (z' := 3) (by decide) ?_
  refine v_istore hx DJ6_bitCount_0f7a4_47 [(0, iv 3)] rfl (by decide) ?_
  refine v_iload hx DJ6_bitCount_0f7a4_48 0 rfl ?_
  refine v_push hx DJ6_bitCount_0f7a4_49 ?_
  refine v_iand hx DJ6_bitCount_0f7a4_51 (z := 3) (by decide +kernel) ?_
  exact v_ri hx hBD DJ6_bitCount_0f7a4_52 (⟨rfl, rfl⟩)
theorem j_bits_15 (l : Launch) (G : Gl) (Λ : Lay) (sz : Nat) (μ : Mem)   : Sp l G yJ6_bitCount_0f7a4 cJ6_bitCount_0f7a4 1 (some FieldType.int) 0 [iv 15] Λ sz μ (pP μ 4) := by
  refine Sp.introF (by decide +kernel) (Nat.le_of_ble_eq_true rfl) (fun x hx hBD => ?_)
  refine v_lv [(0, iv 15)] rfl ?_
  refine v_iload hx DJ6_bitCount_0f7a4_0 0 rfl ?_
  refine v_iload hx DJ6_bitCount_0f7a4_1 0 rfl ?_
  refine v_push hx DJ6_bitCount_0f7a4_2 ?_
  refine v_iushr hx DJ6_bitCount_0f7a4_3 (z := 7) (by decide +kernel) ?_
  refine v_ldcw hx DJ6_bitCount_0f7a4_4 cnRJ6_265 (z := 1431655765) rfl ?_
  refine v_iand hx DJ6_bitCount_0f7a4_7 (z := 5) (by decide +kernel) ?_
  refine v_isub hx DJ6_bitCount_0f7a4_8 ?_
  refine v_top (z' := 10) (by decide) ?_
  refine v_istore hx DJ6_bitCount_0f7a4_9 [(0, iv 10)] rfl (by decide) ?_
  refine v_iload hx DJ6_bitCount_0f7a4_10 0 rfl ?_
  refine v_ldcw hx DJ6_bitCount_0f7a4_11 cnRJ6_266 (z := 858993459) rfl ?_
  refine v_iand hx DJ6_bitCount_0f7a4_14 (z := 2) (by decide +kernel) ?_
  refine v_iload hx DJ6_bitCount_0f7a4_15 0 rfl ?_
  refine v_push hx DJ6_bitCount_0f7a4_16 ?_
  refine v_iushr hx DJ6_bitCount_0f7a4_17 (z := 2) (by decide +kernel) ?_
  refine v_ldcw hx DJ6_bitCount_0f7a4_18 cnRJ6_266 (z := 858993459) rfl ?_
  refine v_iand hx DJ6_bitCount_0f7a4_21 (z := 2) (by decide +kernel) ?_
  refine v_iadd hx DJ6_bitCount_0f7a4_22 ?_
  refine v_top (z' := 4) (by decide) ?_
  refine v_istore hx DJ6_bitCount_0f7a4_23 [(0, iv 4)] rfl (by decide) ?_
  refine v_iload hx DJ6_bitCount_0f7a4_24 0 rfl ?_
  refine v_iload hx DJ6_bitCount_0f7a4_25 0 rfl ?_
  refine v_push hx DJ6_bitCount_0f7a4_26 ?_
  refine v_iushr hx DJ6_bitCount_0f7a4_27 (z := 0) (by decide +kernel) ?_
  refine v_iadd hx DJ6_bitCount_0f7a4_28 ?_
  refine v_top (z' := 4) (by decide) ?_
  refine v_ldcw hx DJ6_bitCount_0f7a4_29 cnRJ6_267 (z := 252645135) rfl ?_
  refine v_iand hx DJ6_bitCount_0f7a4_32 (z := 4) (by decide +kernel) ?_
  refine v_istore hx DJ6_bitCount_0f7a4_33 [(0, iv 4)] rfl (by decide) ?_
  refine v_iload hx DJ6_bitCount_0f7a4_34 0 rfl ?_
  refine v_iload hx DJ6_bitCount_0f7a4_35 0 rfl ?_
  refine v_push hx DJ6_bitCount_0f7a4_36 ?_
  refine v_iushr hx DJ6_bitCount_0f7a4_38 (z := 0) (by decide +kernel) ?_
  refine v_iadd hx DJ6_bitCount_0f7a4_39 ?_
  refine v_top (z' := 4) (by decide) ?_
  refine v_istore hx DJ6_bitCount_0f7a4_40 [(0, iv 4)] rfl (by decide) ?_
  refine v_iload hx DJ6_bitCount_0f7a4_41 0 rfl ?_
  refine v_iload hx DJ6_bitCount_0f7a4_42 0 rfl ?_
  refine v_push hx DJ6_bitCount_0f7a4_43 ?_
  refine v_iushr hx DJ6_bitCount_0f7a4_45 (z := 0) (by decide +kernel) ?_
  refine v_iadd hx DJ6_bitCount_0f7a4_46 ?_
  refine v_top (z' := 4) (by decide) ?_
  refine v_istore hx DJ6_bitCount_0f7a4_47 [(0, iv 4)] rfl (by decide) ?_
  refine v_iload hx DJ6_bitCount_0f7a4_48 0 rfl ?_
  refine v_push hx DJ6_bitCount_0f7a4_49 ?_
  refine v_iand hx DJ6_bitCount_0f7a4_51 (z := 4) (by decide +kernel) ?_
  exact v_ri hx hBD DJ6_bitCount_0f7a4_52 (⟨rfl, rfl⟩)
theorem j_bits_16 (l : Launch) (G : Gl) (Λ : Lay) (sz : Nat) (μ : Mem)   : Sp l G yJ6_bitCount_0f7a4 cJ6_bitCount_0f7a4 1 (some FieldType.int) 0 [iv 16] Λ sz μ (pP μ 1) := by
  refine Sp.introF (by decide +kernel) (Nat.le_of_ble_eq_true rfl) (fun x hx hBD => ?_)
  refine v_lv [(0, iv 16)] rfl ?_
  refine v_iload hx DJ6_bitCount_0f7a4_0 0 rfl ?_
  refine v_iload hx DJ6_bitCount_0f7a4_1 0 rfl ?_
  refine v_push hx DJ6_bitCount_0f7a4_2 ?_
  refine v_iushr hx DJ6_bitCount_0f7a4_3 (z := 8) (by decide +kernel) ?_
  refine v_ldcw hx DJ6_bitCount_0f7a4_4 cnRJ6_265 (z := 1431655765) rfl ?_
  refine v_iand hx DJ6_bitCount_0f7a4_7 (z := 0) (by decide +kernel) ?_
  refine v_isub hx DJ6_bitCount_0f7a4_8 ?_
  refine v_top (z' := 16) (by decide) ?_
  refine v_istore hx DJ6_bitCount_0f7a4_9 [(0, iv 16)] rfl (by decide) ?_
  refine v_iload hx DJ6_bitCount_0f7a4_10 0 rfl ?_
  refine v_ldcw hx DJ6_bitCount_0f7a4_11 cnRJ6_266 (z := 858993459) rfl ?_
  refine v_iand hx DJ6_bitCount_0f7a4_14 (z := 16) (by decide +kernel) ?_
  refine v_iload hx DJ6_bitCount_0f7a4_15 0 rfl ?_
  refine v_push hx DJ6_bitCount_0f7a4_16 ?_
  refine v_iushr hx DJ6_bitCount_0f7a4_17 (z := 4) (by decide +kernel) ?_
  refine v_ldcw hx DJ6_bitCount_0f7a4_18 cnRJ6_266 (z := 858993459) rfl ?_
  refine v_iand hx DJ6_bitCount_0f7a4_21 (z := 0) (by decide +kernel) ?_
  refine v_iadd hx DJ6_bitCount_0f7a4_22 ?_
  refine v_top (z' := 16) (by decide) ?_
  refine v_istore hx DJ6_bitCount_0f7a4_23 [(0, iv 16)] rfl (by decide) ?_
  refine v_iload hx DJ6_bitCount_0f7a4_24 0 rfl ?_
  refine v_iload hx DJ6_bitCount_0f7a4_25 0 rfl ?_
  refine v_push hx DJ6_bitCount_0f7a4_26 ?_
  refine v_iushr hx DJ6_bitCount_0f7a4_27 (z := 1) (by decide +kernel) ?_
  refine v_iadd hx DJ6_bitCount_0f7a4_28 ?_
  refine v_top (z' := 17) (by decide) ?_
  refine v_ldcw hx DJ6_bitCount_0f7a4_29 cnRJ6_267 (z := 252645135) rfl ?_
  refine v_iand hx DJ6_bitCount_0f7a4_32 (z := 1) (by decide +kernel) ?_
  refine v_istore hx DJ6_bitCount_0f7a4_33 [(0, iv 1)] rfl (by decide) ?_
  refine v_iload hx DJ6_bitCount_0f7a4_34 0 rfl ?_
  refine v_iload hx DJ6_bitCount_0f7a4_35 0 rfl ?_
  refine v_push hx DJ6_bitCount_0f7a4_36 ?_
  refine v_iushr hx DJ6_bitCount_0f7a4_38 (z := 0) (by decide +kernel) ?_
  refine v_iadd hx DJ6_bitCount_0f7a4_39 ?_
  refine v_top (z' := 1) (by decide) ?_
  refine v_istore hx DJ6_bitCount_0f7a4_40 [(0, iv 1)] rfl (by decide) ?_
  refine v_iload hx DJ6_bitCount_0f7a4_41 0 rfl ?_
  refine v_iload hx DJ6_bitCount_0f7a4_42 0 rfl ?_
  refine v_push hx DJ6_bitCount_0f7a4_43 ?_
  refine v_iushr hx DJ6_bitCount_0f7a4_45 (z := 0) (by decide +kernel) ?_
  refine v_iadd hx DJ6_bitCount_0f7a4_46 ?_
  refine v_top (z' := 1) (by decide) ?_
  refine v_istore hx DJ6_bitCount_0f7a4_47 [(0, iv 1)] rfl (by decide) ?_
  refine v_iload hx DJ6_bitCount_0f7a4_48 0 rfl ?_
  refine v_push hx DJ6_bitCount_0f7a4_49 ?_
  refine v_iand hx DJ6_bitCount_0f7a4_51 (z := 1) (by decide +kernel) ?_
  exact v_ri hx hBD DJ6_bitCount_0f7a4_52 (⟨rfl, rfl⟩)
theorem j_bits_17 (l : Launch) (G : Gl) (Λ : Lay) (sz : Nat) (μ : Mem)   : Sp l G yJ6_bitCount_0f7a4 cJ6_bitCount_0f7a4 1 (some FieldType.int) 0 [iv 17] Λ sz μ (pP μ 2) := by
  refine Sp.introF (by decide +kernel) (Nat.le_of_ble_eq_true rfl) (fun x hx hBD => ?_)
  refine v_lv [(0, iv 17)] rfl ?_
  refine v_iload hx DJ6_bitCount_0f7a4_0 0 rfl ?_
  refine v_iload hx DJ6_bitCount_0f7a4_1 0 rfl ?_
  refine v_push hx DJ6_bitCount_0f7a4_2 ?_
  refine v_iushr hx DJ6_bitCount_0f7a4_3 (z := 8) (by decide +kernel) ?_
  refine v_ldcw hx DJ6_bitCount_0f7a4_4 cnRJ6_265 (z := 1431655765) rfl ?_
  refine v_iand hx DJ6_bitCount_0f7a4_7 (z := 0) (by decide +kernel) ?_
  refine v_isub hx DJ6_bitCount_0f7a4_8 ?_
  refine v_top (z' := 17) (by decide) ?_
  refine v_istore hx DJ6_bitCount_0f7a4_9 [(0, iv 17)] rfl (by decide) ?_
  refine v_iload hx DJ6_bitCount_0f7a4_10 0 rfl ?_
  refine v_ldcw hx DJ6_bitCount_0f7a4_11 cnRJ6_266 (z := 858993459) rfl ?_
  refine v_iand hx DJ6_bitCount_0f7a4_14 (z := 17) (by decide +kernel) ?_
  refine v_iload hx DJ6_bitCount_0f7a4_15 0 rfl ?_
  refine v_push hx DJ6_bitCount_0f7a4_16 ?_
  refine v_iushr hx DJ6_bitCount_0f7a4_17 (z := 4) (by decide +kernel) ?_
  refine v_ldcw hx DJ6_bitCount_0f7a4_18 cnRJ6_266 (z := 858993459) rfl ?_
  refine v_iand hx DJ6_bitCount_0f7a4_21 (z := 0) (by decide +kernel) ?_
  refine v_iadd hx DJ6_bitCount_0f7a4_22 ?_
  refine v_top (z' := 17) (by decide) ?_
  refine v_istore hx DJ6_bitCount_0f7a4_23 [(0, iv 17)] rfl (by decide) ?_
  refine v_iload hx DJ6_bitCount_0f7a4_24 0 rfl ?_
  refine v_iload hx DJ6_bitCount_0f7a4_25 0 rfl ?_
  refine v_push hx DJ6_bitCount_0f7a4_26 ?_
  refine v_iushr hx DJ6_bitCount_0f7a4_27 (z := 1) (by decide +kernel) ?_
  refine v_iadd hx DJ6_bitCount_0f7a4_28 ?_
  refine v_top (z' := 18) (by decide) ?_
  refine v_ldcw hx DJ6_bitCount_0f7a4_29 cnRJ6_267 (z := 252645135) rfl ?_
  refine v_iand hx DJ6_bitCount_0f7a4_32 (z := 2) (by decide +kernel) ?_
  refine v_istore hx DJ6_bitCount_0f7a4_33 [(0, iv 2)] rfl (by decide) ?_
  refine v_iload hx DJ6_bitCount_0f7a4_34 0 rfl ?_
  refine v_iload hx DJ6_bitCount_0f7a4_35 0 rfl ?_
  refine v_push hx DJ6_bitCount_0f7a4_36 ?_
  refine v_iushr hx DJ6_bitCount_0f7a4_38 (z := 0) (by decide +kernel) ?_
  refine v_iadd hx DJ6_bitCount_0f7a4_39 ?_
  refine v_top (z' := 2) (by decide) ?_
  refine v_istore hx DJ6_bitCount_0f7a4_40 [(0, iv 2)] rfl (by decide) ?_
  refine v_iload hx DJ6_bitCount_0f7a4_41 0 rfl ?_
  refine v_iload hx DJ6_bitCount_0f7a4_42 0 rfl ?_
  refine v_push hx DJ6_bitCount_0f7a4_43 ?_
  refine v_iushr hx DJ6_bitCount_0f7a4_45 (z := 0) (by decide +kernel) ?_
  refine v_iadd hx DJ6_bitCount_0f7a4_46 ?_
  refine v_top (z' := 2) (by decide) ?_
  refine v_istore hx DJ6_bitCount_0f7a4_47 [(0, iv 2)] rfl (by decide) ?_
  refine v_iload hx DJ6_bitCount_0f7a4_48 0 rfl ?_
  refine v_push hx DJ6_bitCount_0f7a4_49 ?_
  refine v_iand hx DJ6_bitCount_0f7a4_51 (z := 2) (by decide +kernel) ?_
  exact v_ri hx hBD DJ6_bitCount_0f7a4_52 (⟨rfl, rfl⟩)
theorem j_bits_18 (l : Launch) (G : Gl) (Λ : Lay) (sz : Nat) (μ : Mem)   : Sp l G yJ6_bitCount_0f7a4 cJ6_bitCount_0f7a4 1 (some FieldType.int) 0 [iv 18] Λ sz μ (pP μ 2) := by
  refine Sp.introF (by decide +kernel) (Nat.le_of_ble_eq_true rfl) (fun x hx hBD => ?_)
  refine v_lv [(0, iv 18)] rfl ?_
  refine v_iload hx DJ6_bitCount_0f7a4_0 0 rfl ?_
  refine v_iload hx DJ6_bitCount_0f7a4_1 0 rfl ?_
  refine v_push hx DJ6_bitCount_0f7a4_2 ?_
  refine v_iushr hx DJ6_bitCount_0f7a4_3 (z := 9) (by decide +kernel) ?_
  refine v_ldcw hx DJ6_bitCount_0f7a4_4 cnRJ6_265 (z := 1431655765) rfl ?_
  refine v_iand hx DJ6_bitCount_0f7a4_7 (z := 1) (by decide +kernel) ?_
  refine v_isub hx DJ6_bitCount_0f7a4_8 ?_
  refine v_top (z' := 17) (by decide) ?_
  refine v_istore hx DJ6_bitCount_0f7a4_9 [(0, iv 17)] rfl (by decide) ?_
  refine v_iload hx DJ6_bitCount_0f7a4_10 0 rfl ?_
  refine v_ldcw hx DJ6_bitCount_0f7a4_11 cnRJ6_266 (z := 858993459) rfl ?_
  refine v_iand hx DJ6_bitCount_0f7a4_14 (z := 17) (by decide +kernel) ?_
  refine v_iload hx DJ6_bitCount_0f7a4_15 0 rfl ?_
  refine v_push hx DJ6_bitCount_0f7a4_16 ?_
  refine v_iushr hx DJ6_bitCount_0f7a4_17 (z := 4) (by decide +kernel) ?_
  refine v_ldcw hx DJ6_bitCount_0f7a4_18 cnRJ6_266 (z := 858993459) rfl ?_
  refine v_iand hx DJ6_bitCount_0f7a4_21 (z := 0) (by decide +kernel) ?_
  refine v_iadd hx DJ6_bitCount_0f7a4_22 ?_
  refine v_top (z' := 17) (by decide) ?_
  refine v_istore hx DJ6_bitCount_0f7a4_23 [(0, iv 17)] rfl (by decide) ?_
  refine v_iload hx DJ6_bitCount_0f7a4_24 0 rfl ?_
  refine v_iload hx DJ6_bitCount_0f7a4_25 0 rfl ?_
  refine v_push hx DJ6_bitCount_0f7a4_26 ?_
  refine v_iushr hx DJ6_bitCount_0f7a4_27 (z := 1) (by decide +kernel) ?_
  refine v_iadd hx DJ6_bitCount_0f7a4_28 ?_
  refine v_top (z' := 18) (by decide) ?_
  refine v_ldcw hx DJ6_bitCount_0f7a4_29 cnRJ6_267 (z := 252645135) rfl ?_
  refine v_iand hx DJ6_bitCount_0f7a4_32 (z := 2) (by decide +kernel) ?_
  refine v_istore hx DJ6_bitCount_0f7a4_33 [(0, iv 2)] rfl (by decide) ?_
  refine v_iload hx DJ6_bitCount_0f7a4_34 0 rfl ?_
  refine v_iload hx DJ6_bitCount_0f7a4_35 0 rfl ?_
  refine v_push hx DJ6_bitCount_0f7a4_36 ?_
  refine v_iushr hx DJ6_bitCount_0f7a4_38 (z := 0) (by decide +kernel) ?_
  refine v_iadd hx DJ6_bitCount_0f7a4_39 ?_
  refine v_top (z' := 2) (by decide) ?_
  refine v_istore hx DJ6_bitCount_0f7a4_40 [(0, iv 2)] rfl (by decide) ?_
  refine v_iload hx DJ6_bitCount_0f7a4_41 0 rfl ?_
  refine v_iload hx DJ6_bitCount_0f7a4_42 0 rfl ?_
  refine v_push hx DJ6_bitCount_0f7a4_43 ?_
  refine v_iushr hx DJ6_bitCount_0f7a4_45 (z := 0) (by decide +kernel) ?_
  refine v_iadd hx DJ6_bitCount_0f7a4_46 ?_
  refine v_top (z' := 2) (by decide) ?_
  refine v_istore hx DJ6_bitCount_0f7a4_47 [(0, iv 2)] rfl (by decide) ?_
  refine v_iload hx DJ6_bitCount_0f7a4_48 0 rfl ?_
  refine v_push hx DJ6_bitCount_0f7a4_49 ?_
  refine v_iand hx DJ6_bitCount_0f7a4_51 (z := 2) (by decide +kernel) ?_
  exact v_ri hx hBD DJ6_bitCount_0f7a4_52 (⟨rfl, rfl⟩)
theorem j_bits_19 (l : Launch) (G : Gl) (Λ : Lay) (sz : Nat) (μ : Mem)   : Sp l G yJ6_bitCount_0f7a4 cJ6_bitCount_0f7a4 1 (some FieldType.int) 0 [iv 19] Λ sz μ (pP μ 3) := by
  refine Sp.introF (by decide +kernel) (Nat.le_of_ble_eq_true rfl) (fun x hx hBD => ?_)
  refine v_lv [(0, iv 19)] rfl ?_
  refine v_iload hx DJ6_bitCount_0f7a4_0 0 rfl ?_
  refine v_iload hx DJ6_bitCount_0f7a4_1 0 rfl ?_
  refine v_push hx DJ6_bitCount_0f7a4_2 ?_
  refine v_iushr hx DJ6_bitCount_0f7a4_3 (z := 9) (by decide +kernel) ?_
  refine v_ldcw hx DJ6_bitCount_0f7a4_4 cnRJ6_265 (z := 1431655765) rfl ?_
  refine v_iand hx DJ6_bitCount_0f7a4_7 (z := 1) (by decide +kernel) ?_
  refine v_isub hx DJ6_bitCount_0f7a4_8 ?_
  refine v_top (z' := 18) (by decide) ?_
  refine v_istore hx DJ6_bitCount_0f7a4_9 [(0, iv 18)] rfl (by decide) ?_
  refine v_iload hx DJ6_bitCount_0f7a4_10 0 rfl ?_
  refine v_ldcw hx DJ6_bitCount_0f7a4_11 cnRJ6_266 (z := 858993459) rfl ?_
  refine v_iand hx DJ6_bitCount_0f7a4_14 (z := 18) (by decide +kernel) ?_
  refine v_iload hx DJ6_bitCount_0f7a4_15 0 rfl ?_
  refine v_push hx DJ6_bitCount_0f7a4_16 ?_
  refine v_iushr hx DJ6_bitCount_0f7a4_17 (z := 4) (by decide +kernel) ?_
  refine v_ldcw hx DJ6_bitCount_0f7a4_18 cnRJ6_266 (z := 858993459) rfl ?_
  refine v_iand hx DJ6_bitCount_0f7a4_21 (z := 0) (by decide +kernel) ?_
  refine v_iadd hx DJ6_bitCount_0f7a4_22 ?_
  refine v_top (z' := 18) (by decide) ?_
  refine v_istore hx DJ6_bitCount_0f7a4_23 [(0, iv 18)] rfl (by decide) ?_
  refine v_iload hx DJ6_bitCount_0f7a4_24 0 rfl ?_
  refine v_iload hx DJ6_bitCount_0f7a4_25 0 rfl ?_
  refine v_push hx DJ6_bitCount_0f7a4_26 ?_
  refine v_iushr hx DJ6_bitCount_0f7a4_27 (z := 1) (by decide +kernel) ?_
  refine v_iadd hx DJ6_bitCount_0f7a4_28 ?_
  refine v_top (z' := 19) (by decide) ?_
  refine v_ldcw hx DJ6_bitCount_0f7a4_29 cnRJ6_267 (z := 252645135) rfl ?_
  refine v_iand hx DJ6_bitCount_0f7a4_32 (z := 3) (by decide +kernel) ?_
  refine v_istore hx DJ6_bitCount_0f7a4_33 [(0, iv 3)] rfl (by decide) ?_
  refine v_iload hx DJ6_bitCount_0f7a4_34 0 rfl ?_
  refine v_iload hx DJ6_bitCount_0f7a4_35 0 rfl ?_
  refine v_push hx DJ6_bitCount_0f7a4_36 ?_
  refine v_iushr hx DJ6_bitCount_0f7a4_38 (z := 0) (by decide +kernel) ?_
  refine v_iadd hx DJ6_bitCount_0f7a4_39 ?_
  refine v_top (z' := 3) (by decide) ?_
  refine v_istore hx DJ6_bitCount_0f7a4_40 [(0, iv 3)] rfl (by decide) ?_
  refine v_iload hx DJ6_bitCount_0f7a4_41 0 rfl ?_
  refine v_iload hx DJ6_bitCount_0f7a4_42 0 rfl ?_
  refine v_push hx DJ6_bitCount_0f7a4_43 ?_
  refine v_iushr hx DJ6_bitCount_0f7a4_45 (z := 0) (by decide +kernel) ?_
  refine v_iadd hx DJ6_bitCount_0f7a4_46 ?_
  refine v_top (z' := 3) (by decide) ?_
  refine v_istore hx DJ6_bitCount_0f7a4_47 [(0, iv 3)] rfl (by decide) ?_
  refine v_iload hx DJ6_bitCount_0f7a4_48 0 rfl ?_
  refine v_push hx DJ6_bitCount_0f7a4_49 ?_
  refine v_iand hx DJ6_bitCount_0f7a4_51 (z := 3) (by decide +kernel) ?_
  exact v_ri hx hBD DJ6_bitCount_0f7a4_52 (⟨rfl, rfl⟩)
theorem j_bits_20 (l : Launch) (G : Gl) (Λ : Lay) (sz : Nat) (μ : Mem)   : Sp l G yJ6_bitCount_0f7a4 cJ6_bitCount_0f7a4 1 (some FieldType.int) 0 [iv 20] Λ sz μ (pP μ 2) := by
  refine Sp.introF (by decide +kernel) (Nat.le_of_ble_eq_true rfl) (fun x hx hBD => ?_)
  refine v_lv [(0, iv 20)] rfl ?_
  refine v_iload hx DJ6_bitCount_0f7a4_0 0 rfl ?_
  refine v_iload hx DJ6_bitCount_0f7a4_1 0 rfl ?_
  refine v_push hx DJ6_bitCount_0f7a4_2 ?_
  refine v_iushr hx DJ6_bitCount_0f7a4_3 (z := 10) (by decide +kernel) ?_
  refine v_ldcw hx DJ6_bitCount_0f7a4_4 cnRJ6_265 (z := 1431655765) rfl ?_
  refine v_iand hx DJ6_bitCount_0f7a4_7 (z := 0) (by decide +kernel) ?_
  refine v_isub hx DJ6_bitCount_0f7a4_8 ?_
  refine v_top (z' := 20) (by decide) ?_
  refine v_istore hx DJ6_bitCount_0f7a4_9 [(0, iv 20)] rfl (by decide) ?_
  refine v_iload hx DJ6_bitCount_0f7a4_10 0 rfl ?_
  refine v_ldcw hx DJ6_bitCount_0f7a4_11 cnRJ6_266 (z := 858993459) rfl ?_
  refine v_iand hx DJ6_bitCount_0f7a4_14 (z := 16) (by decide +kernel) ?_
  refine v_iload hx DJ6_bitCount_0f7a4_15 0 rfl ?_
  refine v_push hx DJ6_bitCount_0f7a4_16 ?_
  refine v_iushr hx DJ6_bitCount_0f7a4_17 (z := 5) (by decide +kernel) ?_
  refine v_ldcw hx DJ6_bitCount_0f7a4_18 cnRJ6_266 (z := 858993459) rfl ?_
  refine v_iand hx DJ6_bitCount_0f7a4_21 (z := 1) (by decide +kernel) ?_
  refine v_iadd hx DJ6_bitCount_0f7a4_22 ?_
  refine v_top (z' := 17) (by decide) ?_
  refine v_istore hx DJ6_bitCount_0f7a4_23 [(0, iv 17)] rfl (by decide) ?_
  refine v_iload hx DJ6_bitCount_0f7a4_24 0 rfl ?_
  refine v_iload hx DJ6_bitCount_0f7a4_25 0 rfl ?_
  refine v_push hx DJ6_bitCount_0f7a4_26 ?_
  refine v_iushr hx DJ6_bitCount_0f7a4_27 (z := 1) (by decide +kernel) ?_
  refine v_iadd hx DJ6_bitCount_0f7a4_28 ?_
  refine v_top (z' := 18) (by decide) ?_
  refine v_ldcw hx DJ6_bitCount_0f7a4_29 cnRJ6_267 (z := 252645135) rfl ?_
  refine v_iand hx DJ6_bitCount_0f7a4_32 (z := 2) (by decide +kernel) ?_
  refine v_istore hx DJ6_bitCount_0f7a4_33 [(0, iv 2)] rfl (by decide) ?_
  refine v_iload hx DJ6_bitCount_0f7a4_34 0 rfl ?_
  refine v_iload hx DJ6_bitCount_0f7a4_35 0 rfl ?_
  refine v_push hx DJ6_bitCount_0f7a4_36 ?_
  refine v_iushr hx DJ6_bitCount_0f7a4_38 (z := 0) (by decide +kernel) ?_
  refine v_iadd hx DJ6_bitCount_0f7a4_39 ?_
  refine v_top (z' := 2) (by decide) ?_
  refine v_istore hx DJ6_bitCount_0f7a4_40 [(0, iv 2)] rfl (by decide) ?_
  refine v_iload hx DJ6_bitCount_0f7a4_41 0 rfl ?_
  refine v_iload hx DJ6_bitCount_0f7a4_42 0 rfl ?_
  refine v_push hx DJ6_bitCount_0f7a4_43 ?_
  refine v_iushr hx DJ6_bitCount_0f7a4_45 (z := 0) (by decide +kernel) ?_
  refine v_iadd hx DJ6_bitCount_0f7a4_46 ?_
  refine v_top (z' := 2) (by decide) ?_
  refine v_istore hx DJ6_bitCount_0f7a4_47 [(0, iv 2)] rfl (by decide) ?_
  refine v_iload hx DJ6_bitCount_0f7a4_48 0 rfl ?_
  refine v_push hx DJ6_bitCount_0f7a4_49 ?_
  refine v_iand hx DJ6_bitCount_0f7a4_51 (z := 2) (by decide +kernel) ?_
  exact v_ri hx hBD DJ6_bitCount_0f7a4_52 (⟨rfl, rfl⟩)
theorem j_bits_21 (l : Launch) (G : Gl) (Λ : Lay) (sz : Nat) (μ : Mem)   : Sp l G yJ6_bitCount_0f7a4 cJ6_bitCount_0f7a4 1 (some FieldType.int) 0 [iv 21] Λ sz μ (pP μ 3) := by
  refine Sp.introF (by decide +kernel) (Nat.le_of_ble_eq_true rfl) (fun x hx hBD => ?_)
  refine v_lv [(0, iv 21)] rfl ?_
  refine v_iload hx DJ6_bitCount_0f7a4_0 0 rfl ?_
  refine v_iload hx DJ6_bitCount_0f7a4_1 0 rfl ?_
  refine v_push hx DJ6_bitCount_0f7a4_2 ?_
  refine v_iushr hx DJ6_bitCount_0f7a4_3 (z := 10) (by decide +kernel) ?_
  refine v_ldcw hx DJ6_bitCount_0f7a4_4 cnRJ6_265 (z := 1431655765) rfl ?_
  refine v_iand hx DJ6_bitCount_0f7a4_7 (z := 0) (by decide +kernel) ?_
  refine v_isub hx DJ6_bitCount_0f7a4_8 ?_
  refine v_top (z' := 21) (by decide) ?_
  refine v_istore hx DJ6_bitCount_0f7a4_9 [(0, iv 21)] rfl (by decide) ?_
  refine v_iload hx DJ6_bitCount_0f7a4_10 0 rfl ?_
  refine v_ldcw hx DJ6_bitCount_0f7a4_11 cnRJ6_266 (z := 858993459) rfl ?_
  refine v_iand hx DJ6_bitCount_0f7a4_14 (z := 17) (by decide +kernel) ?_
  refine v_iload hx DJ6_bitCount_0f7a4_15 0 rfl ?_
  refine v_push hx DJ6_bitCount_0f7a4_16 ?_
  refine v_iushr hx DJ6_bitCount_0f7a4_17 (z := 5) (by decide +kernel) ?_
  refine v_ldcw hx DJ6_bitCount_0f7a4_18 cnRJ6_266 (z := 858993459) rfl ?_
  refine v_iand hx DJ6_bitCount_0f7a4_21 (z := 1) (by decide +kernel) ?_
  refine v_iadd hx DJ6_bitCount_0f7a4_22 ?_
  refine v_top (z' := 18) (by decide) ?_
  refine v_istore hx DJ6_bitCount_0f7a4_23 [(0, iv 18)] rfl (by decide) ?_
  refine v_iload hx DJ6_bitCount_0f7a4_24 0 rfl ?_
  refine v_iload hx DJ6_bitCount_0f7a4_25 0 rfl ?_
  refine v_push hx DJ6_bitCount_0f7a4_26 ?_
  refine v_iushr hx DJ6_bitCount_0f7a4_27 (z := 1) (by decide +kernel) ?_
  refine v_iadd hx DJ6_bitCount_0f7a4_28 ?_
  refine v_top (z' := 19) (by decide) ?_
  refine v_ldcw hx DJ6_bitCount_0f7a4_29 cnRJ6_267 (z := 252645135) rfl ?_
  refine v_iand hx DJ6_bitCount_0f7a4_32 (z := 3) (by decide +kernel) ?_
  refine v_istore hx DJ6_bitCount_0f7a4_33 [(0, iv 3)] rfl (by decide) ?_
  refine v_iload hx DJ6_bitCount_0f7a4_34 0 rfl ?_
  refine v_iload hx DJ6_bitCount_0f7a4_35 0 rfl ?_
  refine v_push hx DJ6_bitCount_0f7a4_36 ?_
  refine v_iushr hx DJ6_bitCount_0f7a4_38 (z := 0) (by decide +kernel) ?_
  refine v_iadd hx DJ6_bitCount_0f7a4_39 ?_
  refine v_top (z' := 3) (by decide) ?_
  refine v_istore hx DJ6_bitCount_0f7a4_40 [(0, iv 3)] rfl (by decide) ?_
  refine v_iload hx DJ6_bitCount_0f7a4_41 0 rfl ?_
  refine v_iload hx DJ6_bitCount_0f7a4_42 0 rfl ?_
  refine v_push hx DJ6_bitCount_0f7a4_43 ?_
  refine v_iushr hx DJ6_bitCount_0f7a4_45 (z := 0) (by decide +kernel) ?_
  refine v_iadd hx DJ6_bitCount_0f7a4_46 ?_
  refine v_top (z' := 3) (by decide) ?_
  refine v_istore hx DJ6_bitCount_0f7a4_47 [(0, iv 3)] rfl (by decide) ?_
  refine v_iload hx DJ6_bitCount_0f7a4_48 0 rfl ?_
  refine v_push hx DJ6_bitCount_0f7a4_49 ?_
  refine v_iand hx DJ6_bitCount_0f7a4_51 (z := 3) (by decide +kernel) ?_
  exact v_ri hx hBD DJ6_bitCount_0f7a4_52 (⟨rfl, rfl⟩)
theorem j_bits_22 (l : Launch) (G : Gl) (Λ : Lay) (sz : Nat) (μ : Mem)   : Sp l G yJ6_bitCount_0f7a4 cJ6_bitCount_0f7a4 1 (some FieldType.int) 0 [iv 22] Λ sz μ (pP μ 3) := by
  refine Sp.introF (by decide +kernel) (Nat.le_of_ble_eq_true rfl) (fun x hx hBD => ?_)
  refine v_lv [(0, iv 22)] rfl ?_
  refine v_iload hx DJ6_bitCount_0f7a4_0 0 rfl ?_
  refine v_iload hx DJ6_bitCount_0f7a4_1 0 rfl ?_
  refine v_push hx DJ6_bitCount_0f7a4_2 ?_
  refine v_iushr hx DJ6_bitCount_0f7a4_3 (z := 11) (by decide +kernel) ?_
  refine v_ldcw hx DJ6_bitCount_0f7a4_4 cnRJ6_265 (z := 1431655765) rfl ?_
  refine v_iand hx DJ6_bitCount_0f7a4_7 (z := 1) (by decide +kernel) ?_
  refine v_isub hx DJ6_bitCount_0f7a4_8 ?_
  refine v_top (z' := 21) (by decide) ?_
  refine v_istore hx DJ6_bitCount_0f7a4_9 [(0, iv 21)] rfl (by decide) ?_
  refine v_iload hx DJ6_bitCount_0f7a4_10 0 rfl ?_
  refine v_ldcw hx DJ6_bitCount_0f7a4_11 cnRJ6_266 (z := 858993459) rfl ?_
  refine v_iand hx DJ6_bitCount_0f7a4_14 (z := 17) (by decide +kernel) ?_
  refine v_iload hx DJ6_bitCount_0f7a4_15 0 rfl ?_
  refine v_push hx DJ6_bitCount_0f7a4_16 ?_
  refine v_iushr hx DJ6_bitCount_0f7a4_17 (z := 5) (by decide +kernel) ?_
  refine v_ldcw hx DJ6_bitCount_0f7a4_18 cnRJ6_266 (z := 858993459) rfl ?_
  refine v_iand hx DJ6_bitCount_0f7a4_21 (z := 1) (by decide +kernel) ?_
  refine v_iadd hx DJ6_bitCount_0f7a4_22 ?_
  refine v_top (z' := 18) (by decide) ?_
  refine v_istore hx DJ6_bitCount_0f7a4_23 [(0, iv 18)] rfl (by decide) ?_
  refine v_iload hx DJ6_bitCount_0f7a4_24 0 rfl ?_
  refine v_iload hx DJ6_bitCount_0f7a4_25 0 rfl ?_
  refine v_push hx DJ6_bitCount_0f7a4_26 ?_
  refine v_iushr hx DJ6_bitCount_0f7a4_27 (z := 1) (by decide +kernel) ?_
  refine v_iadd hx DJ6_bitCount_0f7a4_28 ?_
  refine v_top (z' := 19) (by decide) ?_
  refine v_ldcw hx DJ6_bitCount_0f7a4_29 cnRJ6_267 (z := 252645135) rfl ?_
  refine v_iand hx DJ6_bitCount_0f7a4_32 (z := 3) (by decide +kernel) ?_
  refine v_istore hx DJ6_bitCount_0f7a4_33 [(0, iv 3)] rfl (by decide) ?_
  refine v_iload hx DJ6_bitCount_0f7a4_34 0 rfl ?_
  refine v_iload hx DJ6_bitCount_0f7a4_35 0 rfl ?_
  refine v_push hx DJ6_bitCount_0f7a4_36 ?_
  refine v_iushr hx DJ6_bitCount_0f7a4_38 (z := 0) (by decide +kernel) ?_
  refine v_iadd hx DJ6_bitCount_0f7a4_39 ?_
  refine v_top (z' := 3) (by decide) ?_
  refine v_istore hx DJ6_bitCount_0f7a4_40 [(0, iv 3)] rfl (by decide) ?_
  refine v_iload hx DJ6_bitCount_0f7a4_41 0 rfl ?_
  refine v_iload hx DJ6_bitCount_0f7a4_42 0 rfl ?_
  refine v_push hx DJ6_bitCount_0f7a4_43 ?_
  refine v_iushr hx DJ6_bitCount_0f7a4_45 (z := 0) (by decide +kernel) ?_
  refine v_iadd hx DJ6_bitCount_0f7a4_46 ?_
  refine v_top (z' := 3) (by decide) ?_
  refine v_istore hx DJ6_bitCount_0f7a4_47 [(0, iv 3)] rfl (by decide) ?_
  refine v_iload hx DJ6_bitCount_0f7a4_48 0 rfl ?_
  refine v_push hx DJ6_bitCount_0f7a4_49 ?_
  refine v_iand hx DJ6_bitCount_0f7a4_51 (z := 3) (by decide +kernel) ?_
  exact v_ri hx hBD DJ6_bitCount_0f7a4_52 (⟨rfl, rfl⟩)
theorem j_bits_23 (l : Launch) (G : Gl) (Λ : Lay) (sz : Nat) (μ : Mem)   : Sp l G yJ6_bitCount_0f7a4 cJ6_bitCount_0f7a4 1 (some FieldType.int) 0 [iv 23] Λ sz μ (pP μ 4) := by
  refine Sp.introF (by decide +kernel) (Nat.le_of_ble_eq_true rfl) (fun x hx hBD => ?_)
  refine v_lv [(0, iv 23)] rfl ?_
  refine v_iload hx DJ6_bitCount_0f7a4_0 0 rfl ?_
  refine v_iload hx DJ6_bitCount_0f7a4_1 0 rfl ?_
  refine v_push hx DJ6_bitCount_0f7a4_2 ?_
  refine v_iushr hx DJ6_bitCount_0f7a4_3 (z := 11) (by decide +kernel) ?_
  refine v_ldcw hx DJ6_bitCount_0f7a4_4 cnRJ6_265 (z := 1431655765) rfl ?_
  refine v_iand hx DJ6_bitCount_0f7a4_7 (z := 1) (by decide +kernel) ?_
  refine v_isub hx DJ6_bitCount_0f7a4_8 ?_
  refine v_top (z' := 22) (by decide) ?_
  refine v_istore hx DJ6_bitCount_0f7a4_9 [(0, iv 22)] rfl (by decide) ?_
  refine v_iload hx DJ6_bitCount_0f7a4_10 0 rfl ?_
  refine v_ldcw hx DJ6_bitCount_0f7a4_11 cnRJ6_266 (z := 858993459) rfl ?_
  refine v_iand hx DJ6_bitCount_0f7a4_14 (z := 18) (by decide +kernel) ?_
  refine v_iload hx DJ6_bitCount_0f7a4_15 0 rfl ?_
  refine v_push hx DJ6_bitCount_0f7a4_16 ?_
  refine v_iushr hx DJ6_bitCount_0f7a4_17 (z := 5) (by decide +kernel) ?_
  refine v_ldcw hx DJ6_bitCount_0f7a4_18 cnRJ6_266 (z := 858993459) rfl ?_
  refine v_iand hx DJ6_bitCount_0f7a4_21 (z := 1) (by decide +kernel) ?_
  refine v_iadd hx DJ6_bitCount_0f7a4_22 ?_
  refine v_top (z' := 19) (by decide) ?_
  refine v_istore hx DJ6_bitCount_0f7a4_23 [(0, iv 19)] rfl (by decide) ?_
  refine v_iload hx DJ6_bitCount_0f7a4_24 0 rfl ?_
  refine v_iload hx DJ6_bitCount_0f7a4_25 0 rfl ?_
  refine v_push hx DJ6_bitCount_0f7a4_26 ?_
  refine v_iushr hx DJ6_bitCount_0f7a4_27 (z := 1) (by decide +kernel) ?_
  refine v_iadd hx DJ6_bitCount_0f7a4_28 ?_
  refine v_top (z' := 20) (by decide) ?_
  refine v_ldcw hx DJ6_bitCount_0f7a4_29 cnRJ6_267 (z := 252645135) rfl ?_
  refine v_iand hx DJ6_bitCount_0f7a4_32 (z := 4) (by decide +kernel) ?_
  refine v_istore hx DJ6_bitCount_0f7a4_33 [(0, iv 4)] rfl (by decide) ?_
  refine v_iload hx DJ6_bitCount_0f7a4_34 0 rfl ?_
  refine v_iload hx DJ6_bitCount_0f7a4_35 0 rfl ?_
  refine v_push hx DJ6_bitCount_0f7a4_36 ?_
  refine v_iushr hx DJ6_bitCount_0f7a4_38 (z := 0) (by decide +kernel) ?_
  refine v_iadd hx DJ6_bitCount_0f7a4_39 ?_
  refine v_top (z' := 4) (by decide) ?_
  refine v_istore hx DJ6_bitCount_0f7a4_40 [(0, iv 4)] rfl (by decide) ?_
  refine v_iload hx DJ6_bitCount_0f7a4_41 0 rfl ?_
  refine v_iload hx DJ6_bitCount_0f7a4_42 0 rfl ?_
  refine v_push hx DJ6_bitCount_0f7a4_43 ?_
  refine v_iushr hx DJ6_bitCount_0f7a4_45 (z := 0) (by decide +kernel) ?_
  refine v_iadd hx DJ6_bitCount_0f7a4_46 ?_
  refine v_top (z' := 4) (by decide) ?_
  refine v_istore hx DJ6_bitCount_0f7a4_47 [(0, iv 4)] rfl (by decide) ?_
  refine v_iload hx DJ6_bitCount_0f7a4_48 0 rfl ?_
  refine v_push hx DJ6_bitCount_0f7a4_49 ?_
  refine v_iand hx DJ6_bitCount_0f7a4_51 (z := 4) (by decide +kernel) ?_
  exact v_ri hx hBD DJ6_bitCount_0f7a4_52 (⟨rfl, rfl⟩)
theorem j_bits_24 (l : Launch) (G : Gl) (Λ : Lay) (sz : Nat) (μ : Mem)   : Sp l G yJ6_bitCount_0f7a4 cJ6_bitCount_0f7a4 1 (some FieldType.int) 0 [iv 24] Λ sz μ (pP μ 2) := by
  refine Sp.introF (by decide +kernel) (Nat.le_of_ble_eq_true rfl) (fun x hx hBD => ?_)
  refine v_lv [(0, iv 24)] rfl ?_
  refine v_iload hx DJ6_bitCount_0f7a4_0 0 rfl ?_
  refine v_iload hx DJ6_bitCount_0f7a4_1 0 rfl ?_
  refine v_push hx DJ6_bitCount_0f7a4_2 ?_
  refine v_iushr hx DJ6_bitCount_0f7a4_3 (z := 12) (by decide +kernel) ?_
  refine v_ldcw hx DJ6_bitCount_0f7a4_4 cnRJ6_265 (z := 1431655765) rfl ?_
  refine v_iand hx DJ6_bitCount_0f7a4_7 (z := 4) (by decide +kernel) ?_
  refine v_isub hx DJ6_bitCount_0f7a4_8 ?_
  refine v_top (z' := 20) (by decide) ?_
  refine v_istore hx DJ6_bitCount_0f7a4_9 [(0, iv 20)] rfl (by decide) ?_
  refine v_iload hx DJ6_bitCount_0f7a4_10 0 rfl ?_
  refine v_ldcw hx DJ6_bitCount_0f7a4_11 cnRJ6_266 (z := 858993459) rfl ?_
  refine v_iand hx DJ6_bitCount_0f7a4_14 (z := 16) (by decide +kernel) ?_
  refine v_iload hx DJ6_bitCount_0f7a4_15 0 rfl ?_
  refine v_push hx DJ6_bitCount_0f7a4_16 ?_
  refine v_iushr hx DJ6_bitCount_0f7a4_17 (z := 5) (by decide +kernel) ?_
  refine v_ldcw hx DJ6_bitCount_0f7a4_18 cnRJ6_266 (z := 858993459) rfl ?_
  refine v_iand hx DJ6_bitCount_0f7a4_21 (z := 1) (by decide +kernel) ?_
  refine v_iadd hx DJ6_bitCount_0f7a4_22 ?_
  refine v_top (z' := 17) (by decide) ?_
  refine v_istore hx DJ6_bitCount_0f7a4_23 [(0, iv 17)] rfl (by decide) ?_
  refine v_iload hx DJ6_bitCount_0f7a4_24 0 rfl ?_
  refine v_iload hx DJ6_bitCount_0f7a4_25 0 rfl ?_
  refine v_push hx DJ6_bitCount_0f7a4_26 ?_
  refine v_iushr hx DJ6_bitCount_0f7a4_27 (z := 1) (by decide +kernel) ?_
  refine v_iadd hx DJ6_bitCount_0f7a4_28 ?_
  refine v_top (z' := 18) (by decide) ?_
  refine v_ldcw hx DJ6_bitCount_0f7a4_29 cnRJ6_267 (z := 252645135) rfl ?_
  refine v_iand hx DJ6_bitCount_0f7a4_32 (z := 2) (by decide +kernel) ?_
  refine v_istore hx DJ6_bitCount_0f7a4_33 [(0, iv 2)] rfl (by decide) ?_
  refine v_iload hx DJ6_bitCount_0f7a4_34 0 rfl ?_
  refine v_iload hx DJ6_bitCount_0f7a4_35 0 rfl ?_
  refine v_push hx DJ6_bitCount_0f7a4_36 ?_
  refine v_iushr hx DJ6_bitCount_0f7a4_38 (z := 0) (by decide +kernel) ?_
  refine v_iadd hx DJ6_bitCount_0f7a4_39 ?_
  refine v_top (z' := 2) (by decide) ?_
  refine v_istore hx DJ6_bitCount_0f7a4_40 [(0, iv 2)] rfl (by decide) ?_
  refine v_iload hx DJ6_bitCount_0f7a4_41 0 rfl ?_
  refine v_iload hx DJ6_bitCount_0f7a4_42 0 rfl ?_
  refine v_push hx DJ6_bitCount_0f7a4_43 ?_
  refine v_iushr hx DJ6_bitCount_0f7a4_45 (z := 0) (by decide +kernel) ?_
  refine v_iadd hx DJ6_bitCount_0f7a4_46 ?_
  refine v_top (z' := 2) (by decide) ?_
  refine v_istore hx DJ6_bitCount_0f7a4_47 [(0, iv 2)] rfl (by decide) ?_
  refine v_iload hx DJ6_bitCount_0f7a4_48 0 rfl ?_
  refine v_push hx DJ6_bitCount_0f7a4_49 ?_
  refine v_iand hx DJ6_bitCount_0f7a4_51 (z := 2) (by decide +kernel) ?_
  exact v_ri hx hBD DJ6_bitCount_0f7a4_52 (⟨rfl, rfl⟩)
theorem j_bits_25 (l : Launch) (G : Gl) (Λ : Lay) (sz : Nat) (μ : Mem)   : Sp l G yJ6_bitCount_0f7a4 cJ6_bitCount_0f7a4 1 (some FieldType.int) 0 [iv 25] Λ sz μ (pP μ 3) := by
  refine Sp.introF (by decide +kernel) (Nat.le_of_ble_eq_true rfl) (fun x hx hBD => ?_)
  refine v_lv [(0, iv 25)] rfl ?_
  refine v_iload hx DJ6_bitCount_0f7a4_0 0 rfl ?_
  refine v_iload hx DJ6_bitCount_0f7a4_1 0 rfl ?_
  refine v_push hx DJ6_bitCount_0f7a4_2 ?_
  refine v_iushr hx DJ6_bitCount_0f7a4_3 (z := 12) (by decide +kernel) ?_
  refine v_ldcw hx DJ6_bitCount_0f7a4_4 cnRJ6_265 (z := 1431655765) rfl ?_
  refine v_iand hx DJ6_bitCount_0f7a4_7 (z := 4) (by decide +kernel) ?_
  refine v_isub hx DJ6_bitCount_0f7a4_8 ?_
  refine v_top (z' := 21) (by decide) ?_
  refine v_istore hx DJ6_bitCount_0f7a4_9 [(0, iv 21)] rfl (by decide) ?_
  refine v_iload hx DJ6_bitCount_0f7a4_10 0 rfl ?_
  refine v_ldcw hx DJ6_bitCount_0f7a4_11 cnRJ6_266 (z := 858993459) rfl ?_
  refine v_iand hx DJ6_bitCount_0f7a4_14 (z := 17) (by decide +kernel) ?_
  refine v_iload hx DJ6_bitCount_0f7a4_15 0 rfl ?_
  refine v_push hx DJ6_bitCount_0f7a4_16 ?_
  refine v_iushr hx DJ6_bitCount_0f7a4_17 (z := 5) (by decide +kernel) ?_
  refine v_ldcw hx DJ6_bitCount_0f7a4_18 cnRJ6_266 (z := 858993459) rfl ?_
  refine v_iand hx DJ6_bitCount_0f7a4_21 (z := 1) (by decide +kernel) ?_
  refine v_iadd hx DJ6_bitCount_0f7a4_22 ?_
  refine v_top (z' := 18) (by decide) ?_
  refine v_istore hx DJ6_bitCount_0f7a4_23 [(0, iv 18)] rfl (by decide) ?_
  refine v_iload hx DJ6_bitCount_0f7a4_24 0 rfl ?_
  refine v_iload hx DJ6_bitCount_0f7a4_25 0 rfl ?_
  refine v_push hx DJ6_bitCount_0f7a4_26 ?_
  refine v_iushr hx DJ6_bitCount_0f7a4_27 (z := 1) (by decide +kernel) ?_
  refine v_iadd hx DJ6_bitCount_0f7a4_28 ?_
  refine v_top (z' := 19) (by decide) ?_
  refine v_ldcw hx DJ6_bitCount_0f7a4_29 cnRJ6_267 (z := 252645135) rfl ?_
  refine v_iand hx DJ6_bitCount_0f7a4_32 (z := 3) (by decide +kernel) ?_
  refine v_istore hx DJ6_bitCount_0f7a4_33 [(0, iv 3)] rfl (by decide) ?_
  refine v_iload hx DJ6_bitCount_0f7a4_34 0 rfl ?_
  refine v_iload hx DJ6_bitCount_0f7a4_35 0 rfl ?_
  refine v_push hx DJ6_bitCount_0f7a4_36 ?_
  refine v_iushr hx DJ6_bitCount_0f7a4_38 (z := 0) (by decide +kernel) ?_
  refine v_iadd hx DJ6_bitCount_0f7a4_39 ?_
  refine v_top (z' := 3) (by decide) ?_
  refine v_istore hx DJ6_bitCount_0f7a4_40 [(0, iv 3)] rfl (by decide) ?_
  refine v_iload hx DJ6_bitCount_0f7a4_41 0 rfl ?_
  refine v_iload hx DJ6_bitCount_0f7a4_42 0 rfl ?_
  refine v_push hx DJ6_bitCount_0f7a4_43 ?_
  refine v_iushr hx DJ6_bitCount_0f7a4_45 (z := 0) (by decide +kernel) ?_
  refine v_iadd hx DJ6_bitCount_0f7a4_46 ?_
  refine v_top (z' := 3) (by decide) ?_
  refine v_istore hx DJ6_bitCount_0f7a4_47 [(0, iv 3)] rfl (by decide) ?_
  refine v_iload hx DJ6_bitCount_0f7a4_48 0 rfl ?_
  refine v_push hx DJ6_bitCount_0f7a4_49 ?_
  refine v_iand hx DJ6_bitCount_0f7a4_51 (z := 3) (by decide +kernel) ?_
  exact v_ri hx hBD DJ6_bitCount_0f7a4_52 (⟨rfl, rfl⟩)
theorem j_bits_26 (l : Launch) (G : Gl) (Λ : Lay) (sz : Nat) (μ : Mem)   : Sp l G yJ6_bitCount_0f7a4 cJ6_bitCount_0f7a4 1 (some FieldType.int) 0 [iv 26] Λ sz μ (pP μ 3) := by
  refine Sp.introF (by decide +kernel) (Nat.le_of_ble_eq_true rfl) (fun x hx hBD => ?_)
  refine v_lv [(0, iv 26)] rfl ?_
  refine v_iload hx DJ6_bitCount_0f7a4_0 0 rfl ?_
  refine v_iload hx DJ6_bitCount_0f7a4_1 0 rfl ?_
  refine v_push hx DJ6_bitCount_0f7a4_2 ?_
  refine v_iushr hx DJ6_bitCount_0f7a4_3 (z := 13) (by decide +kernel) ?_
  refine v_ldcw hx DJ6_bitCount_0f7a4_4 cnRJ6_265 (z := 1431655765) rfl ?_
  refine v_iand hx DJ6_bitCount_0f7a4_7 (z := 5) (by decide +kernel) ?_
  refine v_isub hx DJ6_bitCount_0f7a4_8 ?_
  refine v_top (z' := 21) (by decide) ?_
  refine v_istore hx DJ6_bitCount_0f7a4_9 [(0, iv 21)] rfl (by decide) ?_
  refine v_iload hx DJ6_bitCount_0f7a4_10 0 rfl ?_
  refine v_ldcw hx DJ6_bitCount_0f7a4_11 cnRJ6_266 (z := 858993459) rfl ?_
  refine v_iand hx DJ6_bitCount_0f7a4_14 (z := 17) (by decide +kernel) ?_
  refine v_iload hx DJ6_bitCount_0f7a4_15 0 rfl ?_
  refine v_push hx DJ6_bitCount_0f7a4_16 ?_
  refine v_iushr hx DJ6_bitCount_0f7a4_17 (z := 5) (by decide +kernel) ?_
  refine v_ldcw hx DJ6_bitCount_0f7a4_18 cnRJ6_266 (z := 858993459) rfl ?_
  refine v_iand hx DJ6_bitCount_0f7a4_21 (z := 1) (by decide +kernel) ?_
  refine v_iadd hx DJ6_bitCount_0f7a4_22 ?_
  refine v_top (z' := 18) (by decide) ?_
  refine v_istore hx DJ6_bitCount_0f7a4_23 [(0, iv 18)] rfl (by decide) ?_
  refine v_iload hx DJ6_bitCount_0f7a4_24 0 rfl ?_
  refine v_iload hx DJ6_bitCount_0f7a4_25 0 rfl ?_
  refine v_push hx DJ6_bitCount_0f7a4_26 ?_
  refine v_iushr hx DJ6_bitCount_0f7a4_27 (z := 1) (by decide +kernel) ?_
  refine v_iadd hx DJ6_bitCount_0f7a4_28 ?_
  refine v_top (z' := 19) (by decide) ?_
  refine v_ldcw hx DJ6_bitCount_0f7a4_29 cnRJ6_267 (z := 252645135) rfl ?_
  refine v_iand hx DJ6_bitCount_0f7a4_32 (z := 3) (by decide +kernel) ?_
  refine v_istore hx DJ6_bitCount_0f7a4_33 [(0, iv 3)] rfl (by decide) ?_
  refine v_iload hx DJ6_bitCount_0f7a4_34 0 rfl ?_
  refine v_iload hx DJ6_bitCount_0f7a4_35 0 rfl ?_
  refine v_push hx DJ6_bitCount_0f7a4_36 ?_
  refine v_iushr hx DJ6_bitCount_0f7a4_38 (z := 0) (by decide +kernel) ?_
  refine v_iadd hx DJ6_bitCount_0f7a4_39 ?_
  refine v_top (z' := 3) (by decide) ?_
  refine v_istore hx DJ6_bitCount_0f7a4_40 [(0, iv 3)] rfl (by decide) ?_
  refine v_iload hx DJ6_bitCount_0f7a4_41 0 rfl ?_
  refine v_iload hx DJ6_bitCount_0f7a4_42 0 rfl ?_
  refine v_push hx DJ6_bitCount_0f7a4_43 ?_
  refine v_iushr hx DJ6_bitCount_0f7a4_45 (z := 0) (by decide +kernel) ?_
  refine v_iadd hx DJ6_bitCount_0f7a4_46 ?_
  refine v_top (z' := 3) (by decide) ?_
  refine v_istore hx DJ6_bitCount_0f7a4_47 [(0, iv 3)] rfl (by decide) ?_
  refine v_iload hx DJ6_bitCount_0f7a4_48 0 rfl ?_
  refine v_push hx DJ6_bitCount_0f7a4_49 ?_
  refine v_iand hx DJ6_bitCount_0f7a4_51 (z := 3) (by decide +kernel) ?_
  exact v_ri hx hBD DJ6_bitCount_0f7a4_52 (⟨rfl, rfl⟩)
theorem j_bits_27 (l : Launch) (G : Gl) (Λ : Lay) (sz : Nat) (μ : Mem)   : Sp l G yJ6_bitCount_0f7a4 cJ6_bitCount_0f7a4 1 (some FieldType.int) 0 [iv 27] Λ sz μ (pP μ 4) := by
  refine Sp.introF (by decide +kernel) (Nat.le_of_ble_eq_true rfl) (fun x hx hBD => ?_)
  refine v_lv [(0, iv 27)] rfl ?_
  refine v_iload hx DJ6_bitCount_0f7a4_0 0 rfl ?_
  refine v_iload hx DJ6_bitCount_0f7a4_1 0 rfl ?_
  refine v_push hx DJ6_bitCount_0f7a4_2 ?_
  refine v_iushr hx DJ6_bitCount_0f7a4_3 (z := 13) (by decide +kernel) ?_
  refine v_ldcw hx DJ6_bitCount_0f7a4_4 cnRJ6_265 (z := 1431655765) rfl ?_
  refine v_iand hx DJ6_bitCount_0f7a4_7 (z := 5) (by decide +kernel) ?_
  refine v_isub hx DJ6_bitCount_0f7a4_8 ?_
  refine v_top (z' := 22) (by decide) ?_
  refine v_istore hx DJ6_bitCount_0f7a4_9 [(0, iv 22)] rfl (by decide) ?_
  refine v_iload hx DJ6_bitCount_0f7a4_10 0 rfl ?_
  refine v_ldcw hx DJ6_bitCount_0f7a4_11 cnRJ6_266 (z := 858993459) rfl ?_
  refine v_iand hx DJ6_bitCount_0f7a4_14 (z := 18) (by decide +kernel) ?_
  refine v_iload hx DJ6_bitCount_0f7a4_15 0 rfl ?_
  refine v_push hx DJ6_bitCount_0f7a4_16 ?_
  refine v_iushr hx DJ6_bitCount_0f7a4_17 (z := 5) (by decide +kernel) ?_
  refine v_ldcw hx DJ6_bitCount_0f7a4_18 cnRJ6_266 (z := 858993459) rfl ?_
  refine v_iand hx DJ6_bitCount_0f7a4_21 (z := 1) (by decide +kernel) ?_
  refine v_iadd hx DJ6_bitCount_0f7a4_22 ?_
  refine v_top (z' := 19) (by decide) ?_
  refine v_istore hx DJ6_bitCount_0f7a4_23 [(0, iv 19)] rfl (by decide) ?_
  refine v_iload hx DJ6_bitCount_0f7a4_24 0 rfl ?_
  refine v_iload hx DJ6_bitCount_0f7a4_25 0 rfl ?_
  refine v_push hx DJ6_bitCount_0f7a4_26 ?_
  refine v_iushr hx DJ6_bitCount_0f7a4_27 (z := 1) (by decide +kernel) ?_
  refine v_iadd hx DJ6_bitCount_0f7a4_28 ?_
  refine v_top (z' := 20) (by decide) ?_
  refine v_ldcw hx DJ6_bitCount_0f7a4_29 cnRJ6_267 (z := 252645135) rfl ?_
  refine v_iand hx DJ6_bitCount_0f7a4_32 (z := 4) (by decide +kernel) ?_
  refine v_istore hx DJ6_bitCount_0f7a4_33 [(0, iv 4)] rfl (by decide) ?_
  refine v_iload hx DJ6_bitCount_0f7a4_34 0 rfl ?_
  refine v_iload hx DJ6_bitCount_0f7a4_35 0 rfl ?_
  refine v_push hx DJ6_bitCount_0f7a4_36 ?_
  refine v_iushr hx DJ6_bitCount_0f7a4_38 (z := 0) (by decide +kernel) ?_
  refine v_iadd hx DJ6_bitCount_0f7a4_39 ?_
  refine v_top (z' := 4) (by decide) ?_
  refine v_istore hx DJ6_bitCount_0f7a4_40 [(0, iv 4)] rfl (by decide) ?_
  refine v_iload hx DJ6_bitCount_0f7a4_41 0 rfl ?_
  refine v_iload hx DJ6_bitCount_0f7a4_42 0 rfl ?_
  refine v_push hx DJ6_bitCount_0f7a4_43 ?_
  refine v_iushr hx DJ6_bitCount_0f7a4_45 (z := 0) (by decide +kernel) ?_
  refine v_iadd hx DJ6_bitCount_0f7a4_46 ?_
  refine v_top (z' := 4) (by decide) ?_
  refine v_istore hx DJ6_bitCount_0f7a4_47 [(0, iv 4)] rfl (by decide) ?_
  refine v_iload hx DJ6_bitCount_0f7a4_48 0 rfl ?_
  refine v_push hx DJ6_bitCount_0f7a4_49 ?_
  refine v_iand hx DJ6_bitCount_0f7a4_51 (z := 4) (by decide +kernel) ?_
  exact v_ri hx hBD DJ6_bitCount_0f7a4_52 (⟨rfl, rfl⟩)
theorem j_bits_28 (l : Launch) (G : Gl) (Λ : Lay) (sz : Nat) (μ : Mem)   : Sp l G yJ6_bitCount_0f7a4 cJ6_bitCount_0f7a4 1 (some FieldType.int) 0 [iv 28] Λ sz μ (pP μ 3) := by
  refine Sp.introF (by decide +kernel) (Nat.le_of_ble_eq_true rfl) (fun x hx hBD => ?_)
  refine v_lv [(0, iv 28)] rfl ?_
  refine v_iload hx DJ6_bitCount_0f7a4_0 0 rfl ?_
  refine v_iload hx DJ6_bitCount_0f7a4_1 0 rfl ?_
  refine v_push hx DJ6_bitCount_0f7a4_2 ?_
  refine v_iushr hx DJ6_bitCount_0f7a4_3 (z := 14) (by decide +kernel) ?_
  refine v_ldcw hx DJ6_bitCount_0f7a4_4 cnRJ6_265 (z := 1431655765) rfl ?_
  refine v_iand hx DJ6_bitCount_0f7a4_7 (z := 4) (by decide +kernel) ?_
  refine v_isub hx DJ6_bitCount_0f7a4_8 ?_
  refine v_top (z' := 24) (by decide) ?_
  refine v_istore hx DJ6_bitCount_0f7a4_9 [(0, iv 24)] rfl (by decide) ?_
  refine v_iload hx DJ6_bitCount_0f7a4_10 0 rfl ?_
  refine v_ldcw hx DJ6_bitCount_0f7a4_11 cnRJ6_266 (z := 858993459) rfl ?_
  refine v_iand hx DJ6_bitCount_0f7a4_14 (z := 16) (by decide +kernel) ?_
  refine v_iload hx DJ6_bitCount_0f7a4_15 0 rfl ?_
  refine v_push hx DJ6_bitCount_0f7a4_16 ?_
  refine v_iushr hx DJ6_bitCount_0f7a4_17 (z := 6) (by decide +kernel) ?_
  refine v_ldcw hx DJ6_bitCount_0f7a4_18 cnRJ6_266 (z := 858993459) rfl ?_
  refine v_iand hx DJ6_bitCount_0f7a4_21 (z := 2) (by decide +kernel) ?_
  refine v_iadd hx DJ6_bitCount_0f7a4_22 ?_
  refine v_top (z' := 18) (by decide) ?_
  refine v_istore hx DJ6_bitCount_0f7a4_23 [(0, iv 18)] rfl (by decide) ?_
  refine v_iload hx DJ6_bitCount_0f7a4_24 0 rfl ?_
  refine v_iload hx DJ6_bitCount_0f7a4_25 0 rfl ?_
  refine v_push hx DJ6_bitCount_0f7a4_26 ?_
  refine v_iushr hx DJ6_bitCount_0f7a4_27 (z := 1) (by decide +kernel) ?_
  refine v_iadd hx DJ6_bitCount_0f7a4_28 ?_
  refine v_top (z' := 19) (by decide) ?_
  refine v_ldcw hx DJ6_bitCount_0f7a4_29 cnRJ6_267 (z := 252645135) rfl ?_
  refine v_iand hx DJ6_bitCount_0f7a4_32 (z := 3) (by decide +kernel) ?_
  refine v_istore hx DJ6_bitCount_0f7a4_33 [(0, iv 3)] rfl (by decide) ?_
  refine v_iload hx DJ6_bitCount_0f7a4_34 0 rfl ?_
  refine v_iload hx DJ6_bitCount_0f7a4_35 0 rfl ?_
  refine v_push hx DJ6_bitCount_0f7a4_36 ?_
  refine v_iushr hx DJ6_bitCount_0f7a4_38 (z := 0) (by decide +kernel) ?_
  refine v_iadd hx DJ6_bitCount_0f7a4_39 ?_
  refine v_top (z' := 3) (by decide) ?_
  refine v_istore hx DJ6_bitCount_0f7a4_40 [(0, iv 3)] rfl (by decide) ?_
  refine v_iload hx DJ6_bitCount_0f7a4_41 0 rfl ?_
  refine v_iload hx DJ6_bitCount_0f7a4_42 0 rfl ?_
  refine v_push hx DJ6_bitCount_0f7a4_43 ?_
  refine v_iushr hx DJ6_bitCount_0f7a4_45 (z := 0) (by decide +kernel) ?_
  refine v_iadd hx DJ6_bitCount_0f7a4_46 ?_
  refine v_top (z' := 3) (by decide) ?_
  refine v_istore hx DJ6_bitCount_0f7a4_47 [(0, iv 3)] rfl (by decide) ?_
  refine v_iload hx DJ6_bitCount_0f7a4_48 0 rfl ?_
  refine v_push hx DJ6_bitCount_0f7a4_49 ?_
  refine v_iand hx DJ6_bitCount_0f7a4_51 (z := 3) (by decide +kernel) ?_
  exact v_ri hx hBD DJ6_bitCount_0f7a4_52 (⟨rfl, rfl⟩)
theorem j_bits_29 (l : Launch) (G : Gl) (Λ : Lay) (sz : Nat) (μ : Mem)   : Sp l G yJ6_bitCount_0f7a4 cJ6_bitCount_0f7a4 1 (some FieldType.int) 0 [iv 29] Λ sz μ (pP μ 4) := by
  refine Sp.introF (by decide +kernel) (Nat.le_of_ble_eq_true rfl) (fun x hx hBD => ?_)
  refine v_lv [(0, iv 29)] rfl ?_
  refine v_iload hx DJ6_bitCount_0f7a4_0 0 rfl ?_
  refine v_iload hx DJ6_bitCount_0f7a4_1 0 rfl ?_
  refine v_push hx DJ6_bitCount_0f7a4_2 ?_
  refine v_iushr hx DJ6_bitCount_0f7a4_3 (z := 14) (by decide +kernel) ?_
  refine v_ldcw hx DJ6_bitCount_0f7a4_4 cnRJ6_265 (z := 1431655765) rfl ?_
  refine v_iand hx DJ6_bitCount_0f7a4_7 (z := 4) (by decide +kernel) ?_
  refine v_isub hx DJ6_bitCount_0f7a4_8 ?_
  refine v_top (z' := 25) (by decide) ?_
  refine v_istore hx DJ6_bitCount_0f7a4_9 [(0, iv 25)] rfl (by decide) ?_
  refine v_iload hx DJ6_bitCount_0f7a4_10 0 rfl ?_
  refine v_ldcw hx DJ6_bitCount_0f7a4_11 cnRJ6_266 (z := 858993459) rfl ?_
  refine v_iand hx DJ6_bitCount_0f7a4_14 (z := 17) (by decide +kernel) ?_
  refine v_iload hx DJ6_bitCount_0f7a4_15 0 rfl ?_
  refine v_push hx DJ6_bitCount_0f7a4_16 ?_
  refine v_iushr hx DJ6_bitCount_0f7a4_17 (z := 6) (by decide +kernel) ?_
  refine v_ldcw hx DJ6_bitCount_0f7a4_18 cnRJ6_266 (z := 858993459) rfl ?_
  refine v_iand hx DJ6_bitCount_0f7a4_21 (z := 2) (by decide +kernel) ?_
  refine v_iadd hx DJ6_bitCount_0f7a4_22 ?_
  refine v_top (z' := 19) (by decide) ?_
  refine v_istore hx DJ6_bitCount_0f7a4_23 [(0, iv 19)] rfl (by decide) ?_
  refine v_iload hx DJ6_bitCount_0f7a4_24 0 rfl ?_
  refine v_iload hx DJ6_bitCount_0f7a4_25 0 rfl ?_
  refine v_push hx DJ6_bitCount_0f7a4_26 ?_
  refine v_iushr hx DJ6_bitCount_0f7a4_27 (z := 1) (by decide +kernel) ?_
  refine v_iadd hx DJ6_bitCount_0f7a4_28 ?_
  refine v_top (z' := 20) (by decide) ?_
  refine v_ldcw hx DJ6_bitCount_0f7a4_29 cnRJ6_267 (z := 252645135) rfl ?_
  refine v_iand hx DJ6_bitCount_0f7a4_32 (z := 4) (by decide +kernel) ?_
  refine v_istore hx DJ6_bitCount_0f7a4_33 [(0, iv 4)] rfl (by decide) ?_
  refine v_iload hx DJ6_bitCount_0f7a4_34 0 rfl ?_
  refine v_iload hx DJ6_bitCount_0f7a4_35 0 rfl ?_
  refine v_push hx DJ6_bitCount_0f7a4_36 ?_
  refine v_iushr hx DJ6_bitCount_0f7a4_38 (z := 0) (by decide +kernel) ?_
  refine v_iadd hx DJ6_bitCount_0f7a4_39 ?_
  refine v_top (z' := 4) (by decide) ?_
  refine v_istore hx DJ6_bitCount_0f7a4_40 [(0, iv 4)] rfl (by decide) ?_
  refine v_iload hx DJ6_bitCount_0f7a4_41 0 rfl ?_
  refine v_iload hx DJ6_bitCount_0f7a4_42 0 rfl ?_
  refine v_push hx DJ6_bitCount_0f7a4_43 ?_
  refine v_iushr hx DJ6_bitCount_0f7a4_45 (z := 0) (by decide +kernel) ?_
  refine v_iadd hx DJ6_bitCount_0f7a4_46 ?_
  refine v_top (z' := 4) (by decide) ?_
  refine v_istore hx DJ6_bitCount_0f7a4_47 [(0, iv 4)] rfl (by decide) ?_
  refine v_iload hx DJ6_bitCount_0f7a4_48 0 rfl ?_
  refine v_push hx DJ6_bitCount_0f7a4_49 ?_
  refine v_iand hx DJ6_bitCount_0f7a4_51 (z := 4) (by decide +kernel) ?_
  exact v_ri hx hBD DJ6_bitCount_0f7a4_52 (⟨rfl, rfl⟩)
theorem j_bits_30 (l : Launch) (G : Gl) (Λ : Lay) (sz : Nat) (μ : Mem)   : Sp l G yJ6_bitCount_0f7a4 cJ6_bitCount_0f7a4 1 (some FieldType.int) 0 [iv 30] Λ sz μ (pP μ 4) := by
  refine Sp.introF (by decide +kernel) (Nat.le_of_ble_eq_true rfl) (fun x hx hBD => ?_)
  refine v_lv [(0, iv 30)] rfl ?_
  refine v_iload hx DJ6_bitCount_0f7a4_0 0 rfl ?_
  refine v_iload hx DJ6_bitCount_0f7a4_1 0 rfl ?_
  refine v_push hx DJ6_bitCount_0f7a4_2 ?_
  refine v_iushr hx DJ6_bitCount_0f7a4_3 (z := 15) (by decide +kernel) ?_
  refine v_ldcw hx DJ6_bitCount_0f7a4_4 cnRJ6_265 (z := 1431655765) rfl ?_
  refine v_iand hx DJ6_bitCount_0f7a4_7 (z := 5) (by decide +kernel) ?_
  refine v_isub hx DJ6_bitCount_0f7a4_8 ?_
  refine v_top (z' := 25) (by decide) ?_
  refine v_istore hx DJ6_bitCount_0f7a4_9 [(0, iv 25)] rfl (by decide) ?_
  refine v_iload hx DJ6_bitCount_0f7a4_10 0 rfl ?_
  refine v_ldcw hx DJ6_bitCount_0f7a4_11 cnRJ6_266 (z := 858993459) rfl ?_
  refine v_iand hx DJ6_bitCount_0f7a4_14 (z := 17) (by decide +kernel) ?_
  refine v_iload hx DJ6_bitCount_0f7a4_15 0 rfl ?_
  refine v_push hx DJ6_bitCount_0f7a4_16 ?_
  refine v_iushr hx DJ6_bitCount_0f7a4_17 (z := 6) (by decide +kernel) ?_
  refine v_ldcw hx DJ6_bitCount_0f7a4_18 cnRJ6_266 (z := 858993459) rfl ?_
  refine v_iand hx DJ6_bitCount_0f7a4_21 (z := 2) (by decide +kernel) ?_
  refine v_iadd hx DJ6_bitCount_0f7a4_22 ?_
  refine v_top (z' := 19) (by decide) ?_
  refine v_istore hx DJ6_bitCount_0f7a4_23 [(0, iv 19)] rfl (by decide) ?_
  refine v_iload hx DJ6_bitCount_0f7a4_24 0 rfl ?_
  refine v_iload hx DJ6_bitCount_0f7a4_25 0 rfl ?_
  refine v_push hx DJ6_bitCount_0f7a4_26 ?_
  refine v_iushr hx DJ6_bitCount_0f7a4_27 (z := 1) (by decide +kernel) ?_
  refine v_iadd hx DJ6_bitCount_0f7a4_28 ?_
  refine v_top (z' := 20) (by decide) ?_
  refine v_ldcw hx DJ6_bitCount_0f7a4_29 cnRJ6_267 (z := 252645135) rfl ?_
  refine v_iand hx DJ6_bitCount_0f7a4_32 (z := 4) (by decide +kernel) ?_
  refine v_istore hx DJ6_bitCount_0f7a4_33 [(0, iv 4)] rfl (by decide) ?_
  refine v_iload hx DJ6_bitCount_0f7a4_34 0 rfl ?_
  refine v_iload hx DJ6_bitCount_0f7a4_35 0 rfl ?_
  refine v_push hx DJ6_bitCount_0f7a4_36 ?_
  refine v_iushr hx DJ6_bitCount_0f7a4_38 (z := 0) (by decide +kernel) ?_
  refine v_iadd hx DJ6_bitCount_0f7a4_39 ?_
  refine v_top (z' := 4) (by decide) ?_
  refine v_istore hx DJ6_bitCount_0f7a4_40 [(0, iv 4)] rfl (by decide) ?_
  refine v_iload hx DJ6_bitCount_0f7a4_41 0 rfl ?_
  refine v_iload hx DJ6_bitCount_0f7a4_42 0 rfl ?_
  refine v_push hx DJ6_bitCount_0f7a4_43 ?_
  refine v_iushr hx DJ6_bitCount_0f7a4_45 (z := 0) (by decide +kernel) ?_
  refine v_iadd hx DJ6_bitCount_0f7a4_46 ?_
  refine v_top (z' := 4) (by decide) ?_
  refine v_istore hx DJ6_bitCount_0f7a4_47 [(0, iv 4)] rfl (by decide) ?_
  refine v_iload hx DJ6_bitCount_0f7a4_48 0 rfl ?_
  refine v_push hx DJ6_bitCount_0f7a4_49 ?_
  refine v_iand hx DJ6_bitCount_0f7a4_51 (z := 4) (by decide +kernel) ?_
  exact v_ri hx hBD DJ6_bitCount_0f7a4_52 (⟨rfl, rfl⟩)
theorem j_bits_31 (l : Launch) (G : Gl) (Λ : Lay) (sz : Nat) (μ : Mem)   : Sp l G yJ6_bitCount_0f7a4 cJ6_bitCount_0f7a4 1 (some FieldType.int) 0 [iv 31] Λ sz μ (pP μ 5) := by
  refine Sp.introF (by decide +kernel) (Nat.le_of_ble_eq_true rfl) (fun x hx hBD => ?_)
  refine v_lv [(0, iv 31)] rfl ?_
  refine v_iload hx DJ6_bitCount_0f7a4_0 0 rfl ?_
  refine v_iload hx DJ6_bitCount_0f7a4_1 0 rfl ?_
  refine v_push hx DJ6_bitCount_0f7a4_2 ?_
  refine v_iushr hx DJ6_bitCount_0f7a4_3 (z := 15) (by decide +kernel) ?_
  refine v_ldcw hx DJ6_bitCount_0f7a4_4 cnRJ6_265 (z := 1431655765) rfl ?_
  refine v_iand hx DJ6_bitCount_0f7a4_7 (z := 5) (by decide +kernel) ?_
  refine v_isub hx DJ6_bitCount_0f7a4_8 ?_
  refine v_top (z' := 26) (by decide) ?_
  refine v_istore hx DJ6_bitCount_0f7a4_9 [(0, iv 26)] rfl (by decide) ?_
  refine v_iload hx DJ6_bitCount_0f7a4_10 0 rfl ?_
  refine v_ldcw hx DJ6_bitCount_0f7a4_11 cnRJ6_266 (z := 858993459) rfl ?_
  refine v_iand hx DJ6_bitCount_0f7a4_14 (z := 18) (by decide +kernel) ?_
  refine v_iload hx DJ6_bitCount_0f7a4_15 0 rfl ?_
  refine v_push hx DJ6_bitCount_0f7a4_16 ?_
  refine v_iushr hx DJ6_bitCount_0f7a4_17 (z := 6) (by decide +kernel) ?_
  refine v_ldcw hx DJ6_bitCount_0f7a4_18 cnRJ6_266 (z := 858993459) rfl ?_
  refine v_iand hx DJ6_bitCount_0f7a4_21 (z := 2) (by decide +kernel) ?_
  refine v_iadd hx DJ6_bitCount_0f7a4_22 ?_
  refine v_top (z' := 20) (by decide) ?_
  refine v_istore hx DJ6_bitCount_0f7a4_23 [(0, iv 20)] rfl (by decide) ?_
  refine v_iload hx DJ6_bitCount_0f7a4_24 0 rfl ?_
  refine v_iload hx DJ6_bitCount_0f7a4_25 0 rfl ?_
  refine v_push hx DJ6_bitCount_0f7a4_26 ?_
  refine v_iushr hx DJ6_bitCount_0f7a4_27 (z := 1) (by decide +kernel) ?_
  refine v_iadd hx DJ6_bitCount_0f7a4_28 ?_
  refine v_top (z' := 21) (by decide) ?_
  refine v_ldcw hx DJ6_bitCount_0f7a4_29 cnRJ6_267 (z := 252645135) rfl ?_
  refine v_iand hx DJ6_bitCount_0f7a4_32 (z := 5) (by decide +kernel) ?_
  refine v_istore hx DJ6_bitCount_0f7a4_33 [(0, iv 5)] rfl (by decide) ?_
  refine v_iload hx DJ6_bitCount_0f7a4_34 0 rfl ?_
  refine v_iload hx DJ6_bitCount_0f7a4_35 0 rfl ?_
  refine v_push hx DJ6_bitCount_0f7a4_36 ?_
  refine v_iushr hx DJ6_bitCount_0f7a4_38 (z := 0) (by decide +kernel) ?_
  refine v_iadd hx DJ6_bitCount_0f7a4_39 ?_
  refine v_top (z' := 5) (by decide) ?_
  refine v_istore hx DJ6_bitCount_0f7a4_40 [(0, iv 5)] rfl (by decide) ?_
  refine v_iload hx DJ6_bitCount_0f7a4_41 0 rfl ?_
  refine v_iload hx DJ6_bitCount_0f7a4_42 0 rfl ?_
  refine v_push hx DJ6_bitCount_0f7a4_43 ?_
  refine v_iushr hx DJ6_bitCount_0f7a4_45 (z := 0) (by decide +kernel) ?_
  refine v_iadd hx DJ6_bitCount_0f7a4_46 ?_
  refine v_top (z' := 5) (by decide) ?_
  refine v_istore hx DJ6_bitCount_0f7a4_47 [(0, iv 5)] rfl (by decide) ?_
  refine v_iload hx DJ6_bitCount_0f7a4_48 0 rfl ?_
  refine v_push hx DJ6_bitCount_0f7a4_49 ?_
  refine v_iand hx DJ6_bitCount_0f7a4_51 (z := 5) (by decide +kernel) ?_
  exact v_ri hx hBD DJ6_bitCount_0f7a4_52 (⟨rfl, rfl⟩)
theorem j_ntz_0 (l : Launch) (G : Gl) (Λ : Lay) (sz : Nat) (μ : Mem)   : Sp l G yJ6_numberOfTrailingZeros_0f7a4 cJ6_numberOfTrailingZeros_0f7a4 2 (some FieldType.int) 0 [iv 1] Λ sz μ (pP μ 0) := by
  refine Sp.introF (by decide +kernel) (Nat.le_of_ble_eq_true rfl) (fun x hx hBD => ?_)
  refine v_lv [(0, iv 1)] rfl ?_
  refine v_iload hx DJ6_numberOfTrailingZeros_0f7a4_0 0 rfl ?_
  refine v_push hx DJ6_numberOfTrailingZeros_0f7a4_1 ?_
  refine v_ixor hx DJ6_numberOfTrailingZeros_0f7a4_2 (z := -2) (by decide +kernel) ?_
  refine v_iload hx DJ6_numberOfTrailingZeros_0f7a4_3 0 rfl ?_
  refine v_push hx DJ6_numberOfTrailingZeros_0f7a4_4 ?_
  refine v_isub hx DJ6_numberOfTrailingZeros_0f7a4_5 ?_
  refine v_top (z' := 0) (by decide) ?_
  refine v_iand hx DJ6_numberOfTrailingZeros_0f7a4_6 (z := 0) (by decide +kernel) ?_
  refine v_istore hx DJ6_numberOfTrailingZeros_0f7a4_7 [(0, iv 0)] rfl (by decide) ?_
  refine v_iload hx DJ6_numberOfTrailingZeros_0f7a4_8 0 rfl ?_
  refine v_if_gt hx DJ6_numberOfTrailingZeros_0f7a4_9 (by decide) (fun c9 => ?_) (fun c9 => ?_)
  · exact absurd c9 (by decide)
  · skip
    refine v_iload hx DJ6_numberOfTrailingZeros_0f7a4_12 0 rfl ?_
    refine v_push hx DJ6_numberOfTrailingZeros_0f7a4_13 ?_
    refine v_iand hx DJ6_numberOfTrailingZeros_0f7a4_15 (z := 0) (by decide +kernel) ?_
    exact v_ri hx hBD DJ6_numberOfTrailingZeros_0f7a4_16 (⟨rfl, rfl⟩)
theorem j_ntz_1 (l : Launch) (G : Gl) (Λ : Lay) (sz : Nat) (μ : Mem)   : Sp l G yJ6_numberOfTrailingZeros_0f7a4 cJ6_numberOfTrailingZeros_0f7a4 2 (some FieldType.int) 0 [iv 2] Λ sz μ (pP μ 1) := by
  refine Sp.introF (by decide +kernel) (Nat.le_of_ble_eq_true rfl) (fun x hx hBD => ?_)
  refine v_lv [(0, iv 2)] rfl ?_
  refine v_iload hx DJ6_numberOfTrailingZeros_0f7a4_0 0 rfl ?_
  refine v_push hx DJ6_numberOfTrailingZeros_0f7a4_1 ?_
  refine v_ixor hx DJ6_numberOfTrailingZeros_0f7a4_2 (z := -3) (by decide +kernel) ?_
  refine v_iload hx DJ6_numberOfTrailingZeros_0f7a4_3 0 rfl ?_
  refine v_push hx DJ6_numberOfTrailingZeros_0f7a4_4 ?_
  refine v_isub hx DJ6_numberOfTrailingZeros_0f7a4_5 ?_
  refine v_top (z' := 1) (by decide) ?_
  refine v_iand hx DJ6_numberOfTrailingZeros_0f7a4_6 (z := 1) (by decide +kernel) ?_
  refine v_istore hx DJ6_numberOfTrailingZeros_0f7a4_7 [(0, iv 1)] rfl (by decide) ?_
  refine v_iload hx DJ6_numberOfTrailingZeros_0f7a4_8 0 rfl ?_
  refine v_if_gt hx DJ6_numberOfTrailingZeros_0f7a4_9 (by decide) (fun c9 => ?_) (fun c9 => ?_)
  · skip
    refine v_push hx DJ6_numberOfTrailingZeros_0f7a4_17 ?_
    refine v_istore hx DJ6_numberOfTrailingZeros_0f7a4_18 [(1, iv 1), (0, iv 1)] rfl (by decide) ?_
    refine v_iload hx DJ6_numberOfTrailingZeros_0f7a4_19 1 rfl ?_
    refine v_ldcw hx DJ6_numberOfTrailingZeros_0f7a4_20 cnRJ6_264 (z := 65536) rfl ?_
    refine v_icmp_le hx DJ6_numberOfTrailingZeros_0f7a4_23 (by decide) (by decide) (fun c23 => ?_) (fun c23 => ?_)
    · skip
      refine v_iload hx DJ6_numberOfTrailingZeros_0f7a4_34 1 rfl ?_
      refine v_push hx DJ6_numberOfTrailingZeros_0f7a4_35 ?_
      refine v_icmp_le hx DJ6_numberOfTrailingZeros_0f7a4_38 (by decide) (by decide) (fun c38 => ?_) (fun c38 => ?_)
      · skip
        refine v_iload hx DJ6_numberOfTrailingZeros_0f7a4_49 1 rfl ?_
        refine v_push hx DJ6_numberOfTrailingZeros_0f7a4_50 ?_
        refine v_icmp_le hx DJ6_numberOfTrailingZeros_0f7a4_52 (by decide) (by decide) (fun c52 => ?_) (fun c52 => ?_)
        · skip
          refine v_iload hx DJ6_numberOfTrailingZeros_0f7a4_62 1 rfl ?_
          refine v_push hx DJ6_numberOfTrailingZeros_0f7a4_63 ?_
          refine v_icmp_le hx DJ6_numberOfTrailingZeros_0f7a4_64 (by decide) (by decide) (fun c64 => ?_) (fun c64 => ?_)
          · skip
            refine v_iload hx DJ6_numberOfTrailingZeros_0f7a4_74 0 rfl ?_
            refine v_iload hx DJ6_numberOfTrailingZeros_0f7a4_75 1 rfl ?_
            refine v_push hx DJ6_numberOfTrailingZeros_0f7a4_76 ?_
            refine v_iushr hx DJ6_numberOfTrailingZeros_0f7a4_77 (z := 0) (by decide +kernel) ?_
            refine v_iadd hx DJ6_numberOfTrailingZeros_0f7a4_78 ?_
            refine v_top (z' := 1) (by decide) ?_
            exact v_ri hx hBD DJ6_numberOfTrailingZeros_0f7a4_79 (⟨rfl, rfl⟩)
          · exact absurd c64 (by decide)
        · exact absurd c52 (by decide)
      · exact absurd c38 (by decide)
    · exact absurd c23 (by decide)
  · exact absurd c9 (by decide)
theorem j_ntz_2 (l : Launch) (G : Gl) (Λ : Lay) (sz : Nat) (μ : Mem)   : Sp l G yJ6_numberOfTrailingZeros_0f7a4 cJ6_numberOfTrailingZeros_0f7a4 2 (some FieldType.int) 0 [iv 4] Λ sz μ (pP μ 2) := by
  refine Sp.introF (by decide +kernel) (Nat.le_of_ble_eq_true rfl) (fun x hx hBD => ?_)
  refine v_lv [(0, iv 4)] rfl ?_
  refine v_iload hx DJ6_numberOfTrailingZeros_0f7a4_0 0 rfl ?_
  refine v_push hx DJ6_numberOfTrailingZeros_0f7a4_1 ?_
  refine v_ixor hx DJ6_numberOfTrailingZeros_0f7a4_2 (z := -5) (by decide +kernel) ?_
  refine v_iload hx DJ6_numberOfTrailingZeros_0f7a4_3 0 rfl ?_
  refine v_push hx DJ6_numberOfTrailingZeros_0f7a4_4 ?_
  refine v_isub hx DJ6_numberOfTrailingZeros_0f7a4_5 ?_
  refine v_top (z' := 3) (by decide) ?_
  refine v_iand hx DJ6_numberOfTrailingZeros_0f7a4_6 (z := 3) (by decide +kernel) ?_
  refine v_istore hx DJ6_numberOfTrailingZeros_0f7a4_7 [(0, iv 3)] rfl (by decide) ?_
  refine v_iload hx DJ6_numberOfTrailingZeros_0f7a4_8 0 rfl ?_
  refine v_if_gt hx DJ6_numberOfTrailingZeros_0f7a4_9 (by decide) (fun c9 => ?_) (fun c9 => ?_)
  · skip
    refine v_push hx DJ6_numberOfTrailingZeros_0f7a4_17 ?_
    refine v_istore hx DJ6_numberOfTrailingZeros_0f7a4_18 [(1, iv 1), (0, iv 3)] rfl (by decide) ?_
    refine v_iload hx DJ6_numberOfTrailingZeros_0f7a4_19 1 rfl ?_
    refine v_ldcw hx DJ6_numberOfTrailingZeros_0f7a4_20 cnRJ6_264 (z := 65536) rfl ?_
    refine v_icmp_le hx DJ6_numberOfTrailingZeros_0f7a4_23 (by decide) (by decide) (fun c23 => ?_) (fun c23 => ?_)
    · skip
      refine v_iload hx DJ6_numberOfTrailingZeros_0f7a4_34 1 rfl ?_
      refine v_push hx DJ6_numberOfTrailingZeros_0f7a4_35 ?_
      refine v_icmp_le hx DJ6_numberOfTrailingZeros_0f7a4_38 (by decide) (by decide) (fun c38 => ?_) (fun c38 => ?_)
      · skip
        refine v_iload hx DJ6_numberOfTrailingZeros_0f7a4_49 1 rfl ?_
        refine v_push hx DJ6_numberOfTrailingZeros_0f7a4_50 ?_
        refine v_icmp_le hx DJ6_numberOfTrailingZeros_0f7a4_52 (by decide) (by decide) (fun c52 => ?_) (fun c52 => ?_)
        · skip
          refine v_iload hx DJ6_numberOfTrailingZeros_0f7a4_62 1 rfl ?_
          refine v_push hx DJ6_numberOfTrailingZeros_0f7a4_63 ?_
          refine v_icmp_le hx DJ6_numberOfTrailingZeros_0f7a4_64 (by decide) (by decide) (fun c64 => ?_) (fun c64 => ?_)
          · skip
            refine v_iload hx DJ6_numberOfTrailingZeros_0f7a4_74 0 rfl ?_
            refine v_iload hx DJ6_numberOfTrailingZeros_0f7a4_75 1 rfl ?_
            refine v_push hx DJ6_numberOfTrailingZeros_0f7a4_76 ?_
            refine v_iushr hx DJ6_numberOfTrailingZeros_0f7a4_77 (z := 1) (by decide +kernel) ?_
            refine v_iadd hx DJ6_numberOfTrailingZeros_0f7a4_78 ?_
            refine v_top (z' := 2) (by decide) ?_
            exact v_ri hx hBD DJ6_numberOfTrailingZeros_0f7a4_79 (⟨rfl, rfl⟩)
          · exact absurd c64 (by decide)
        · exact absurd c52 (by decide)
      · exact absurd c38 (by decide)
    · exact absurd c23 (by decide)
  · exact absurd c9 (by decide)
theorem j_ntz_3 (l : Launch) (G : Gl) (Λ : Lay) (sz : Nat) (μ : Mem)   : Sp l G yJ6_numberOfTrailingZeros_0f7a4 cJ6_numberOfTrailingZeros_0f7a4 2 (some FieldType.int) 0 [iv 8] Λ sz μ (pP μ 3) := by
  refine Sp.introF (by decide +kernel) (Nat.le_of_ble_eq_true rfl) (fun x hx hBD => ?_)
  refine v_lv [(0, iv 8)] rfl ?_
  refine v_iload hx DJ6_numberOfTrailingZeros_0f7a4_0 0 rfl ?_
  refine v_push hx DJ6_numberOfTrailingZeros_0f7a4_1 ?_
  refine v_ixor hx DJ6_numberOfTrailingZeros_0f7a4_2 (z := -9) (by decide +kernel) ?_
  refine v_iload hx DJ6_numberOfTrailingZeros_0f7a4_3 0 rfl ?_
  refine v_push hx DJ6_numberOfTrailingZeros_0f7a4_4 ?_
  refine v_isub hx DJ6_numberOfTrailingZeros_0f7a4_5 ?_
  refine v_top (z' := 7) (by decide) ?_
  refine v_iand hx DJ6_numberOfTrailingZeros_0f7a4_6 (z := 7) (by decide +kernel) ?_
  refine v_istore hx DJ6_numberOfTrailingZeros_0f7a4_7 [(0, iv 7)] rfl (by decide) ?_
  refine v_iload hx DJ6_numberOfTrailingZeros_0f7a4_8 0 rfl ?_
  refine v_if_gt hx DJ6_numberOfTrailingZeros_0f7a4_9 (by decide) (fun c9 => ?_) (fun c9 => ?_)
  · skip
    refine v_push hx DJ6_numberOfTrailingZeros_0f7a4_17 ?_
    refine v_istore hx DJ6_numberOfTrailingZeros_0f7a4_18 [(1, iv 1), (0, iv 7)] rfl (by decide) ?_
    refine v_iload hx DJ6_numberOfTrailingZeros_0f7a4_19 1 rfl ?_
    refine v_ldcw hx DJ6_numberOfTrailingZeros_0f7a4_20 cnRJ6_264 (z := 65536) rfl ?_
    refine v_icmp_le hx DJ6_numberOfTrailingZeros_0f7a4_23 (by decide) (by decide) (fun c23 => ?_) (fun c23 => ?_)
    · skip
      refine v_iload hx DJ6_numberOfTrailingZeros_0f7a4_34 1 rfl ?_
      refine v_push hx DJ6_numberOfTrailingZeros_0f7a4_35 ?_
      refine v_icmp_le hx DJ6_numberOfTrailingZeros_0f7a4_38 (by decide) (by decide) (fun c38 => ?_) (fun c38 => ?_)
      · skip
        refine v_iload hx DJ6_numberOfTrailingZeros_0f7a4_49 1 rfl ?_
        refine v_push hx DJ6_numberOfTrailingZeros_0f7a4_50 ?_
        refine v_icmp_le hx DJ6_numberOfTrailingZeros_0f7a4_52 (by decide) (by decide) (fun c52 => ?_) (fun c52 => ?_)
        · skip
          refine v_iload hx DJ6_numberOfTrailingZeros_0f7a4_62 1 rfl ?_
          refine v_push hx DJ6_numberOfTrailingZeros_0f7a4_63 ?_
          refine v_icmp_le hx DJ6_numberOfTrailingZeros_0f7a4_64 (by decide) (by decide) (fun c64 => ?_) (fun c64 => ?_)
          · exact absurd c64 (by decide)
          · skip
            refine v_iinc hx DJ6_numberOfTrailingZeros_0f7a4_67 0 rfl [(1, iv (1 + 2)), (0, iv 7)] rfl (by decide) ?_
            refine v_iload hx DJ6_numberOfTrailingZeros_0f7a4_70 1 rfl ?_
            refine v_push hx DJ6_numberOfTrailingZeros_0f7a4_71 ?_
            refine v_iushr hx DJ6_numberOfTrailingZeros_0f7a4_72 (z := 1) (by decide +kernel) ?_
            refine v_istore hx DJ6_numberOfTrailingZeros_0f7a4_73 [(0, iv 1), (1, iv (1 + 2))] rfl (by decide) ?_
            refine v_iload hx DJ6_numberOfTrailingZeros_0f7a4_74 1 rfl ?_
            refine v_iload hx DJ6_numberOfTrailingZeros_0f7a4_75 0 rfl ?_
            refine v_push hx DJ6_numberOfTrailingZeros_0f7a4_76 ?_
            refine v_iushr hx DJ6_numberOfTrailingZeros_0f7a4_77 (z := 0) (by decide +kernel) ?_
            refine v_iadd hx DJ6_numberOfTrailingZeros_0f7a4_78 ?_
            exact v_ri hx hBD DJ6_numberOfTrailingZeros_0f7a4_79 (⟨rfl, rfl⟩)
        · exact absurd c52 (by decide)
      · exact absurd c38 (by decide)
    · exact absurd c23 (by decide)
  · exact absurd c9 (by decide)
theorem j_ntz_4 (l : Launch) (G : Gl) (Λ : Lay) (sz : Nat) (μ : Mem)   : Sp l G yJ6_numberOfTrailingZeros_0f7a4 cJ6_numberOfTrailingZeros_0f7a4 2 (some FieldType.int) 0 [iv 16] Λ sz μ (pP μ 4) := by
  refine Sp.introF (by decide +kernel) (Nat.le_of_ble_eq_true rfl) (fun x hx hBD => ?_)
  refine v_lv [(0, iv 16)] rfl ?_
  refine v_iload hx DJ6_numberOfTrailingZeros_0f7a4_0 0 rfl ?_
  refine v_push hx DJ6_numberOfTrailingZeros_0f7a4_1 ?_
  refine v_ixor hx DJ6_numberOfTrailingZeros_0f7a4_2 (z := -17) (by decide +kernel) ?_
  refine v_iload hx DJ6_numberOfTrailingZeros_0f7a4_3 0 rfl ?_
  refine v_push hx DJ6_numberOfTrailingZeros_0f7a4_4 ?_
  refine v_isub hx DJ6_numberOfTrailingZeros_0f7a4_5 ?_
  refine v_top (z' := 15) (by decide) ?_
  refine v_iand hx DJ6_numberOfTrailingZeros_0f7a4_6 (z := 15) (by decide +kernel) ?_
  refine v_istore hx DJ6_numberOfTrailingZeros_0f7a4_7 [(0, iv 15)] rfl (by decide) ?_
  refine v_iload hx DJ6_numberOfTrailingZeros_0f7a4_8 0 rfl ?_
  refine v_if_gt hx DJ6_numberOfTrailingZeros_0f7a4_9 (by decide) (fun c9 => ?_) (fun c9 => ?_)
  · skip
    refine v_push hx DJ6_numberOfTrailingZeros_0f7a4_17 ?_
    refine v_istore hx DJ6_numberOfTrailingZeros_0f7a4_18 [(1, iv 1), (0, iv 15)] rfl (by decide) ?_
    refine v_iload hx DJ6_numberOfTrailingZeros_0f7a4_19 1 rfl ?_
    refine v_ldcw hx DJ6_numberOfTrailingZeros_0f7a4_20 cnRJ6_264 (z := 65536) rfl ?_
    refine v_icmp_le hx DJ6_numberOfTrailingZeros_0f7a4_23 (by decide) (by decide) (fun c23 => ?_) (fun c23 => ?_)
    · skip
      refine v_iload hx DJ6_numberOfTrailingZeros_0f7a4_34 1 rfl ?_
      refine v_push hx DJ6_numberOfTrailingZeros_0f7a4_35 ?_
      refine v_icmp_le hx DJ6_numberOfTrailingZeros_0f7a4_38 (by decide) (by decide) (fun c38 => ?_) (fun c38 => ?_)
      · skip
        refine v_iload hx DJ6_numberOfTrailingZeros_0f7a4_49 1 rfl ?_
        refine v_push hx DJ6_numberOfTrailingZeros_0f7a4_50 ?_
        refine v_icmp_le hx DJ6_numberOfTrailingZeros_0f7a4_52 (by decide) (by decide) (fun c52 => ?_) (fun c52 => ?_)
        · skip
          refine v_iload hx DJ6_numberOfTrailingZeros_0f7a4_62 1 rfl ?_
          refine v_push hx DJ6_numberOfTrailingZeros_0f7a4_63 ?_
          refine v_icmp_le hx DJ6_numberOfTrailingZeros_0f7a4_64 (by decide) (by decide) (fun c64 => ?_) (fun c64 => ?_)
          · exact absurd c64 (by decide)
          · skip
            refine v_iinc hx DJ6_numberOfTrailingZeros_0f7a4_67 0 rfl [(1, iv (1 + 2)), (0, iv 15)] rfl (by decide) ?_
            refine v_iload hx DJ6_numberOfTrailingZeros_0f7a4_70 1 rfl ?_
            refine v_push hx DJ6_numberOfTrailingZeros_0f7a4_71 ?_
            refine v_iushr hx DJ6_numberOfTrailingZeros_0f7a4_72 (z := 3) (by decide +kernel) ?_
            refine v_istore hx DJ6_numberOfTrailingZeros_0f7a4_73 [(0, iv 3), (1, iv (1 + 2))] rfl (by decide) ?_
            refine v_iload hx DJ6_numberOfTrailingZeros_0f7a4_74 1 rfl ?_
            refine v_iload hx DJ6_numberOfTrailingZeros_0f7a4_75 0 rfl ?_
            refine v_push hx DJ6_numberOfTrailingZeros_0f7a4_76 ?_
            refine v_iushr hx DJ6_numberOfTrailingZeros_0f7a4_77 (z := 1) (by decide +kernel) ?_
            refine v_iadd hx DJ6_numberOfTrailingZeros_0f7a4_78 ?_
            exact v_ri hx hBD DJ6_numberOfTrailingZeros_0f7a4_79 (⟨rfl, rfl⟩)
        · exact absurd c52 (by decide)
      · exact absurd c38 (by decide)
    · exact absurd c23 (by decide)
  · exact absurd c9 (by decide)
theorem j_bits (l : Launch) (G : Gl) (Λ : Lay) (sz : Nat) (μ : Mem) {v : Int} (hv : 0 ≤ v ∧ v < 32) : Sp l G yJ6_bitCount_0f7a4 cJ6_bitCount_0f7a4 1 (some FieldType.int) 0 [iv v] Λ sz μ (pP μ (bcI v)) := by
  have h : v = 0 ∨ v = 1 ∨ v = 2 ∨ v = 3 ∨ v = 4 ∨ v = 5 ∨ v = 6 ∨ v = 7 ∨ v = 8 ∨ v = 9 ∨ v = 10 ∨ v = 11 ∨ v = 12 ∨ v = 13 ∨ v = 14 ∨ v = 15 ∨ v = 16 ∨ v = 17 ∨ v = 18 ∨ v = 19 ∨ v = 20 ∨ v = 21 ∨ v = 22 ∨ v = 23 ∨ v = 24 ∨ v = 25 ∨ v = 26 ∨ v = 27 ∨ v = 28 ∨ v = 29 ∨ v = 30 ∨ v = 31 := by omega
  rcases h with rfl | rfl | rfl | rfl | rfl | rfl | rfl | rfl | rfl | rfl | rfl | rfl | rfl | rfl | rfl | rfl | rfl | rfl | rfl | rfl | rfl | rfl | rfl | rfl | rfl | rfl | rfl | rfl | rfl | rfl | rfl | rfl
  · exact j_bits_0 l G Λ sz μ
  · exact j_bits_1 l G Λ sz μ
  · exact j_bits_2 l G Λ sz μ
  · exact j_bits_3 l G Λ sz μ
  · exact j_bits_4 l G Λ sz μ
  · exact j_bits_5 l G Λ sz μ
  · exact j_bits_6 l G Λ sz μ
  · exact j_bits_7 l G Λ sz μ
  · exact j_bits_8 l G Λ sz μ
  · exact j_bits_9 l G Λ sz μ
  · exact j_bits_10 l G Λ sz μ
  · exact j_bits_11 l G Λ sz μ
  · exact j_bits_12 l G Λ sz μ
  · exact j_bits_13 l G Λ sz μ
  · exact j_bits_14 l G Λ sz μ
  · exact j_bits_15 l G Λ sz μ
  · exact j_bits_16 l G Λ sz μ
  · exact j_bits_17 l G Λ sz μ
  · exact j_bits_18 l G Λ sz μ
  · exact j_bits_19 l G Λ sz μ
  · exact j_bits_20 l G Λ sz μ
  · exact j_bits_21 l G Λ sz μ
  · exact j_bits_22 l G Λ sz μ
  · exact j_bits_23 l G Λ sz μ
  · exact j_bits_24 l G Λ sz μ
  · exact j_bits_25 l G Λ sz μ
  · exact j_bits_26 l G Λ sz μ
  · exact j_bits_27 l G Λ sz μ
  · exact j_bits_28 l G Λ sz μ
  · exact j_bits_29 l G Λ sz μ
  · exact j_bits_30 l G Λ sz μ
  · exact j_bits_31 l G Λ sz μ
theorem j_fmod (l : Launch) (G : Gl) (Λ : Lay) (sz : Nat) (μ : Mem) {a : Int} (ha : -16 ≤ a ∧ a < 16) : Sp l G yJ9_floorMod_7cf53 cJ9_floorMod_7cf53 3 (some FieldType.int) 0 [iv a, iv 101] Λ sz μ (pP μ (a % 101)) := by
  refine Sp.introF (by decide +kernel) (Nat.le_of_ble_eq_true rfl) (fun x hx hBD => ?_)
  refine v_lv [(0, iv a), (1, iv 101)] rfl ?_
  have hr := i32_rng (Int32.ofInt a ^^^ Int32.ofInt 101)
  have hs := xor_sign ha
  refine v_iload hx DJ9_floorMod_7cf53_0 0 rfl ?_
  refine v_iload hx DJ9_floorMod_7cf53_1 1 rfl ?_
  refine v_iremT hx (by omega) (by decide) (by decide) DJ9_floorMod_7cf53_2 ?_
  refine v_top (z' := a) (tmod_small ha) ?_
  refine v_istore hx DJ9_floorMod_7cf53_3 [(2, iv a), (0, iv a), (1, iv 101)] rfl (by decide) ?_
  refine v_iload hx DJ9_floorMod_7cf53_4 1 rfl ?_
  refine v_iload hx DJ9_floorMod_7cf53_5 2 rfl ?_
  refine v_ixor hx DJ9_floorMod_7cf53_6 (z := (Int32.ofInt a ^^^ Int32.ofInt 101).toInt) ((o32 _).symm) ?_
  refine v_if_ge hx DJ9_floorMod_7cf53_7 hr (fun c7 => ?_) (fun c7 => ?_)
  · skip
    refine v_iload hx DJ9_floorMod_7cf53_18 0 rfl ?_
    exact v_ri hx hBD DJ9_floorMod_7cf53_19 (⟨rfl, by omega⟩)
  · skip
    refine v_iload hx DJ9_floorMod_7cf53_10 0 rfl ?_
    refine v_if_eq hx DJ9_floorMod_7cf53_11 (by omega) (fun c11 => ?_) (fun c11 => ?_)
    · skip
      refine v_iload hx DJ9_floorMod_7cf53_18 0 rfl ?_
      exact v_ri hx hBD DJ9_floorMod_7cf53_19 (⟨rfl, by omega⟩)
    · skip
      refine v_iload hx DJ9_floorMod_7cf53_14 0 rfl ?_
      refine v_iload hx DJ9_floorMod_7cf53_15 2 rfl ?_
      refine v_iadd hx DJ9_floorMod_7cf53_16 ?_
      exact v_ri hx hBD DJ9_floorMod_7cf53_17 (⟨rfl, by omega⟩)
