theorem lw_places {big ws : List Cond} (ps : List Nat) (hp : ps.filterMap (fun i => big[i]?) = ws) : ∀ w ∈ ws, w ∈ big := by
  intro w hw
  rw [← hp] at hw
  obtain ⟨i, -, hi⟩ := List.mem_filterMap.mp hw
  exact List.mem_of_getElem? hi
theorem lwc1 {w : Cond} (h : w ∈ tables_1_1) : w ∈ lw_tbl := List.mem_append_right _ (List.mem_append_left _ h)
theorem lwc2 {w : Cond} (h : w ∈ tables_1_2) : w ∈ lw_tbl := List.mem_append_right _ (List.mem_append_right _ (List.mem_append_left _ h))
theorem lwc3 {w : Cond} (h : w ∈ tables_1_3) : w ∈ lw_tbl := List.mem_append_right _ (List.mem_append_right _ (List.mem_append_right _ (List.mem_append_left _ h)))
theorem lwc4 {w : Cond} (h : w ∈ tables_1_4) : w ∈ lw_tbl := List.mem_append_right _ (List.mem_append_right _ (List.mem_append_right _ (List.mem_append_right _ (List.mem_append_left _ h))))
theorem lwc5 {w : Cond} (h : w ∈ tables_1_5) : w ∈ lw_tbl := List.mem_append_right _ (List.mem_append_right _ (List.mem_append_right _ (List.mem_append_right _ (List.mem_append_right _ (List.mem_append_left _ h)))))
theorem lwc6 {w : Cond} (h : w ∈ tables_1_6) : w ∈ lw_tbl := List.mem_append_right _ (List.mem_append_right _ (List.mem_append_right _ (List.mem_append_right _ (List.mem_append_right _ (List.mem_append_right _ (List.mem_append_left _ h))))))
theorem lwc7 {w : Cond} (h : w ∈ tables_1_7) : w ∈ lw_tbl := List.mem_append_right _ (List.mem_append_right _ (List.mem_append_right _ (List.mem_append_right _ (List.mem_append_right _ (List.mem_append_right _ (List.mem_append_right _ (h)))))))
theorem lw_at {w : Cond} (i : Nat) (h : lw_tbl[i]? = some w) : w ∈ lw_tbl := List.mem_of_getElem? h
set_option maxRecDepth 20000 in
theorem inX0 : ∀ w ∈ wsX00, w ∈ lw_tbl := lw_places [142, 144, 146, 148] rfl
set_option maxRecDepth 20000 in
theorem nwX0 : Cond.instantiable RX0 4 ∈ lw_tbl := lwc1 (List.mem_of_getElem? (i := 27) rfl)
set_option maxRecDepth 20000 in
theorem inX1 : ∀ w ∈ wsX10, w ∈ lw_tbl := lw_places [294, 296] rfl
set_option maxRecDepth 20000 in
theorem nwX1 : Cond.instantiable RX1 2 ∈ lw_tbl := lwc1 (List.mem_of_getElem? (i := 167) rfl)
set_option maxRecDepth 20000 in
theorem inX2 : ∀ w ∈ wsX20, w ∈ lw_tbl := lw_places [165, 167, 169] rfl
set_option maxRecDepth 20000 in
theorem nwX2 : Cond.instantiable RX2 3 ∈ lw_tbl := lwc1 (List.mem_of_getElem? (i := 50) rfl)
set_option maxRecDepth 20000 in
theorem inX3 : ∀ w ∈ wsX30, w ∈ lw_tbl := lw_places [209, 211, 213, 215, 217, 219, 221, 223] rfl
set_option maxRecDepth 20000 in
theorem nwX3 : Cond.instantiable RX3 8 ∈ lw_tbl := lwc1 (List.mem_of_getElem? (i := 72) rfl)
set_option maxRecDepth 20000 in
theorem inX4 : ∀ w ∈ wsX40, w ∈ lw_tbl := lw_places [319, 321, 323, 325, 327, 329, 331, 333, 335, 337, 339, 341, 343, 345, 347, 349] rfl
set_option maxRecDepth 20000 in
theorem nwX4 : Cond.instantiable RX4 16 ∈ lw_tbl := lwc1 (List.mem_of_getElem? (i := 160) rfl)
set_option maxRecDepth 20000 in
theorem inX5 : ∀ w ∈ wsX50, w ∈ lw_tbl := lw_places [196, 198] rfl
set_option maxRecDepth 20000 in
theorem nwX5 : Cond.instantiable RX5 2 ∈ lw_tbl := lwc1 (List.mem_of_getElem? (i := 78) rfl)
set_option maxRecDepth 20000 in
theorem inX6 : ∀ w ∈ wsX60, w ∈ lw_tbl := lw_places [414, 416, 418, 420, 422, 424, 426, 428, 430, 432, 434, 436] rfl
set_option maxRecDepth 20000 in
theorem nwX6 : Cond.instantiable RX6 12 ∈ lw_tbl := lwc2 (List.mem_of_getElem? (i := 51) rfl)
set_option maxRecDepth 20000 in
theorem inX7 : ∀ w ∈ wsX70, w ∈ lw_tbl := lw_places [372, 374, 376, 378, 380, 382, 384, 386, 388, 390] rfl
set_option maxRecDepth 20000 in
theorem nwX7 : Cond.instantiable RX7 10 ∈ lw_tbl := lwc2 (List.mem_of_getElem? (i := 11) rfl)
set_option maxRecDepth 20000 in
theorem inX8 : ∀ w ∈ wsX80, w ∈ lw_tbl := lw_places [468, 470, 472] rfl
set_option maxRecDepth 20000 in
theorem nwX8 : Cond.instantiable RX8 3 ∈ lw_tbl := lwc2 (List.mem_of_getElem? (i := 114) rfl)
set_option maxRecDepth 20000 in
theorem inX9 : ∀ w ∈ wsX90, w ∈ lw_tbl := lw_places [243, 245, 247, 249, 251, 253, 255, 257, 259] rfl
set_option maxRecDepth 20000 in
theorem nwX9 : Cond.instantiable RX9 9 ∈ lw_tbl := lwc1 (List.mem_of_getElem? (i := 124) rfl)
set_option maxRecDepth 20000 in
theorem inX10 : ∀ w ∈ wsX100, w ∈ lw_tbl := lw_places [448, 450] rfl
set_option maxRecDepth 20000 in
theorem nwX10 : Cond.instantiable RX10 2 ∈ lw_tbl := lwc2 (List.mem_of_getElem? (i := 97) rfl)
set_option maxRecDepth 20000 in
theorem inX11 : ∀ w ∈ wsX110, w ∈ lw_tbl := lw_places [494, 496, 498, 500, 502, 504, 506, 508, 510, 512, 514, 516, 518, 520, 522, 524, 526, 528] rfl
set_option maxRecDepth 20000 in
theorem nwX11 : Cond.instantiable RX11 18 ∈ lw_tbl := lwc1 (List.mem_of_getElem? (i := 19) rfl)
set_option maxRecDepth 20000 in
theorem inX12 : ∀ w ∈ wsX120, w ∈ lw_tbl := lw_places [1281, 1283, 1285, 1287, 1289, 1291, 1293, 1295, 1297, 1299, 1301, 1303, 1305, 1307, 1309, 1311, 1313, 1315, 1317, 1319, 1321, 1323, 1325, 1327, 1329, 1331, 1333, 1335, 1337, 1339, 1341] rfl
set_option maxRecDepth 20000 in
theorem nwX12 : Cond.instantiable RX12 31 ∈ lw_tbl := lwc5 (List.mem_of_getElem? (i := 161) rfl)
set_option maxRecDepth 20000 in
theorem inRL : Cond.initialized RL ∈ lw_tbl := lwc1 (List.mem_of_getElem? (i := 0) rfl)
set_option maxRecDepth 20000 in
theorem inRX11 : Cond.initialized RX11 ∈ lw_tbl := lwc1 (List.mem_of_getElem? (i := 1) rfl)
set_option maxRecDepth 20000 in
theorem inRX0 : Cond.initialized RX0 ∈ lw_tbl := lwc1 (List.mem_of_getElem? (i := 2) rfl)
set_option maxRecDepth 20000 in
theorem inRX2 : Cond.initialized RX2 ∈ lw_tbl := lwc1 (List.mem_of_getElem? (i := 3) rfl)
set_option maxRecDepth 20000 in
theorem inRX3 : Cond.initialized RX3 ∈ lw_tbl := lwc1 (List.mem_of_getElem? (i := 4) rfl)
set_option maxRecDepth 20000 in
theorem inRX5 : Cond.initialized RX5 ∈ lw_tbl := lwc1 (List.mem_of_getElem? (i := 5) rfl)
set_option maxRecDepth 20000 in
theorem inRX9 : Cond.initialized RX9 ∈ lw_tbl := lwc1 (List.mem_of_getElem? (i := 6) rfl)
set_option maxRecDepth 20000 in
theorem inRX4 : Cond.initialized RX4 ∈ lw_tbl := lwc1 (List.mem_of_getElem? (i := 7) rfl)
set_option maxRecDepth 20000 in
theorem inRX1 : Cond.initialized RX1 ∈ lw_tbl := lwc1 (List.mem_of_getElem? (i := 8) rfl)
set_option maxRecDepth 20000 in
theorem inRX7 : Cond.initialized RX7 ∈ lw_tbl := lwc1 (List.mem_of_getElem? (i := 9) rfl)
set_option maxRecDepth 20000 in
theorem inRX6 : Cond.initialized RX6 ∈ lw_tbl := lwc1 (List.mem_of_getElem? (i := 10) rfl)
set_option maxRecDepth 20000 in
theorem inRX10 : Cond.initialized RX10 ∈ lw_tbl := lwc1 (List.mem_of_getElem? (i := 11) rfl)
set_option maxRecDepth 20000 in
theorem inRX8 : Cond.initialized RX8 ∈ lw_tbl := lwc1 (List.mem_of_getElem? (i := 12) rfl)
set_option maxRecDepth 20000 in
theorem inRX12 : Cond.initialized RX12 ∈ lw_tbl := lwc1 (List.mem_of_getElem? (i := 13) rfl)
set_option maxRecDepth 20000 in
theorem inRJ9 : Cond.initialized RJ9 ∈ lw_tbl := lwc1 (List.mem_of_getElem? (i := 14) rfl)
set_option maxRecDepth 20000 in
theorem inRJ10 : Cond.initialized RJ10 ∈ lw_tbl := lwc1 (List.mem_of_getElem? (i := 15) rfl)
set_option maxRecDepth 20000 in
theorem inRJ6 : Cond.initialized RJ6 ∈ lw_tbl := lwc1 (List.mem_of_getElem? (i := 16) rfl)
set_option maxRecDepth 20000 in
theorem inRJ7 : Cond.initialized RJ7 ∈ lw_tbl := lwc1 (List.mem_of_getElem? (i := 17) rfl)
set_option maxRecDepth 20000 in
theorem clRL_7 : Cond.classLink RL 7 RX11 ∈ lw_tbl := lwc1 (List.mem_of_getElem? (i := 18) rfl)
set_option maxRecDepth 20000 in
theorem mlRL_9 : Cond.methodLink RL 9 yX11_init ∈ lw_tbl := lwc1 (List.mem_of_getElem? (i := 20) rfl)
set_option maxRecDepth 20000 in
theorem mlRX11_3 : Cond.methodLink RX11 3 (⟨"java/lang/Object", "<init>", "()V"⟩ : MethodName) ∈ lw_tbl := lwc1 (List.mem_of_getElem? (i := 23) rfl)
set_option maxRecDepth 20000 in
theorem clRX11_9 : Cond.classLink RX11 9 RX0 ∈ lw_tbl := lwc1 (List.mem_of_getElem? (i := 26) rfl)
set_option maxRecDepth 20000 in
theorem mlRX11_11 : Cond.methodLink RX11 11 yX0_init ∈ lw_tbl := lwc1 (List.mem_of_getElem? (i := 28) rfl)
set_option maxRecDepth 20000 in
theorem mlRX0_3 : Cond.methodLink RX0 3 (⟨"java/lang/Object", "<init>", "()V"⟩ : MethodName) ∈ lw_tbl := lwc1 (List.mem_of_getElem? (i := 31) rfl)
set_option maxRecDepth 20000 in
theorem flRX0_9 : Cond.fieldLink RX0 9 RX0 "cells" "[I" ∈ lw_tbl := lwc1 (List.mem_of_getElem? (i := 32) rfl)
set_option maxRecDepth 20000 in
theorem flRX0_15 : Cond.fieldLink RX0 15 RX0 "u" "[I" ∈ lw_tbl := lwc1 (List.mem_of_getElem? (i := 33) rfl)
set_option maxRecDepth 20000 in
theorem flRX0_18 : Cond.fieldLink RX0 18 RX0 "kind" "I" ∈ lw_tbl := lwc1 (List.mem_of_getElem? (i := 34) rfl)
set_option maxRecDepth 20000 in
theorem flRX4_73 : Cond.fieldLink RX4 73 RX0 "kind" "I" ∈ lw_tbl := lwc1 (List.mem_of_getElem? (i := 35) rfl)
set_option maxRecDepth 20000 in
theorem flRX11_155 : Cond.fieldLink RX11 155 RX0 "kind" "I" ∈ lw_tbl := lwc1 (List.mem_of_getElem? (i := 36) rfl)
set_option maxRecDepth 20000 in
theorem flRX0_22 : Cond.fieldLink RX0 22 RX0 "random" "I" ∈ lw_tbl := lwc1 (List.mem_of_getElem? (i := 37) rfl)
set_option maxRecDepth 20000 in
theorem flRX11_262 : Cond.fieldLink RX11 262 RX0 "random" "I" ∈ lw_tbl := lwc1 (List.mem_of_getElem? (i := 38) rfl)
set_option maxRecDepth 20000 in
theorem clRX11_16 : Cond.classLink RX11 16 RX2 ∈ lw_tbl := lwc1 (List.mem_of_getElem? (i := 49) rfl)
set_option maxRecDepth 20000 in
theorem mlRX11_18 : Cond.methodLink RX11 18 yX2_init ∈ lw_tbl := lwc1 (List.mem_of_getElem? (i := 51) rfl)
set_option maxRecDepth 20000 in
theorem mlRX2_3 : Cond.methodLink RX2 3 (⟨"java/lang/Object", "<init>", "()V"⟩ : MethodName) ∈ lw_tbl := lwc1 (List.mem_of_getElem? (i := 54) rfl)
set_option maxRecDepth 20000 in
theorem clRX2_9 : Cond.classLink RX2 9 RX0 ∈ lw_tbl := lwc1 (List.mem_of_getElem? (i := 55) rfl)
set_option maxRecDepth 20000 in
theorem mlRX2_24 : Cond.methodLink RX2 24 yX0_init ∈ lw_tbl := lwc1 (List.mem_of_getElem? (i := 57) rfl)
set_option maxRecDepth 20000 in
theorem flRX2_11 : Cond.fieldLink RX2 11 RX2 "boards" "[LFiniteTerms$Board;" ∈ lw_tbl := lwc1 (List.mem_of_getElem? (i := 58) rfl)
set_option maxRecDepth 20000 in
theorem flRX2_17 : Cond.fieldLink RX2 17 RX2 "size" "I" ∈ lw_tbl := lwc1 (List.mem_of_getElem? (i := 59) rfl)
set_option maxRecDepth 20000 in
theorem flRX11_159 : Cond.fieldLink RX11 159 RX2 "size" "I" ∈ lw_tbl := lwc1 (List.mem_of_getElem? (i := 60) rfl)
set_option maxRecDepth 20000 in
theorem flRX2_21 : Cond.fieldLink RX2 21 RX2 "next" "I" ∈ lw_tbl := lwc1 (List.mem_of_getElem? (i := 61) rfl)
set_option maxRecDepth 20000 in
theorem clRX11_33 : Cond.classLink RX11 33 RX8 ∈ lw_tbl := lwc1 (List.mem_of_getElem? (i := 69) rfl)
set_option maxRecDepth 20000 in
theorem clRX11_39 : Cond.classLink RX11 39 RX3 ∈ lw_tbl := lwc1 (List.mem_of_getElem? (i := 71) rfl)
set_option maxRecDepth 20000 in
theorem mnRX11_41 : Cond.methodLinkNest RX11 41 yX3_init RX11 ∈ lw_tbl := lwc1 (List.mem_of_getElem? (i := 73) rfl)
set_option maxRecDepth 20000 in
theorem mlRX3_3 : Cond.methodLink RX3 3 (⟨"java/lang/Object", "<init>", "()V"⟩ : MethodName) ∈ lw_tbl := lwc1 (List.mem_of_getElem? (i := 76) rfl)
set_option maxRecDepth 20000 in
theorem clRX3_9 : Cond.classLink RX3 9 RX5 ∈ lw_tbl := lwc1 (List.mem_of_getElem? (i := 77) rfl)
set_option maxRecDepth 20000 in
theorem mnRX3_11 : Cond.methodLinkNest RX3 11 yX5_init RX11 ∈ lw_tbl := lwc1 (List.mem_of_getElem? (i := 79) rfl)
set_option maxRecDepth 20000 in
theorem mlRX5_3 : Cond.methodLink RX5 3 (⟨"java/lang/Object", "<init>", "()V"⟩ : MethodName) ∈ lw_tbl := lwc1 (List.mem_of_getElem? (i := 82) rfl)
set_option maxRecDepth 20000 in
theorem flRX5_9 : Cond.fieldLink RX5 9 RX5 "c" "[I" ∈ lw_tbl := lwc1 (List.mem_of_getElem? (i := 83) rfl)
set_option maxRecDepth 20000 in
theorem flRX1_21 : Cond.fieldLink RX1 21 RX5 "c" "[I" ∈ lw_tbl := lwc1 (List.mem_of_getElem? (i := 84) rfl)
set_option maxRecDepth 20000 in
theorem flRX5_15 : Cond.fieldLink RX5 15 RX5 "deg" "I" ∈ lw_tbl := lwc1 (List.mem_of_getElem? (i := 85) rfl)
set_option maxRecDepth 20000 in
theorem flRX1_25 : Cond.fieldLink RX1 25 RX5 "deg" "I" ∈ lw_tbl := lwc1 (List.mem_of_getElem? (i := 86) rfl)
set_option maxRecDepth 20000 in
theorem flRX3_43 : Cond.fieldLink RX3 43 RX5 "deg" "I" ∈ lw_tbl := lwc1 (List.mem_of_getElem? (i := 87) rfl)
set_option maxRecDepth 20000 in
theorem flRX7_64 : Cond.fieldLink RX7 64 RX5 "deg" "I" ∈ lw_tbl := lwc1 (List.mem_of_getElem? (i := 88) rfl)
set_option maxRecDepth 20000 in
theorem flRX10_25 : Cond.fieldLink RX10 25 RX5 "deg" "I" ∈ lw_tbl := lwc1 (List.mem_of_getElem? (i := 89) rfl)
set_option maxRecDepth 20000 in
theorem flRX9_78 : Cond.fieldLink RX9 78 RX5 "deg" "I" ∈ lw_tbl := lwc1 (List.mem_of_getElem? (i := 90) rfl)
set_option maxRecDepth 20000 in
theorem flRX6_127 : Cond.fieldLink RX6 127 RX5 "deg" "I" ∈ lw_tbl := lwc1 (List.mem_of_getElem? (i := 91) rfl)
set_option maxRecDepth 20000 in
theorem flRX11_299 : Cond.fieldLink RX11 299 RX5 "deg" "I" ∈ lw_tbl := lwc1 (List.mem_of_getElem? (i := 92) rfl)
set_option maxRecDepth 20000 in
theorem flRX3_12 : Cond.fieldLink RX3 12 RX3 "first" "LFiniteTerms$Poly;" ∈ lw_tbl := lwc1 (List.mem_of_getElem? (i := 98) rfl)
set_option maxRecDepth 20000 in
theorem flRX3_18 : Cond.fieldLink RX3 18 RX3 "second" "LFiniteTerms$Poly;" ∈ lw_tbl := lwc1 (List.mem_of_getElem? (i := 99) rfl)
set_option maxRecDepth 20000 in
theorem flRX3_21 : Cond.fieldLink RX3 21 RX3 "third" "LFiniteTerms$Poly;" ∈ lw_tbl := lwc1 (List.mem_of_getElem? (i := 100) rfl)
set_option maxRecDepth 20000 in
theorem flRX3_24 : Cond.fieldLink RX3 24 RX3 "fourth" "LFiniteTerms$Poly;" ∈ lw_tbl := lwc1 (List.mem_of_getElem? (i := 101) rfl)
set_option maxRecDepth 20000 in
theorem flRX3_27 : Cond.fieldLink RX3 27 RX3 "common" "LFiniteTerms$Poly;" ∈ lw_tbl := lwc1 (List.mem_of_getElem? (i := 102) rfl)
set_option maxRecDepth 20000 in
theorem flRX3_30 : Cond.fieldLink RX3 30 RX3 "up" "LFiniteTerms$Poly;" ∈ lw_tbl := lwc1 (List.mem_of_getElem? (i := 103) rfl)
set_option maxRecDepth 20000 in
theorem flRX3_33 : Cond.fieldLink RX3 33 RX3 "down" "LFiniteTerms$Poly;" ∈ lw_tbl := lwc1 (List.mem_of_getElem? (i := 104) rfl)
set_option maxRecDepth 20000 in
theorem flRX3_36 : Cond.fieldLink RX3 36 RX3 "spare" "LFiniteTerms$Poly;" ∈ lw_tbl := lwc1 (List.mem_of_getElem? (i := 105) rfl)
set_option maxRecDepth 20000 in
theorem clRX11_46 : Cond.classLink RX11 46 RX9 ∈ lw_tbl := lwc1 (List.mem_of_getElem? (i := 123) rfl)
set_option maxRecDepth 20000 in
theorem mlRX11_48 : Cond.methodLink RX11 48 yX9_init ∈ lw_tbl := lwc1 (List.mem_of_getElem? (i := 125) rfl)
set_option maxRecDepth 20000 in
theorem mlRX9_3 : Cond.methodLink RX9 3 (⟨"java/lang/Object", "<init>", "()V"⟩ : MethodName) ∈ lw_tbl := lwc1 (List.mem_of_getElem? (i := 128) rfl)
set_option maxRecDepth 20000 in
theorem clRX9_9 : Cond.classLink RX9 9 RX5 ∈ lw_tbl := lwc1 (List.mem_of_getElem? (i := 129) rfl)
set_option maxRecDepth 20000 in
theorem mnRX9_11 : Cond.methodLinkNest RX9 11 yX5_init RX11 ∈ lw_tbl := lwc1 (List.mem_of_getElem? (i := 130) rfl)
set_option maxRecDepth 20000 in
theorem flRX9_39 : Cond.fieldLink RX9 39 RX9 "kit" "LFiniteTerms$Kit;" ∈ lw_tbl := lwc1 (List.mem_of_getElem? (i := 131) rfl)
set_option maxRecDepth 20000 in
theorem flRX9_12 : Cond.fieldLink RX9 12 RX9 "facto\x72" "LFiniteTerms$Poly;" ∈ lw_tbl := lwc1 (List.mem_of_getElem? (i := 132) rfl)
set_option maxRecDepth 20000 in
theorem flRX9_18 : Cond.fieldLink RX9 18 RX9 "level" "LFiniteTerms$Poly;" ∈ lw_tbl := lwc1 (List.mem_of_getElem? (i := 133) rfl)
set_option maxRecDepth 20000 in
theorem flRX9_21 : Cond.fieldLink RX9 21 RX9 "powe\x72" "LFiniteTerms$Poly;" ∈ lw_tbl := lwc1 (List.mem_of_getElem? (i := 134) rfl)
set_option maxRecDepth 20000 in
theorem flRX9_24 : Cond.fieldLink RX9 24 RX9 "cofacto\x72" "LFiniteTerms$Poly;" ∈ lw_tbl := lwc1 (List.mem_of_getElem? (i := 135) rfl)
set_option maxRecDepth 20000 in
theorem flRX9_27 : Cond.fieldLink RX9 27 RX9 "numerato\x72" "LFiniteTerms$Poly;" ∈ lw_tbl := lwc1 (List.mem_of_getElem? (i := 136) rfl)
set_option maxRecDepth 20000 in
theorem flRX9_30 : Cond.fieldLink RX9 30 RX9 "whole" "LFiniteTerms$Poly;" ∈ lw_tbl := lwc1 (List.mem_of_getElem? (i := 137) rfl)
set_option maxRecDepth 20000 in
theorem flRX9_33 : Cond.fieldLink RX9 33 RX9 "held" "LFiniteTerms$Poly;" ∈ lw_tbl := lwc1 (List.mem_of_getElem? (i := 138) rfl)
set_option maxRecDepth 20000 in
theorem flRX9_36 : Cond.fieldLink RX9 36 RX9 "work" "LFiniteTerms$Poly;" ∈ lw_tbl := lwc1 (List.mem_of_getElem? (i := 139) rfl)
set_option maxRecDepth 20000 in
theorem clRX11_55 : Cond.classLink RX11 55 RX4 ∈ lw_tbl := lwc1 (List.mem_of_getElem? (i := 159) rfl)
set_option maxRecDepth 20000 in
theorem mlRX11_57 : Cond.methodLink RX11 57 yX4_init ∈ lw_tbl := lwc1 (List.mem_of_getElem? (i := 161) rfl)
set_option maxRecDepth 20000 in
theorem mlRX4_3 : Cond.methodLink RX4 3 (⟨"java/lang/Object", "<init>", "()V"⟩ : MethodName) ∈ lw_tbl := lwc1 (List.mem_of_getElem? (i := 164) rfl)
set_option maxRecDepth 20000 in
theorem clRX4_9 : Cond.classLink RX4 9 RX1 ∈ lw_tbl := lwc1 (List.mem_of_getElem? (i := 165) rfl)
set_option maxRecDepth 20000 in
theorem mlRX4_20 : Cond.methodLink RX4 20 yX1_init ∈ lw_tbl := lwc1 (List.mem_of_getElem? (i := 168) rfl)
set_option maxRecDepth 20000 in
theorem mlRX1_3 : Cond.methodLink RX1 3 (⟨"java/lang/Object", "<init>", "()V"⟩ : MethodName) ∈ lw_tbl := lwc1 (List.mem_of_getElem? (i := 171) rfl)
set_option maxRecDepth 20000 in
theorem clRX1_9 : Cond.classLink RX1 9 RX5 ∈ lw_tbl := lwc1 (List.mem_of_getElem? (i := 172) rfl)
set_option maxRecDepth 20000 in
theorem mnRX1_11 : Cond.methodLinkNest RX1 11 yX5_init RX11 ∈ lw_tbl := lwc1 (List.mem_of_getElem? (i := 173) rfl)
set_option maxRecDepth 20000 in
theorem flRX1_12 : Cond.fieldLink RX1 12 RX1 "num" "LFiniteTerms$Poly;" ∈ lw_tbl := lwc1 (List.mem_of_getElem? (i := 174) rfl)
set_option maxRecDepth 20000 in
theorem flRX7_46 : Cond.fieldLink RX7 46 RX1 "num" "LFiniteTerms$Poly;" ∈ lw_tbl := lwc1 (List.mem_of_getElem? (i := 175) rfl)
set_option maxRecDepth 20000 in
theorem flRX10_34 : Cond.fieldLink RX10 34 RX1 "num" "LFiniteTerms$Poly;" ∈ lw_tbl := lwc1 (List.mem_of_getElem? (i := 176) rfl)
set_option maxRecDepth 20000 in
theorem flRX9_75 : Cond.fieldLink RX9 75 RX1 "num" "LFiniteTerms$Poly;" ∈ lw_tbl := lwc1 (List.mem_of_getElem? (i := 177) rfl)
set_option maxRecDepth 20000 in
theorem flRX4_82 : Cond.fieldLink RX4 82 RX1 "num" "LFiniteTerms$Poly;" ∈ lw_tbl := lwc1 (List.mem_of_getElem? (i := 178) rfl)
set_option maxRecDepth 20000 in
theorem flRX0_41 : Cond.fieldLink RX0 41 RX1 "num" "LFiniteTerms$Poly;" ∈ lw_tbl := lwc1 (List.mem_of_getElem? (i := 179) rfl)
set_option maxRecDepth 20000 in
theorem flRX3_86 : Cond.fieldLink RX3 86 RX1 "num" "LFiniteTerms$Poly;" ∈ lw_tbl := lwc1 (List.mem_of_getElem? (i := 180) rfl)
set_option maxRecDepth 20000 in
theorem flRX11_238 : Cond.fieldLink RX11 238 RX1 "num" "LFiniteTerms$Poly;" ∈ lw_tbl := lwc1 (List.mem_of_getElem? (i := 181) rfl)
set_option maxRecDepth 20000 in
theorem flRX6_93 : Cond.fieldLink RX6 93 RX1 "num" "LFiniteTerms$Poly;" ∈ lw_tbl := lwc1 (List.mem_of_getElem? (i := 182) rfl)
set_option maxRecDepth 20000 in
theorem flRX1_18 : Cond.fieldLink RX1 18 RX1 "den" "LFiniteTerms$Poly;" ∈ lw_tbl := lwc1 (List.mem_of_getElem? (i := 183) rfl)
set_option maxRecDepth 20000 in
theorem flRX7_55 : Cond.fieldLink RX7 55 RX1 "den" "LFiniteTerms$Poly;" ∈ lw_tbl := lwc1 (List.mem_of_getElem? (i := 184) rfl)
set_option maxRecDepth 20000 in
theorem flRX10_19 : Cond.fieldLink RX10 19 RX1 "den" "LFiniteTerms$Poly;" ∈ lw_tbl := lwc1 (List.mem_of_getElem? (i := 185) rfl)
set_option maxRecDepth 20000 in
theorem flRX9_82 : Cond.fieldLink RX9 82 RX1 "den" "LFiniteTerms$Poly;" ∈ lw_tbl := lwc1 (List.mem_of_getElem? (i := 186) rfl)
set_option maxRecDepth 20000 in
theorem flRX0_55 : Cond.fieldLink RX0 55 RX1 "den" "LFiniteTerms$Poly;" ∈ lw_tbl := lwc1 (List.mem_of_getElem? (i := 187) rfl)
set_option maxRecDepth 20000 in
theorem flRX4_99 : Cond.fieldLink RX4 99 RX1 "den" "LFiniteTerms$Poly;" ∈ lw_tbl := lwc1 (List.mem_of_getElem? (i := 188) rfl)
set_option maxRecDepth 20000 in
theorem flRX3_91 : Cond.fieldLink RX3 91 RX1 "den" "LFiniteTerms$Poly;" ∈ lw_tbl := lwc1 (List.mem_of_getElem? (i := 189) rfl)
set_option maxRecDepth 20000 in
theorem flRX11_248 : Cond.fieldLink RX11 248 RX1 "den" "LFiniteTerms$Poly;" ∈ lw_tbl := lwc1 (List.mem_of_getElem? (i := 190) rfl)
set_option maxRecDepth 20000 in
theorem clRX4_28 : Cond.classLink RX4 28 RX5 ∈ lw_tbl := lwc1 (List.mem_of_getElem? (i := 196) rfl)
set_option maxRecDepth 20000 in
theorem mnRX4_30 : Cond.methodLinkNest RX4 30 yX5_init RX11 ∈ lw_tbl := lwc1 (List.mem_of_getElem? (i := 197) rfl)
set_option maxRecDepth 20000 in
theorem flRX4_65 : Cond.fieldLink RX4 65 RX4 "kit" "LFiniteTerms$Kit;" ∈ lw_tbl := lwc1 (List.mem_of_getElem? (i := 198) rfl)
set_option maxRecDepth 20000 in
theorem flRX4_69 : Cond.fieldLink RX4 69 RX4 "splitte\x72" "LFiniteTerms$Splitter;" ∈ lw_tbl := lwc1 (List.mem_of_getElem? (i := 199) rfl)
set_option maxRecDepth 20000 in
theorem flRX4_11 : Cond.fieldLink RX4 11 RX4 "q" "[LFiniteTerms$Frac;" ∈ lw_tbl := lwc1 (List.mem_of_getElem? (i := 200) rfl)
set_option maxRecDepth 20000 in
theorem flRX4_17 : Cond.fieldLink RX4 17 RX4 "\x72" "[LFiniteTerms$Frac;" ∈ lw_tbl := lwc1 (List.mem_of_getElem? (i := 201) rfl)
set_option maxRecDepth 20000 in
theorem flRX4_21 : Cond.fieldLink RX4 21 RX4 "spare" "LFiniteTerms$Frac;" ∈ lw_tbl := lwc1 (List.mem_of_getElem? (i := 202) rfl)
set_option maxRecDepth 20000 in
theorem flRX4_25 : Cond.fieldLink RX4 25 RX4 "term" "LFiniteTerms$Frac;" ∈ lw_tbl := lwc1 (List.mem_of_getElem? (i := 203) rfl)
set_option maxRecDepth 20000 in
theorem flRX4_31 : Cond.fieldLink RX4 31 RX4 "u" "LFiniteTerms$Poly;" ∈ lw_tbl := lwc1 (List.mem_of_getElem? (i := 204) rfl)
set_option maxRecDepth 20000 in
theorem flRX4_35 : Cond.fieldLink RX4 35 RX4 "slope" "LFiniteTerms$Poly;" ∈ lw_tbl := lwc1 (List.mem_of_getElem? (i := 205) rfl)
set_option maxRecDepth 20000 in
theorem flRX4_38 : Cond.fieldLink RX4 38 RX4 "one" "LFiniteTerms$Poly;" ∈ lw_tbl := lwc1 (List.mem_of_getElem? (i := 206) rfl)
set_option maxRecDepth 20000 in
theorem flRX4_41 : Cond.fieldLink RX4 41 RX4 "othe\x72" "LFiniteTerms$Poly;" ∈ lw_tbl := lwc1 (List.mem_of_getElem? (i := 207) rfl)
set_option maxRecDepth 20000 in
theorem flRX4_44 : Cond.fieldLink RX4 44 RX4 "base" "LFiniteTerms$Poly;" ∈ lw_tbl := lwc1 (List.mem_of_getElem? (i := 208) rfl)
set_option maxRecDepth 20000 in
theorem flRX4_47 : Cond.fieldLink RX4 47 RX4 "work" "LFiniteTerms$Poly;" ∈ lw_tbl := lwc1 (List.mem_of_getElem? (i := 209) rfl)
set_option maxRecDepth 20000 in
theorem flRX4_50 : Cond.fieldLink RX4 50 RX4 "suited" "[Z" ∈ lw_tbl := lwc1 (List.mem_of_getElem? (i := 210) rfl)
set_option maxRecDepth 20000 in
theorem flRX4_54 : Cond.fieldLink RX4 54 RX4 "kind" "I" ∈ lw_tbl := lwc1 (List.mem_of_getElem? (i := 211) rfl)
set_option maxRecDepth 20000 in
theorem flRX4_58 : Cond.fieldLink RX4 58 RX4 "whole" "Z" ∈ lw_tbl := lwc1 (List.mem_of_getElem? (i := 212) rfl)
set_option maxRecDepth 20000 in
theorem flRX11_279 : Cond.fieldLink RX11 279 RX4 "whole" "Z" ∈ lw_tbl := lwc1 (List.mem_of_getElem? (i := 213) rfl)
set_option maxRecDepth 20000 in
theorem flRX4_62 : Cond.fieldLink RX4 62 RX4 "obstacle" "I" ∈ lw_tbl := lwc1 (List.mem_of_getElem? (i := 214) rfl)
set_option maxRecDepth 20000 in
theorem flRX11_282 : Cond.fieldLink RX11 282 RX4 "obstacle" "I" ∈ lw_tbl := lwc1 (List.mem_of_getElem? (i := 215) rfl)
set_option maxRecDepth 20000 in
theorem clRX11_67 : Cond.classLink RX11 67 RX7 ∈ lw_tbl := lwc2 (List.mem_of_getElem? (i := 10) rfl)
set_option maxRecDepth 20000 in
theorem mlRX11_69 : Cond.methodLink RX11 69 yX7_init ∈ lw_tbl := lwc2 (List.mem_of_getElem? (i := 12) rfl)
set_option maxRecDepth 20000 in
theorem mlRX7_3 : Cond.methodLink RX7 3 (⟨"java/lang/Object", "<init>", "()V"⟩ : MethodName) ∈ lw_tbl := lwc2 (List.mem_of_getElem? (i := 15) rfl)
set_option maxRecDepth 20000 in
theorem clRX7_9 : Cond.classLink RX7 9 RX5 ∈ lw_tbl := lwc2 (List.mem_of_getElem? (i := 16) rfl)
set_option maxRecDepth 20000 in
theorem mnRX7_11 : Cond.methodLinkNest RX7 11 yX5_init RX11 ∈ lw_tbl := lwc2 (List.mem_of_getElem? (i := 17) rfl)
set_option maxRecDepth 20000 in
theorem flRX7_42 : Cond.fieldLink RX7 42 RX7 "kit" "LFiniteTerms$Kit;" ∈ lw_tbl := lwc2 (List.mem_of_getElem? (i := 18) rfl)
set_option maxRecDepth 20000 in
theorem flRX7_12 : Cond.fieldLink RX7 12 RX7 "above" "LFiniteTerms$Poly;" ∈ lw_tbl := lwc2 (List.mem_of_getElem? (i := 19) rfl)
set_option maxRecDepth 20000 in
theorem flRX7_18 : Cond.fieldLink RX7 18 RX7 "below" "LFiniteTerms$Poly;" ∈ lw_tbl := lwc2 (List.mem_of_getElem? (i := 20) rfl)
set_option maxRecDepth 20000 in
theorem flRX7_21 : Cond.fieldLink RX7 21 RX7 "slope" "LFiniteTerms$Poly;" ∈ lw_tbl := lwc2 (List.mem_of_getElem? (i := 21) rfl)
set_option maxRecDepth 20000 in
theorem flRX7_24 : Cond.fieldLink RX7 24 RX7 "root" "LFiniteTerms$Poly;" ∈ lw_tbl := lwc2 (List.mem_of_getElem? (i := 22) rfl)
set_option maxRecDepth 20000 in
theorem flRX7_27 : Cond.fieldLink RX7 27 RX7 "powe\x72" "LFiniteTerms$Poly;" ∈ lw_tbl := lwc2 (List.mem_of_getElem? (i := 23) rfl)
set_option maxRecDepth 20000 in
theorem flRX7_30 : Cond.fieldLink RX7 30 RX7 "work" "LFiniteTerms$Poly;" ∈ lw_tbl := lwc2 (List.mem_of_getElem? (i := 24) rfl)
set_option maxRecDepth 20000 in
theorem flRX7_33 : Cond.fieldLink RX7 33 RX7 "shifted" "LFiniteTerms$Poly;" ∈ lw_tbl := lwc2 (List.mem_of_getElem? (i := 25) rfl)
set_option maxRecDepth 20000 in
theorem flRX7_36 : Cond.fieldLink RX7 36 RX7 "sums" "LFiniteTerms$Poly;" ∈ lw_tbl := lwc2 (List.mem_of_getElem? (i := 26) rfl)
set_option maxRecDepth 20000 in
theorem flRX7_39 : Cond.fieldLink RX7 39 RX7 "roots" "LFiniteTerms$Poly;" ∈ lw_tbl := lwc2 (List.mem_of_getElem? (i := 27) rfl)
set_option maxRecDepth 20000 in
theorem flRX11_296 : Cond.fieldLink RX11 296 RX7 "roots" "LFiniteTerms$Poly;" ∈ lw_tbl := lwc2 (List.mem_of_getElem? (i := 28) rfl)
set_option maxRecDepth 20000 in
theorem clRX11_74 : Cond.classLink RX11 74 RX6 ∈ lw_tbl := lwc2 (List.mem_of_getElem? (i := 50) rfl)
set_option maxRecDepth 20000 in
theorem mlRX11_76 : Cond.methodLink RX11 76 yX6_init ∈ lw_tbl := lwc2 (List.mem_of_getElem? (i := 52) rfl)
set_option maxRecDepth 20000 in
theorem mlRX6_3 : Cond.methodLink RX6 3 (⟨"java/lang/Object", "<init>", "()V"⟩ : MethodName) ∈ lw_tbl := lwc2 (List.mem_of_getElem? (i := 55) rfl)
set_option maxRecDepth 20000 in
theorem clRX6_37 : Cond.classLink RX6 37 RX1 ∈ lw_tbl := lwc2 (List.mem_of_getElem? (i := 56) rfl)
set_option maxRecDepth 20000 in
theorem mlRX6_46 : Cond.methodLink RX6 46 yX1_init ∈ lw_tbl := lwc2 (List.mem_of_getElem? (i := 57) rfl)
set_option maxRecDepth 20000 in
theorem flRX6_51 : Cond.fieldLink RX6 51 RX6 "kit" "LFiniteTerms$Kit;" ∈ lw_tbl := lwc2 (List.mem_of_getElem? (i := 58) rfl)
set_option maxRecDepth 20000 in
theorem flRX6_9 : Cond.fieldLink RX6 9 RX6 "tape" "[I" ∈ lw_tbl := lwc2 (List.mem_of_getElem? (i := 59) rfl)
set_option maxRecDepth 20000 in
theorem flRX6_15 : Cond.fieldLink RX6 15 RX6 "length" "I" ∈ lw_tbl := lwc2 (List.mem_of_getElem? (i := 60) rfl)
set_option maxRecDepth 20000 in
theorem flRX11_168 : Cond.fieldLink RX11 168 RX6 "length" "I" ∈ lw_tbl := lwc2 (List.mem_of_getElem? (i := 61) rfl)
set_option maxRecDepth 20000 in
theorem flRX6_19 : Cond.fieldLink RX6 19 RX6 "codes" "[I" ∈ lw_tbl := lwc2 (List.mem_of_getElem? (i := 62) rfl)
set_option maxRecDepth 20000 in
theorem flRX6_22 : Cond.fieldLink RX6 22 RX6 "codeCount" "I" ∈ lw_tbl := lwc2 (List.mem_of_getElem? (i := 63) rfl)
set_option maxRecDepth 20000 in
theorem flRX6_25 : Cond.fieldLink RX6 25 RX6 "waiting" "[I" ∈ lw_tbl := lwc2 (List.mem_of_getElem? (i := 64) rfl)
set_option maxRecDepth 20000 in
theorem flRX6_28 : Cond.fieldLink RX6 28 RX6 "waitingCount" "I" ∈ lw_tbl := lwc2 (List.mem_of_getElem? (i := 65) rfl)
set_option maxRecDepth 20000 in
theorem flRX6_31 : Cond.fieldLink RX6 31 RX6 "depth" "I" ∈ lw_tbl := lwc2 (List.mem_of_getElem? (i := 66) rfl)
set_option maxRecDepth 20000 in
theorem flRX6_34 : Cond.fieldLink RX6 34 RX6 "digits" "I" ∈ lw_tbl := lwc2 (List.mem_of_getElem? (i := 67) rfl)
set_option maxRecDepth 20000 in
theorem flRX6_39 : Cond.fieldLink RX6 39 RX6 "values" "[LFiniteTerms$Frac;" ∈ lw_tbl := lwc2 (List.mem_of_getElem? (i := 68) rfl)
set_option maxRecDepth 20000 in
theorem flRX6_43 : Cond.fieldLink RX6 43 RX6 "valueCount" "I" ∈ lw_tbl := lwc2 (List.mem_of_getElem? (i := 69) rfl)
set_option maxRecDepth 20000 in
theorem flRX6_47 : Cond.fieldLink RX6 47 RX6 "facto\x72" "LFiniteTerms$Frac;" ∈ lw_tbl := lwc2 (List.mem_of_getElem? (i := 70) rfl)
set_option maxRecDepth 20000 in
theorem clRX11_81 : Cond.classLink RX11 81 RX10 ∈ lw_tbl := lwc2 (List.mem_of_getElem? (i := 96) rfl)
set_option maxRecDepth 20000 in
theorem mnRX11_83 : Cond.methodLinkNest RX11 83 yX10_init RX11 ∈ lw_tbl := lwc2 (List.mem_of_getElem? (i := 98) rfl)
set_option maxRecDepth 20000 in
theorem mlRX10_3 : Cond.methodLink RX10 3 (⟨"java/lang/Object", "<init>", "()V"⟩ : MethodName) ∈ lw_tbl := lwc2 (List.mem_of_getElem? (i := 101) rfl)
set_option maxRecDepth 20000 in
theorem flRX10_9 : Cond.fieldLink RX10 9 RX10 "signs" "[I" ∈ lw_tbl := lwc2 (List.mem_of_getElem? (i := 102) rfl)
set_option maxRecDepth 20000 in
theorem flRX10_15 : Cond.fieldLink RX10 15 RX10 "length" "I" ∈ lw_tbl := lwc2 (List.mem_of_getElem? (i := 103) rfl)
set_option maxRecDepth 20000 in
theorem flRX11_189 : Cond.fieldLink RX11 189 RX10 "length" "I" ∈ lw_tbl := lwc2 (List.mem_of_getElem? (i := 104) rfl)
set_option maxRecDepth 20000 in
theorem clRX11_88 : Cond.classLink RX11 88 RX1 ∈ lw_tbl := lwc2 (List.mem_of_getElem? (i := 110) rfl)
set_option maxRecDepth 20000 in
theorem mlRX11_94 : Cond.methodLink RX11 94 yX1_init ∈ lw_tbl := lwc2 (List.mem_of_getElem? (i := 111) rfl)
set_option maxRecDepth 20000 in
theorem clRX11_105 : Cond.classLink RX11 105 RX5 ∈ lw_tbl := lwc2 (List.mem_of_getElem? (i := 112) rfl)
set_option maxRecDepth 20000 in
theorem mnRX11_107 : Cond.methodLinkNest RX11 107 yX5_init RX11 ∈ lw_tbl := lwc2 (List.mem_of_getElem? (i := 113) rfl)
set_option maxRecDepth 20000 in
theorem mnRX11_112 : Cond.methodLinkNest RX11 112 yX8_init RX11 ∈ lw_tbl := lwc2 (List.mem_of_getElem? (i := 115) rfl)
set_option maxRecDepth 20000 in
theorem mlRX8_3 : Cond.methodLink RX8 3 (⟨"java/lang/Object", "<init>", "()V"⟩ : MethodName) ∈ lw_tbl := lwc2 (List.mem_of_getElem? (i := 118) rfl)
set_option maxRecDepth 20000 in
theorem flRX8_9 : Cond.fieldLink RX8 9 RX8 "items" "[J" ∈ lw_tbl := lwc2 (List.mem_of_getElem? (i := 119) rfl)
set_option maxRecDepth 20000 in
theorem flRX11_353 : Cond.fieldLink RX11 353 RX8 "items" "[J" ∈ lw_tbl := lwc2 (List.mem_of_getElem? (i := 120) rfl)
set_option maxRecDepth 20000 in
theorem flRX8_15 : Cond.fieldLink RX8 15 RX8 "lane" "I" ∈ lw_tbl := lwc2 (List.mem_of_getElem? (i := 121) rfl)
set_option maxRecDepth 20000 in
theorem flRX11_346 : Cond.fieldLink RX11 346 RX8 "lane" "I" ∈ lw_tbl := lwc2 (List.mem_of_getElem? (i := 122) rfl)
set_option maxRecDepth 20000 in
theorem flRX8_19 : Cond.fieldLink RX8 19 RX8 "size" "I" ∈ lw_tbl := lwc2 (List.mem_of_getElem? (i := 123) rfl)
set_option maxRecDepth 20000 in
theorem flRX11_349 : Cond.fieldLink RX11 349 RX8 "size" "I" ∈ lw_tbl := lwc2 (List.mem_of_getElem? (i := 124) rfl)
set_option maxRecDepth 20000 in
theorem flRX11_12 : Cond.fieldLink RX11 12 RX11 "now" "LFiniteTerms$Board;" ∈ lw_tbl := lwc2 (List.mem_of_getElem? (i := 133) rfl)
set_option maxRecDepth 20000 in
theorem flRX11_19 : Cond.fieldLink RX11 19 RX11 "past" "LFiniteTerms$History;" ∈ lw_tbl := lwc2 (List.mem_of_getElem? (i := 134) rfl)
set_option maxRecDepth 20000 in
theorem flRX11_23 : Cond.fieldLink RX11 23 RX11 "savedNow" "LFiniteTerms$Board;" ∈ lw_tbl := lwc2 (List.mem_of_getElem? (i := 135) rfl)
set_option maxRecDepth 20000 in
theorem flRX11_26 : Cond.fieldLink RX11 26 RX11 "savedPast" "LFiniteTerms$History;" ∈ lw_tbl := lwc2 (List.mem_of_getElem? (i := 136) rfl)
set_option maxRecDepth 20000 in
theorem flRX11_29 : Cond.fieldLink RX11 29 RX11 "saved" "Z" ∈ lw_tbl := lwc2 (List.mem_of_getElem? (i := 137) rfl)
set_option maxRecDepth 20000 in
theorem flRX11_35 : Cond.fieldLink RX11 35 RX11 "sheets" "[LFiniteTerms$Sheet;" ∈ lw_tbl := lwc2 (List.mem_of_getElem? (i := 138) rfl)
set_option maxRecDepth 20000 in
theorem flRX11_42 : Cond.fieldLink RX11 42 RX11 "kit" "LFiniteTerms$Kit;" ∈ lw_tbl := lwc2 (List.mem_of_getElem? (i := 139) rfl)
set_option maxRecDepth 20000 in
theorem flRX11_51 : Cond.fieldLink RX11 51 RX11 "splitte\x72" "LFiniteTerms$Splitter;" ∈ lw_tbl := lwc2 (List.mem_of_getElem? (i := 140) rfl)
set_option maxRecDepth 20000 in
theorem flRX11_60 : Cond.fieldLink RX11 60 RX11 "parts" "LFiniteTerms$Parts;" ∈ lw_tbl := lwc2 (List.mem_of_getElem? (i := 141) rfl)
set_option maxRecDepth 20000 in
theorem flRX11_64 : Cond.fieldLink RX11 64 RX11 "otherParts" "LFiniteTerms$Parts;" ∈ lw_tbl := lwc2 (List.mem_of_getElem? (i := 142) rfl)
set_option maxRecDepth 20000 in
theorem flRX11_70 : Cond.fieldLink RX11 70 RX11 "residues" "LFiniteTerms$Residues;" ∈ lw_tbl := lwc2 (List.mem_of_getElem? (i := 143) rfl)
set_option maxRecDepth 20000 in
theorem flRX11_77 : Cond.fieldLink RX11 77 RX11 "reade\x72" "LFiniteTerms$Reader;" ∈ lw_tbl := lwc2 (List.mem_of_getElem? (i := 144) rfl)
set_option maxRecDepth 20000 in
theorem flRX11_84 : Cond.fieldLink RX11 84 RX11 "write\x72" "LFiniteTerms$Writer;" ∈ lw_tbl := lwc2 (List.mem_of_getElem? (i := 145) rfl)
set_option maxRecDepth 20000 in
theorem flRX11_90 : Cond.fieldLink RX11 90 RX11 "results" "[LFiniteTerms$Frac;" ∈ lw_tbl := lwc2 (List.mem_of_getElem? (i := 146) rfl)
set_option maxRecDepth 20000 in
theorem flRX11_95 : Cond.fieldLink RX11 95 RX11 "given" "LFiniteTerms$Frac;" ∈ lw_tbl := lwc2 (List.mem_of_getElem? (i := 147) rfl)
set_option maxRecDepth 20000 in
theorem flRX11_99 : Cond.fieldLink RX11 99 RX11 "second" "LFiniteTerms$Frac;" ∈ lw_tbl := lwc2 (List.mem_of_getElem? (i := 148) rfl)
set_option maxRecDepth 20000 in
theorem flRX11_102 : Cond.fieldLink RX11 102 RX11 "total" "LFiniteTerms$Frac;" ∈ lw_tbl := lwc2 (List.mem_of_getElem? (i := 149) rfl)
set_option maxRecDepth 20000 in
theorem flRX11_108 : Cond.fieldLink RX11 108 RX11 "answe\x72" "LFiniteTerms$Poly;" ∈ lw_tbl := lwc2 (List.mem_of_getElem? (i := 150) rfl)
set_option maxRecDepth 20000 in
theorem mlRL_13 : Cond.methodLink RL 13 yX11_coef ∈ lw_tbl := lwc2 (List.mem_of_getElem? (i := 188) rfl)
set_option maxRecDepth 20000 in
theorem mlRX11_113 : Cond.methodLink RX11 113 yX11_termOf ∈ lw_tbl := lwc2 (List.mem_of_getElem? (i := 192) rfl)
set_option maxRecDepth 20000 in
theorem mlRX11_139 : Cond.methodLink RX11 139 yX11_isFunction ∈ lw_tbl := lwc2 (List.mem_of_getElem? (i := 195) rfl)
set_option maxRecDepth 20000 in
theorem mlRX11_117 : Cond.methodLink RX11 117 yX11_within ∈ lw_tbl := lwc2 (List.mem_of_getElem? (i := 198) rfl)
set_option maxRecDepth 20000 in
theorem mlRX11_121 : Cond.methodLink RX11 121 yX0_cell ∈ lw_tbl := lwc2 (List.mem_of_getElem? (i := 201) rfl)
set_option maxRecDepth 20000 in
theorem mlRX0_31 : Cond.methodLink RX0 31 yX0_hasCell ∈ lw_tbl := lwc2 (List.mem_of_getElem? (i := 205) rfl)
set_option maxRecDepth 20000 in
theorem mlRL_18 : Cond.methodLink RL 18 yX11_letter ∈ lw_tbl := lwc2 (List.mem_of_getElem? (i := 208) rfl)
set_option maxRecDepth 20000 in
theorem mlRX11_124 : Cond.methodLink RX11 124 yX0_load ∈ lw_tbl := lwc2 (List.mem_of_getElem? (i := 212) rfl)
set_option maxRecDepth 20000 in
theorem mlRX0_35 : Cond.methodLink RX0 35 yX1_setNumber ∈ lw_tbl := lwc2 (List.mem_of_getElem? (i := 216) rfl)
set_option maxRecDepth 20000 in
theorem mlRX1_29 : Cond.methodLink RX1 29 yX5_setNumber ∈ lw_tbl := lwc2 (List.mem_of_getElem? (i := 220) rfl)
set_option maxRecDepth 20000 in
theorem mlRX5_29 : Cond.methodLink RX5 29 yX5_clear ∈ lw_tbl := lwc2 (List.mem_of_getElem? (i := 224) rfl)
set_option maxRecDepth 20000 in
theorem mlRX5_25 : Cond.methodLink RX5 25 yX5_settle ∈ lw_tbl := lwc2 (List.mem_of_getElem? (i := 228) rfl)
set_option maxRecDepth 20000 in
theorem mlRX0_45 : Cond.methodLink RX0 45 yX0_cell ∈ lw_tbl := lwc2 (List.mem_of_getElem? (i := 232) rfl)
set_option maxRecDepth 20000 in
theorem mlRX0_49 : Cond.methodLink RX0 49 yX5_put ∈ lw_tbl := lwc2 (List.mem_of_getElem? (i := 233) rfl)
set_option maxRecDepth 20000 in
theorem mlRX5_19 : Cond.methodLink RX5 19 yJ9_max_7cf53 ∈ lw_tbl := lwc2 (List.mem_of_getElem? (i := 237) rfl)
set_option maxRecDepth 20000 in
theorem mlRX11_128 : Cond.methodLink RX11 128 yX10_writeFraction ∈ lw_tbl := lwc3 (List.mem_of_getElem? (i := 0) rfl)
set_option maxRecDepth 20000 in
theorem mlRX10_30 : Cond.methodLink RX10 30 yX10_add ∈ lw_tbl := lwc3 (List.mem_of_getElem? (i := 4) rfl)
set_option maxRecDepth 20000 in
theorem mlRX10_37 : Cond.methodLink RX10 37 yX10_writePoly ∈ lw_tbl := lwc3 (List.mem_of_getElem? (i := 8) rfl)
set_option maxRecDepth 20000 in
theorem mlRX10_41 : Cond.methodLink RX10 41 yX5_at ∈ lw_tbl := lwc3 (List.mem_of_getElem? (i := 12) rfl)
set_option maxRecDepth 20000 in
theorem mlRX10_45 : Cond.methodLink RX10 45 yX10_writeTerm ∈ lw_tbl := lwc3 (List.mem_of_getElem? (i := 16) rfl)
set_option maxRecDepth 20000 in
theorem mlRX10_49 : Cond.methodLink RX10 49 yX10_writeNumber ∈ lw_tbl := lwc3 (List.mem_of_getElem? (i := 20) rfl)
set_option maxRecDepth 20000 in
theorem mlRX11_132 : Cond.methodLink RX11 132 yX10_sign ∈ lw_tbl := lwc3 (List.mem_of_getElem? (i := 24) rfl)
set_option maxRecDepth 20000 in
theorem mlRL_23 : Cond.methodLink RL 23 yX11_value ∈ lw_tbl := lwc3 (List.mem_of_getElem? (i := 28) rfl)
set_option maxRecDepth 20000 in
theorem mlRX11_136 : Cond.methodLink RX11 136 yX0_valueOf ∈ lw_tbl := lwc3 (List.mem_of_getElem? (i := 32) rfl)
set_option maxRecDepth 20000 in
theorem mlRX0_62 : Cond.methodLink RX0 62 yX0_horner ∈ lw_tbl := lwc3 (List.mem_of_getElem? (i := 36) rfl)
set_option maxRecDepth 20000 in
theorem mnRX0_66 : Cond.methodLinkNest RX0 66 yX11_inverse RX11 ∈ lw_tbl := lwc3 (List.mem_of_getElem? (i := 40) rfl)
set_option maxRecDepth 20000 in
theorem flRX11_365 : Cond.fieldLink RX11 365 RX11 "INVERSES" "[I" ∈ lw_tbl := lwc3 (List.mem_of_getElem? (i := 43) rfl)
set_option maxRecDepth 20000 in
theorem mlRL_27 : Cond.methodLink RL 27 yX11_told ∈ lw_tbl := lwc3 (List.mem_of_getElem? (i := 45) rfl)
set_option maxRecDepth 20000 in
theorem mlRX11_143 : Cond.methodLink RX11 143 yX0_filled ∈ lw_tbl := lwc3 (List.mem_of_getElem? (i := 49) rfl)
set_option maxRecDepth 20000 in
theorem mlRX0_69 : Cond.methodLink RX0 69 yX0_isZero ∈ lw_tbl := lwc3 (List.mem_of_getElem? (i := 53) rfl)
set_option maxRecDepth 20000 in
theorem mlRX11_146 : Cond.methodLink RX11 146 yX0_denominators ∈ lw_tbl := lwc3 (List.mem_of_getElem? (i := 57) rfl)
set_option maxRecDepth 20000 in
theorem mlRX0_76 : Cond.methodLink RX0 76 yX0_agree ∈ lw_tbl := lwc3 (List.mem_of_getElem? (i := 61) rfl)
set_option maxRecDepth 20000 in
theorem mlRX11_149 : Cond.methodLink RX11 149 yX0_leastTwin ∈ lw_tbl := lwc3 (List.mem_of_getElem? (i := 65) rfl)
set_option maxRecDepth 20000 in
theorem mlRX11_152 : Cond.methodLink RX11 152 yX0_fits ∈ lw_tbl := lwc3 (List.mem_of_getElem? (i := 69) rfl)
set_option maxRecDepth 20000 in
theorem mlRX0_73 : Cond.methodLink RX0 73 yX0_filled ∈ lw_tbl := lwc3 (List.mem_of_getElem? (i := 73) rfl)
set_option maxRecDepth 20000 in
theorem mlRL_32 : Cond.methodLink RL 32 yX11_count ∈ lw_tbl := lwc3 (List.mem_of_getElem? (i := 74) rfl)
set_option maxRecDepth 20000 in
theorem mlRX11_162 : Cond.methodLink RX11 162 yX0_uAt ∈ lw_tbl := lwc3 (List.mem_of_getElem? (i := 78) rfl)
set_option maxRecDepth 20000 in
theorem mlRL_37 : Cond.methodLink RL 37 yX11_type ∈ lw_tbl := lwc3 (List.mem_of_getElem? (i := 82) rfl)
set_option maxRecDepth 20000 in
theorem mlRX11_165 : Cond.methodLink RX11 165 yX6_append ∈ lw_tbl := lwc3 (List.mem_of_getElem? (i := 86) rfl)
set_option maxRecDepth 20000 in
theorem mlRL_41 : Cond.methodLink RL 41 yX11_read ∈ lw_tbl := lwc3 (List.mem_of_getElem? (i := 90) rfl)
set_option maxRecDepth 20000 in
theorem mlRX11_171 : Cond.methodLink RX11 171 yX6_compile ∈ lw_tbl := lwc3 (List.mem_of_getElem? (i := 94) rfl)
set_option maxRecDepth 20000 in
theorem mlRX6_55 : Cond.methodLink RX6 55 yX6_step ∈ lw_tbl := lwc3 (List.mem_of_getElem? (i := 98) rfl)
set_option maxRecDepth 20000 in
theorem mlRX6_63 : Cond.methodLink RX6 63 yX6_operand ∈ lw_tbl := lwc3 (List.mem_of_getElem? (i := 102) rfl)
set_option maxRecDepth 20000 in
theorem mlRX6_70 : Cond.methodLink RX6 70 yX6_isDigit ∈ lw_tbl := lwc3 (List.mem_of_getElem? (i := 106) rfl)
set_option maxRecDepth 20000 in
theorem mlRX6_67 : Cond.methodLink RX6 67 yX6_emit ∈ lw_tbl := lwc3 (List.mem_of_getElem? (i := 109) rfl)
set_option maxRecDepth 20000 in
theorem mlRX6_80 : Cond.methodLink RX6 80 yX6_hold ∈ lw_tbl := lwc3 (List.mem_of_getElem? (i := 113) rfl)
set_option maxRecDepth 20000 in
theorem mlRX6_74 : Cond.methodLink RX6 74 yX6_nextDigit ∈ lw_tbl := lwc3 (List.mem_of_getElem? (i := 117) rfl)
set_option maxRecDepth 20000 in
theorem mlRX6_77 : Cond.methodLink RX6 77 yX6_operation ∈ lw_tbl := lwc3 (List.mem_of_getElem? (i := 121) rfl)
set_option maxRecDepth 20000 in
theorem mlRX6_59 : Cond.methodLink RX6 59 yX6_release ∈ lw_tbl := lwc3 (List.mem_of_getElem? (i := 125) rfl)
set_option maxRecDepth 20000 in
theorem mlRX6_83 : Cond.methodLink RX6 83 yX6_rank ∈ lw_tbl := lwc3 (List.mem_of_getElem? (i := 129) rfl)
set_option maxRecDepth 20000 in
theorem mlRX11_175 : Cond.methodLink RX11 175 yX6_evaluate ∈ lw_tbl := lwc3 (List.mem_of_getElem? (i := 132) rfl)
set_option maxRecDepth 20000 in
theorem mlRX6_86 : Cond.methodLink RX6 86 yX6_next ∈ lw_tbl := lwc3 (List.mem_of_getElem? (i := 136) rfl)
set_option maxRecDepth 20000 in
theorem mlRX6_109 : Cond.methodLink RX6 109 yX6_valueFromTop ∈ lw_tbl := lwc3 (List.mem_of_getElem? (i := 140) rfl)
set_option maxRecDepth 20000 in
theorem mlRX6_90 : Cond.methodLink RX6 90 yX1_setNumber ∈ lw_tbl := lwc3 (List.mem_of_getElem? (i := 144) rfl)
set_option maxRecDepth 20000 in
theorem mlRX6_97 : Cond.methodLink RX6 97 yX5_put ∈ lw_tbl := lwc3 (List.mem_of_getElem? (i := 145) rfl)
set_option maxRecDepth 20000 in
theorem mlRX6_103 : Cond.methodLink RX6 103 yX6_operate ∈ lw_tbl := lwc3 (List.mem_of_getElem? (i := 146) rfl)
set_option maxRecDepth 20000 in
theorem mlRX6_117 : Cond.methodLink RX6 117 yX3_sum ∈ lw_tbl := lwc3 (List.mem_of_getElem? (i := 150) rfl)
set_option maxRecDepth 20000 in
theorem mlRX3_79 : Cond.methodLink RX3 79 yX5_product ∈ lw_tbl := lwc3 (List.mem_of_getElem? (i := 154) rfl)
set_option maxRecDepth 20000 in
theorem mlRX5_35 : Cond.methodLink RX5 35 yX5_at ∈ lw_tbl := lwc3 (List.mem_of_getElem? (i := 158) rfl)
set_option maxRecDepth 20000 in
theorem mlRX5_39 : Cond.methodLink RX5 39 yX5_addMultiple ∈ lw_tbl := lwc3 (List.mem_of_getElem? (i := 159) rfl)
set_option maxRecDepth 20000 in
theorem mlRX5_32 : Cond.methodLink RX5 32 yJ9_min_7cf53 ∈ lw_tbl := lwc3 (List.mem_of_getElem? (i := 163) rfl)
set_option maxRecDepth 20000 in
theorem mlRX3_75 : Cond.methodLink RX3 75 yX5_addMultiple ∈ lw_tbl := lwc3 (List.mem_of_getElem? (i := 166) rfl)
set_option maxRecDepth 20000 in
theorem mlRX3_101 : Cond.methodLink RX3 101 yX1_take ∈ lw_tbl := lwc3 (List.mem_of_getElem? (i := 167) rfl)
set_option maxRecDepth 20000 in
theorem mlRX1_37 : Cond.methodLink RX1 37 yX5_become ∈ lw_tbl := lwc3 (List.mem_of_getElem? (i := 171) rfl)
set_option maxRecDepth 20000 in
theorem mlRX3_104 : Cond.methodLink RX3 104 yX3_reduce ∈ lw_tbl := lwc3 (List.mem_of_getElem? (i := 175) rfl)
set_option maxRecDepth 20000 in
theorem mlRX3_65 : Cond.methodLink RX3 65 yX5_setNumber ∈ lw_tbl := lwc3 (List.mem_of_getElem? (i := 179) rfl)
set_option maxRecDepth 20000 in
theorem mlRX3_94 : Cond.methodLink RX3 94 yX3_divisor ∈ lw_tbl := lwc3 (List.mem_of_getElem? (i := 180) rfl)
set_option maxRecDepth 20000 in
theorem mlRX3_39 : Cond.methodLink RX3 39 yX5_become ∈ lw_tbl := lwc3 (List.mem_of_getElem? (i := 184) rfl)
set_option maxRecDepth 20000 in
theorem mlRX3_47 : Cond.methodLink RX3 47 yX5_reduceBy ∈ lw_tbl := lwc3 (List.mem_of_getElem? (i := 185) rfl)
set_option maxRecDepth 20000 in
theorem mlRX5_47 : Cond.methodLink RX5 47 yX5_head ∈ lw_tbl := lwc3 (List.mem_of_getElem? (i := 189) rfl)
set_option maxRecDepth 20000 in
theorem mnRX5_51 : Cond.methodLinkNest RX5 51 yX11_inverse RX11 ∈ lw_tbl := lwc3 (List.mem_of_getElem? (i := 193) rfl)
set_option maxRecDepth 20000 in
theorem mlRX5_54 : Cond.methodLink RX5 54 yX5_strike ∈ lw_tbl := lwc3 (List.mem_of_getElem? (i := 194) rfl)
set_option maxRecDepth 20000 in
theorem mlRX3_50 : Cond.methodLink RX3 50 yX5_head ∈ lw_tbl := lwc3 (List.mem_of_getElem? (i := 198) rfl)
set_option maxRecDepth 20000 in
theorem mnRX3_54 : Cond.methodLinkNest RX3 54 yX11_inverse RX11 ∈ lw_tbl := lwc3 (List.mem_of_getElem? (i := 199) rfl)
set_option maxRecDepth 20000 in
theorem mlRX3_58 : Cond.methodLink RX3 58 yX5_scale ∈ lw_tbl := lwc3 (List.mem_of_getElem? (i := 200) rfl)
set_option maxRecDepth 20000 in
theorem mlRX3_98 : Cond.methodLink RX3 98 yX3_cut ∈ lw_tbl := lwc3 (List.mem_of_getElem? (i := 204) rfl)
set_option maxRecDepth 20000 in
theorem mlRX3_83 : Cond.methodLink RX3 83 yX5_quotient ∈ lw_tbl := lwc3 (List.mem_of_getElem? (i := 208) rfl)
set_option maxRecDepth 20000 in
theorem mlRX6_123 : Cond.methodLink RX6 123 yX3_times ∈ lw_tbl := lwc3 (List.mem_of_getElem? (i := 212) rfl)
set_option maxRecDepth 20000 in
theorem mlRX6_130 : Cond.methodLink RX6 130 yX3_over ∈ lw_tbl := lwc3 (List.mem_of_getElem? (i := 216) rfl)
set_option maxRecDepth 20000 in
theorem mlRX6_133 : Cond.methodLink RX6 133 yX1_isTerm ∈ lw_tbl := lwc3 (List.mem_of_getElem? (i := 220) rfl)
set_option maxRecDepth 20000 in
theorem mlRX6_106 : Cond.methodLink RX6 106 yX6_raise ∈ lw_tbl := lwc3 (List.mem_of_getElem? (i := 224) rfl)
set_option maxRecDepth 20000 in
theorem mlRX6_113 : Cond.methodLink RX6 113 yX1_become ∈ lw_tbl := lwc3 (List.mem_of_getElem? (i := 228) rfl)
set_option maxRecDepth 20000 in
theorem mlRX1_33 : Cond.methodLink RX1 33 yX1_take ∈ lw_tbl := lwc3 (List.mem_of_getElem? (i := 232) rfl)
set_option maxRecDepth 20000 in
theorem mlRX11_179 : Cond.methodLink RX11 179 yX6_empty ∈ lw_tbl := lwc3 (List.mem_of_getElem? (i := 233) rfl)
set_option maxRecDepth 20000 in
theorem mlRX11_182 : Cond.methodLink RX11 182 yX2_push ∈ lw_tbl := lwc3 (List.mem_of_getElem? (i := 237) rfl)
set_option maxRecDepth 20000 in
theorem mlRX2_25 : Cond.methodLink RX2 25 yX0_become ∈ lw_tbl := lwc4 (List.mem_of_getElem? (i := 1) rfl)
set_option maxRecDepth 20000 in
theorem mlRX0_25 : Cond.methodLink RX0 25 (⟨"java/lang/System", "arraycopy", "(Ljava/lang/Object;ILjava/lang/Object;II)V"⟩ : MethodName) ∈ lw_tbl := lwc4 (List.mem_of_getElem? (i := 5) rfl)
set_option maxRecDepth 20000 in
theorem mlRX2_29 : Cond.methodLink RX2 29 yJ9_min_7cf53 ∈ lw_tbl := lwc4 (List.mem_of_getElem? (i := 8) rfl)
set_option maxRecDepth 20000 in
theorem mlRX11_186 : Cond.methodLink RX11 186 yX0_store ∈ lw_tbl := lwc4 (List.mem_of_getElem? (i := 9) rfl)
set_option maxRecDepth 20000 in
theorem mlRX0_58 : Cond.methodLink RX0 58 yX5_at ∈ lw_tbl := lwc4 (List.mem_of_getElem? (i := 13) rfl)
set_option maxRecDepth 20000 in
theorem mlRL_45 : Cond.methodLink RL 45 yX11_tower ∈ lw_tbl := lwc4 (List.mem_of_getElem? (i := 14) rfl)
set_option maxRecDepth 20000 in
theorem mlRX11_190 : Cond.methodLink RX11 190 yX11_isNumber ∈ lw_tbl := lwc4 (List.mem_of_getElem? (i := 18) rfl)
set_option maxRecDepth 20000 in
theorem cnRX11_363 : Cond.constantLong RX11 363 (101 : Int64) ∈ lw_tbl := lwc4 (List.mem_of_getElem? (i := 21) rfl)
set_option maxRecDepth 20000 in
theorem mlRX11_194 : Cond.methodLink RX11 194 yX0_hasTower ∈ lw_tbl := lwc4 (List.mem_of_getElem? (i := 22) rfl)
set_option maxRecDepth 20000 in
theorem mlRX11_198 : Cond.methodLink RX11 198 yX0_setTower ∈ lw_tbl := lwc4 (List.mem_of_getElem? (i := 26) rfl)
set_option maxRecDepth 20000 in
theorem mlRL_50 : Cond.methodLink RL 50 yX11_join ∈ lw_tbl := lwc4 (List.mem_of_getElem? (i := 30) rfl)
set_option maxRecDepth 20000 in
theorem mlRX11_202 : Cond.methodLink RX11 202 yJ6_bitCount_0f7a4 ∈ lw_tbl := lwc4 (List.mem_of_getElem? (i := 34) rfl)
set_option maxRecDepth 20000 in
theorem cnRJ6_265 : Cond.constant RJ6 265 (1431655765 : Int32) ∈ lw_tbl := lwc4 (List.mem_of_getElem? (i := 37) rfl)
set_option maxRecDepth 20000 in
theorem cnRJ6_266 : Cond.constant RJ6 266 (858993459 : Int32) ∈ lw_tbl := lwc4 (List.mem_of_getElem? (i := 38) rfl)
set_option maxRecDepth 20000 in
theorem cnRJ6_267 : Cond.constant RJ6 267 (252645135 : Int32) ∈ lw_tbl := lwc4 (List.mem_of_getElem? (i := 39) rfl)
set_option maxRecDepth 20000 in
theorem mlRX11_207 : Cond.methodLink RX11 207 yX11_addTerms ∈ lw_tbl := lwc4 (List.mem_of_getElem? (i := 40) rfl)
set_option maxRecDepth 20000 in
theorem mlRX11_223 : Cond.methodLink RX11 223 yX11_result ∈ lw_tbl := lwc4 (List.mem_of_getElem? (i := 44) rfl)
set_option maxRecDepth 20000 in
theorem mlRX11_369 : Cond.methodLink RX11 369 yX3_sum ∈ lw_tbl := lwc4 (List.mem_of_getElem? (i := 48) rfl)
set_option maxRecDepth 20000 in
theorem mlRX11_231 : Cond.methodLink RX11 231 yX1_isTerm ∈ lw_tbl := lwc4 (List.mem_of_getElem? (i := 49) rfl)
set_option maxRecDepth 20000 in
theorem mlRX11_210 : Cond.methodLink RX11 210 yX11_multiplyTerms ∈ lw_tbl := lwc4 (List.mem_of_getElem? (i := 50) rfl)
set_option maxRecDepth 20000 in
theorem mlRX11_373 : Cond.methodLink RX11 373 yX1_setNumber ∈ lw_tbl := lwc4 (List.mem_of_getElem? (i := 54) rfl)
set_option maxRecDepth 20000 in
theorem mlRX11_377 : Cond.methodLink RX11 377 yX3_times ∈ lw_tbl := lwc4 (List.mem_of_getElem? (i := 55) rfl)
set_option maxRecDepth 20000 in
theorem mlRX11_381 : Cond.methodLink RX11 381 yX11_keepTerm ∈ lw_tbl := lwc4 (List.mem_of_getElem? (i := 56) rfl)
set_option maxRecDepth 20000 in
theorem mlRX11_391 : Cond.methodLink RX11 391 yX1_become ∈ lw_tbl := lwc4 (List.mem_of_getElem? (i := 60) rfl)
set_option maxRecDepth 20000 in
theorem mlRX11_214 : Cond.methodLink RX11 214 yX11_divideTerms ∈ lw_tbl := lwc4 (List.mem_of_getElem? (i := 61) rfl)
set_option maxRecDepth 20000 in
theorem mlRX11_385 : Cond.methodLink RX11 385 yJ6_numberOfTrailingZeros_0f7a4 ∈ lw_tbl := lwc4 (List.mem_of_getElem? (i := 65) rfl)
set_option maxRecDepth 20000 in
theorem cnRJ6_264 : Cond.constant RJ6 264 (65536 : Int32) ∈ lw_tbl := lwc4 (List.mem_of_getElem? (i := 68) rfl)
set_option maxRecDepth 20000 in
theorem mlRX11_388 : Cond.methodLink RX11 388 yX3_over ∈ lw_tbl := lwc4 (List.mem_of_getElem? (i := 69) rfl)
set_option maxRecDepth 20000 in
theorem mlRX11_217 : Cond.methodLink RX11 217 yX11_keepResults ∈ lw_tbl := lwc4 (List.mem_of_getElem? (i := 70) rfl)
set_option maxRecDepth 20000 in
theorem mlRL_54 : Cond.methodLink RL 54 yX11_derive ∈ lw_tbl := lwc4 (List.mem_of_getElem? (i := 74) rfl)
set_option maxRecDepth 20000 in
theorem mlRX11_220 : Cond.methodLink RX11 220 yX4_prepare ∈ lw_tbl := lwc4 (List.mem_of_getElem? (i := 78) rfl)
set_option maxRecDepth 20000 in
theorem mlRX4_76 : Cond.methodLink RX4 76 yX0_loadU ∈ lw_tbl := lwc4 (List.mem_of_getElem? (i := 82) rfl)
set_option maxRecDepth 20000 in
theorem mlRX0_80 : Cond.methodLink RX0 80 yX5_clear ∈ lw_tbl := lwc4 (List.mem_of_getElem? (i := 86) rfl)
set_option maxRecDepth 20000 in
theorem mlRX4_80 : Cond.methodLink RX4 80 yX5_slope ∈ lw_tbl := lwc4 (List.mem_of_getElem? (i := 87) rfl)
set_option maxRecDepth 20000 in
theorem mlRX5_43 : Cond.methodLink RX5 43 yX5_put ∈ lw_tbl := lwc4 (List.mem_of_getElem? (i := 91) rfl)
set_option maxRecDepth 20000 in
theorem mlRX11_227 : Cond.methodLink RX11 227 yX4_differentiate ∈ lw_tbl := lwc4 (List.mem_of_getElem? (i := 92) rfl)
set_option maxRecDepth 20000 in
theorem mlRX4_85 : Cond.methodLink RX4 85 yX5_product ∈ lw_tbl := lwc4 (List.mem_of_getElem? (i := 96) rfl)
set_option maxRecDepth 20000 in
theorem mlRX4_89 : Cond.methodLink RX4 89 yJ9_floorMod_7cf53 ∈ lw_tbl := lwc4 (List.mem_of_getElem? (i := 97) rfl)
set_option maxRecDepth 20000 in
theorem mlRX4_95 : Cond.methodLink RX4 95 yX5_addMultiple ∈ lw_tbl := lwc4 (List.mem_of_getElem? (i := 100) rfl)
set_option maxRecDepth 20000 in
theorem mlRX4_102 : Cond.methodLink RX4 102 yX4_multiplyBySlope ∈ lw_tbl := lwc4 (List.mem_of_getElem? (i := 101) rfl)
set_option maxRecDepth 20000 in
theorem mlRX4_116 : Cond.methodLink RX4 116 yX5_scale ∈ lw_tbl := lwc4 (List.mem_of_getElem? (i := 105) rfl)
set_option maxRecDepth 20000 in
theorem mlRX4_112 : Cond.methodLink RX4 112 yX3_reduce ∈ lw_tbl := lwc4 (List.mem_of_getElem? (i := 106) rfl)
set_option maxRecDepth 20000 in
theorem mlRX4_106 : Cond.methodLink RX4 106 yX3_sum ∈ lw_tbl := lwc4 (List.mem_of_getElem? (i := 107) rfl)
set_option maxRecDepth 20000 in
theorem mlRL_58 : Cond.methodLink RL 58 yX11_drift ∈ lw_tbl := lwc4 (List.mem_of_getElem? (i := 108) rfl)
set_option maxRecDepth 20000 in
theorem mlRX11_235 : Cond.methodLink RX11 235 yX0_draw ∈ lw_tbl := lwc4 (List.mem_of_getElem? (i := 112) rfl)
set_option maxRecDepth 20000 in
theorem cnRX0_83 : Cond.constantLong RX0 83 (1103515245 : Int64) ∈ lw_tbl := lwc4 (List.mem_of_getElem? (i := 116) rfl)
set_option maxRecDepth 20000 in
theorem cnRX0_85 : Cond.constantLong RX0 85 (12345 : Int64) ∈ lw_tbl := lwc4 (List.mem_of_getElem? (i := 117) rfl)
set_option maxRecDepth 20000 in
theorem cnRX0_87 : Cond.constantLong RX0 87 (2147483647 : Int64) ∈ lw_tbl := lwc4 (List.mem_of_getElem? (i := 118) rfl)
set_option maxRecDepth 20000 in
theorem cnRX0_89 : Cond.constant RX0 89 (65536 : Int32) ∈ lw_tbl := lwc4 (List.mem_of_getElem? (i := 119) rfl)
set_option maxRecDepth 20000 in
theorem mlRX11_241 : Cond.methodLink RX11 241 yX5_clear ∈ lw_tbl := lwc4 (List.mem_of_getElem? (i := 120) rfl)
set_option maxRecDepth 20000 in
theorem mlRX11_244 : Cond.methodLink RX11 244 yX5_put ∈ lw_tbl := lwc4 (List.mem_of_getElem? (i := 121) rfl)
set_option maxRecDepth 20000 in
theorem mlRX11_251 : Cond.methodLink RX11 251 yX3_raise ∈ lw_tbl := lwc4 (List.mem_of_getElem? (i := 122) rfl)
set_option maxRecDepth 20000 in
theorem mlRX11_255 : Cond.methodLink RX11 255 yX3_reduce ∈ lw_tbl := lwc4 (List.mem_of_getElem? (i := 126) rfl)
set_option maxRecDepth 20000 in
theorem mlRL_62 : Cond.methodLink RL 62 yX11_undo ∈ lw_tbl := lwc4 (List.mem_of_getElem? (i := 127) rfl)
set_option maxRecDepth 20000 in
theorem mlRX11_258 : Cond.methodLink RX11 258 yX2_pop ∈ lw_tbl := lwc4 (List.mem_of_getElem? (i := 131) rfl)
set_option maxRecDepth 20000 in
theorem mlRL_67 : Cond.methodLink RL 67 yX11_seed ∈ lw_tbl := lwc4 (List.mem_of_getElem? (i := 135) rfl)
set_option maxRecDepth 20000 in
theorem mlRL_71 : Cond.methodLink RL 71 yX11_part ∈ lw_tbl := lwc4 (List.mem_of_getElem? (i := 139) rfl)
set_option maxRecDepth 20000 in
theorem mlRX11_265 : Cond.methodLink RX11 265 yX9_factorsOf ∈ lw_tbl := lwc4 (List.mem_of_getElem? (i := 143) rfl)
set_option maxRecDepth 20000 in
theorem mlRX9_43 : Cond.methodLink RX9 43 yX5_become ∈ lw_tbl := lwc4 (List.mem_of_getElem? (i := 147) rfl)
set_option maxRecDepth 20000 in
theorem mlRX9_47 : Cond.methodLink RX9 47 yX9_thin ∈ lw_tbl := lwc4 (List.mem_of_getElem? (i := 148) rfl)
set_option maxRecDepth 20000 in
theorem mlRX9_59 : Cond.methodLink RX9 59 yX5_slope ∈ lw_tbl := lwc4 (List.mem_of_getElem? (i := 152) rfl)
set_option maxRecDepth 20000 in
theorem mlRX9_62 : Cond.methodLink RX9 62 yX3_divisor ∈ lw_tbl := lwc4 (List.mem_of_getElem? (i := 153) rfl)
set_option maxRecDepth 20000 in
theorem mlRX9_51 : Cond.methodLink RX9 51 yX5_product ∈ lw_tbl := lwc4 (List.mem_of_getElem? (i := 154) rfl)
set_option maxRecDepth 20000 in
theorem mlRX9_54 : Cond.methodLink RX9 54 yX3_cut ∈ lw_tbl := lwc4 (List.mem_of_getElem? (i := 155) rfl)
set_option maxRecDepth 20000 in
theorem mlRX11_268 : Cond.methodLink RX11 268 yX5_at ∈ lw_tbl := lwc4 (List.mem_of_getElem? (i := 156) rfl)
set_option maxRecDepth 20000 in
theorem mlRL_75 : Cond.methodLink RL 75 yX11_split ∈ lw_tbl := lwc4 (List.mem_of_getElem? (i := 157) rfl)
set_option maxRecDepth 20000 in
theorem mlRX11_271 : Cond.methodLink RX11 271 yX9_run ∈ lw_tbl := lwc4 (List.mem_of_getElem? (i := 161) rfl)
set_option maxRecDepth 20000 in
theorem mlRX9_66 : Cond.methodLink RX9 66 yX1_setNumber ∈ lw_tbl := lwc4 (List.mem_of_getElem? (i := 165) rfl)
set_option maxRecDepth 20000 in
theorem mlRX9_72 : Cond.methodLink RX9 72 yX1_become ∈ lw_tbl := lwc4 (List.mem_of_getElem? (i := 166) rfl)
set_option maxRecDepth 20000 in
theorem mlRX9_85 : Cond.methodLink RX9 85 yX9_highest ∈ lw_tbl := lwc4 (List.mem_of_getElem? (i := 167) rfl)
set_option maxRecDepth 20000 in
theorem mlRX9_89 : Cond.methodLink RX9 89 yX9_lower ∈ lw_tbl := lwc4 (List.mem_of_getElem? (i := 171) rfl)
set_option maxRecDepth 20000 in
theorem mlRX9_100 : Cond.methodLink RX9 100 yX3_raise ∈ lw_tbl := lwc4 (List.mem_of_getElem? (i := 175) rfl)
set_option maxRecDepth 20000 in
theorem mlRX9_104 : Cond.methodLink RX9 104 yX5_quotient ∈ lw_tbl := lwc4 (List.mem_of_getElem? (i := 176) rfl)
set_option maxRecDepth 20000 in
theorem mlRX9_107 : Cond.methodLink RX9 107 yX3_invert ∈ lw_tbl := lwc4 (List.mem_of_getElem? (i := 177) rfl)
set_option maxRecDepth 20000 in
theorem mlRX3_62 : Cond.methodLink RX3 62 yX5_clear ∈ lw_tbl := lwc4 (List.mem_of_getElem? (i := 181) rfl)
set_option maxRecDepth 20000 in
theorem mlRX3_68 : Cond.methodLink RX3 68 yX3_cancel ∈ lw_tbl := lwc4 (List.mem_of_getElem? (i := 182) rfl)
set_option maxRecDepth 20000 in
theorem mlRX3_72 : Cond.methodLink RX3 72 yX5_at ∈ lw_tbl := lwc4 (List.mem_of_getElem? (i := 186) rfl)
set_option maxRecDepth 20000 in
theorem mlRX9_110 : Cond.methodLink RX9 110 yX5_reduceBy ∈ lw_tbl := lwc4 (List.mem_of_getElem? (i := 187) rfl)
set_option maxRecDepth 20000 in
theorem mnRX9_113 : Cond.methodLinkNest RX9 113 yX11_inverse RX11 ∈ lw_tbl := lwc4 (List.mem_of_getElem? (i := 188) rfl)
set_option maxRecDepth 20000 in
theorem mlRX9_117 : Cond.methodLink RX9 117 yX5_scale ∈ lw_tbl := lwc4 (List.mem_of_getElem? (i := 189) rfl)
set_option maxRecDepth 20000 in
theorem mlRX9_120 : Cond.methodLink RX9 120 yX5_addMultiple ∈ lw_tbl := lwc4 (List.mem_of_getElem? (i := 190) rfl)
set_option maxRecDepth 20000 in
theorem mlRX9_93 : Cond.methodLink RX9 93 yX9_moveWhole ∈ lw_tbl := lwc4 (List.mem_of_getElem? (i := 191) rfl)
set_option maxRecDepth 20000 in
theorem mlRX9_124 : Cond.methodLink RX9 124 yX5_clear ∈ lw_tbl := lwc4 (List.mem_of_getElem? (i := 195) rfl)
set_option maxRecDepth 20000 in
theorem mlRX9_127 : Cond.methodLink RX9 127 yX5_at ∈ lw_tbl := lwc4 (List.mem_of_getElem? (i := 196) rfl)
set_option maxRecDepth 20000 in
theorem mlRX9_130 : Cond.methodLink RX9 130 yX5_put ∈ lw_tbl := lwc4 (List.mem_of_getElem? (i := 197) rfl)
set_option maxRecDepth 20000 in
theorem mlRX9_134 : Cond.methodLink RX9 134 yX5_head ∈ lw_tbl := lwc4 (List.mem_of_getElem? (i := 198) rfl)
set_option maxRecDepth 20000 in
theorem mlRX9_97 : Cond.methodLink RX9 97 yX3_reduce ∈ lw_tbl := lwc4 (List.mem_of_getElem? (i := 199) rfl)
set_option maxRecDepth 20000 in
theorem mlRL_79 : Cond.methodLink RL 79 yX11_asked ∈ lw_tbl := lwc4 (List.mem_of_getElem? (i := 200) rfl)
set_option maxRecDepth 20000 in
theorem mlRX11_275 : Cond.methodLink RX11 275 yX4_compute ∈ lw_tbl := lwc4 (List.mem_of_getElem? (i := 204) rfl)
set_option maxRecDepth 20000 in
theorem mlRX4_120 : Cond.methodLink RX4 120 yX4_prepare ∈ lw_tbl := lwc4 (List.mem_of_getElem? (i := 208) rfl)
set_option maxRecDepth 20000 in
theorem mlRX4_124 : Cond.methodLink RX4 124 yX4_piece ∈ lw_tbl := lwc4 (List.mem_of_getElem? (i := 209) rfl)
set_option maxRecDepth 20000 in
theorem mlRX4_128 : Cond.methodLink RX4 128 yX1_setNumber ∈ lw_tbl := lwc4 (List.mem_of_getElem? (i := 213) rfl)
set_option maxRecDepth 20000 in
theorem mnRX4_131 : Cond.methodLinkNest RX4 131 yX11_termOf RX11 ∈ lw_tbl := lwc4 (List.mem_of_getElem? (i := 214) rfl)
set_option maxRecDepth 20000 in
theorem mlRX4_134 : Cond.methodLink RX4 134 yX0_load ∈ lw_tbl := lwc4 (List.mem_of_getElem? (i := 215) rfl)
set_option maxRecDepth 20000 in
theorem mlRX4_138 : Cond.methodLink RX4 138 yX5_become ∈ lw_tbl := lwc4 (List.mem_of_getElem? (i := 216) rfl)
set_option maxRecDepth 20000 in
theorem mlRX4_141 : Cond.methodLink RX4 141 yX5_clear ∈ lw_tbl := lwc4 (List.mem_of_getElem? (i := 217) rfl)
set_option maxRecDepth 20000 in
theorem mlRX4_144 : Cond.methodLink RX4 144 yX4_rest ∈ lw_tbl := lwc4 (List.mem_of_getElem? (i := 218) rfl)
set_option maxRecDepth 20000 in
theorem mlRX4_147 : Cond.methodLink RX4 147 yX9_run ∈ lw_tbl := lwc4 (List.mem_of_getElem? (i := 222) rfl)
set_option maxRecDepth 20000 in
theorem mlRX4_153 : Cond.methodLink RX4 153 yX4_judge ∈ lw_tbl := lwc4 (List.mem_of_getElem? (i := 223) rfl)
set_option maxRecDepth 20000 in
theorem mlRX4_156 : Cond.methodLink RX4 156 yX4_constant ∈ lw_tbl := lwc4 (List.mem_of_getElem? (i := 227) rfl)
set_option maxRecDepth 20000 in
theorem mlRX4_163 : Cond.methodLink RX4 163 yX3_ratio ∈ lw_tbl := lwc4 (List.mem_of_getElem? (i := 231) rfl)
set_option maxRecDepth 20000 in
theorem mlRX3_108 : Cond.methodLink RX3 108 yJ9_max_7cf53 ∈ lw_tbl := lwc4 (List.mem_of_getElem? (i := 235) rfl)
set_option maxRecDepth 20000 in
theorem mnRX4_160 : Cond.methodLinkNest RX4 160 yX11_inverse RX11 ∈ lw_tbl := lwc4 (List.mem_of_getElem? (i := 236) rfl)
set_option maxRecDepth 20000 in
theorem mlRX11_285 : Cond.methodLink RX11 285 yX4_rest ∈ lw_tbl := lwc4 (List.mem_of_getElem? (i := 237) rfl)
set_option maxRecDepth 20000 in
theorem mlRX11_288 : Cond.methodLink RX11 288 yX7_compute ∈ lw_tbl := lwc4 (List.mem_of_getElem? (i := 238) rfl)
set_option maxRecDepth 20000 in
theorem mlRX7_51 : Cond.methodLink RX7 51 yX5_become ∈ lw_tbl := lwc5 (List.mem_of_getElem? (i := 2) rfl)
set_option maxRecDepth 20000 in
theorem mlRX7_58 : Cond.methodLink RX7 58 yX5_slope ∈ lw_tbl := lwc5 (List.mem_of_getElem? (i := 3) rfl)
set_option maxRecDepth 20000 in
theorem mlRX7_60 : Cond.methodLink RX7 60 yX5_setNumber ∈ lw_tbl := lwc5 (List.mem_of_getElem? (i := 4) rfl)
set_option maxRecDepth 20000 in
theorem mlRX7_68 : Cond.methodLink RX7 68 yX3_invert ∈ lw_tbl := lwc5 (List.mem_of_getElem? (i := 5) rfl)
set_option maxRecDepth 20000 in
theorem mlRX7_74 : Cond.methodLink RX7 74 yX5_product ∈ lw_tbl := lwc5 (List.mem_of_getElem? (i := 6) rfl)
set_option maxRecDepth 20000 in
theorem mlRX7_78 : Cond.methodLink RX7 78 yX5_reduceBy ∈ lw_tbl := lwc5 (List.mem_of_getElem? (i := 7) rfl)
set_option maxRecDepth 20000 in
theorem mlRX7_81 : Cond.methodLink RX7 81 yX5_clear ∈ lw_tbl := lwc5 (List.mem_of_getElem? (i := 8) rfl)
set_option maxRecDepth 20000 in
theorem mlRX7_84 : Cond.methodLink RX7 84 yX7_trace ∈ lw_tbl := lwc5 (List.mem_of_getElem? (i := 9) rfl)
set_option maxRecDepth 20000 in
theorem mlRX7_95 : Cond.methodLink RX7 95 yX5_at ∈ lw_tbl := lwc5 (List.mem_of_getElem? (i := 13) rfl)
set_option maxRecDepth 20000 in
theorem mlRX7_99 : Cond.methodLink RX7 99 yX7_raise ∈ lw_tbl := lwc5 (List.mem_of_getElem? (i := 14) rfl)
set_option maxRecDepth 20000 in
theorem mlRX7_102 : Cond.methodLink RX7 102 yX5_addMultiple ∈ lw_tbl := lwc5 (List.mem_of_getElem? (i := 18) rfl)
set_option maxRecDepth 20000 in
theorem mlRX7_88 : Cond.methodLink RX7 88 yX5_put ∈ lw_tbl := lwc5 (List.mem_of_getElem? (i := 19) rfl)
set_option maxRecDepth 20000 in
theorem mlRX7_92 : Cond.methodLink RX7 92 yX7_applyNewton ∈ lw_tbl := lwc5 (List.mem_of_getElem? (i := 20) rfl)
set_option maxRecDepth 20000 in
theorem mnRX7_106 : Cond.methodLinkNest RX7 106 yX11_inverse RX11 ∈ lw_tbl := lwc5 (List.mem_of_getElem? (i := 24) rfl)
set_option maxRecDepth 20000 in
theorem mlRX11_290 : Cond.methodLink RX11 290 yX7_logarithms ∈ lw_tbl := lwc5 (List.mem_of_getElem? (i := 25) rfl)
set_option maxRecDepth 20000 in
theorem mlRX7_109 : Cond.methodLink RX7 109 yX5_valueAt ∈ lw_tbl := lwc5 (List.mem_of_getElem? (i := 29) rfl)
set_option maxRecDepth 20000 in
theorem mlRX11_293 : Cond.methodLink RX11 293 yX7_openDegree ∈ lw_tbl := lwc5 (List.mem_of_getElem? (i := 33) rfl)
set_option maxRecDepth 20000 in
theorem mlRX7_115 : Cond.methodLink RX7 115 yX7_argument ∈ lw_tbl := lwc5 (List.mem_of_getElem? (i := 37) rfl)
set_option maxRecDepth 20000 in
theorem mlRX7_112 : Cond.methodLink RX7 112 yX3_divisor ∈ lw_tbl := lwc5 (List.mem_of_getElem? (i := 41) rfl)
set_option maxRecDepth 20000 in
theorem mlRL_83 : Cond.methodLink RL 83 yX11_integral ∈ lw_tbl := lwc5 (List.mem_of_getElem? (i := 42) rfl)
set_option maxRecDepth 20000 in
theorem mlRX11_302 : Cond.methodLink RX11 302 yX4_piece ∈ lw_tbl := lwc5 (List.mem_of_getElem? (i := 46) rfl)
set_option maxRecDepth 20000 in
theorem mlRL_87 : Cond.methodLink RL 87 yX11_left ∈ lw_tbl := lwc5 (List.mem_of_getElem? (i := 47) rfl)
set_option maxRecDepth 20000 in
theorem mlRL_91 : Cond.methodLink RL 91 yX11_residue ∈ lw_tbl := lwc5 (List.mem_of_getElem? (i := 51) rfl)
set_option maxRecDepth 20000 in
theorem mlRL_95 : Cond.methodLink RL 95 yX11_log ∈ lw_tbl := lwc5 (List.mem_of_getElem? (i := 55) rfl)
set_option maxRecDepth 20000 in
theorem mlRX11_305 : Cond.methodLink RX11 305 yX7_number ∈ lw_tbl := lwc5 (List.mem_of_getElem? (i := 59) rfl)
set_option maxRecDepth 20000 in
theorem mlRX11_308 : Cond.methodLink RX11 308 yX7_argument ∈ lw_tbl := lwc5 (List.mem_of_getElem? (i := 63) rfl)
set_option maxRecDepth 20000 in
theorem mlRL_99 : Cond.methodLink RL 99 yX11_pencil ∈ lw_tbl := lwc5 (List.mem_of_getElem? (i := 64) rfl)
set_option maxRecDepth 20000 in
theorem mlRX11_312 : Cond.methodLink RX11 312 yX4_compare ∈ lw_tbl := lwc5 (List.mem_of_getElem? (i := 68) rfl)
set_option maxRecDepth 20000 in
theorem mlRX4_167 : Cond.methodLink RX4 167 yX4_compareRests ∈ lw_tbl := lwc5 (List.mem_of_getElem? (i := 72) rfl)
set_option maxRecDepth 20000 in
theorem mlRX11_316 : Cond.methodLink RX11 316 yX4_suits ∈ lw_tbl := lwc5 (List.mem_of_getElem? (i := 76) rfl)
set_option maxRecDepth 20000 in
theorem mlRL_103 : Cond.methodLink RL 103 yX11_image ∈ lw_tbl := lwc5 (List.mem_of_getElem? (i := 80) rfl)
set_option maxRecDepth 20000 in
theorem mlRX11_319 : Cond.methodLink RX11 319 yX0_become ∈ lw_tbl := lwc5 (List.mem_of_getElem? (i := 84) rfl)
set_option maxRecDepth 20000 in
theorem mlRX11_322 : Cond.methodLink RX11 322 yX2_become ∈ lw_tbl := lwc5 (List.mem_of_getElem? (i := 85) rfl)
set_option maxRecDepth 20000 in
theorem mlRL_107 : Cond.methodLink RL 107 yX11_restore ∈ lw_tbl := lwc5 (List.mem_of_getElem? (i := 89) rfl)
set_option maxRecDepth 20000 in
theorem mlRL_111 : Cond.methodLink RL 111 yX11_seen ∈ lw_tbl := lwc5 (List.mem_of_getElem? (i := 93) rfl)
set_option maxRecDepth 20000 in
theorem mlRX11_325 : Cond.methodLink RX11 325 yX11_isSheet ∈ lw_tbl := lwc5 (List.mem_of_getElem? (i := 97) rfl)
set_option maxRecDepth 20000 in
theorem mlRX11_328 : Cond.methodLink RX11 328 yX8_refusal ∈ lw_tbl := lwc5 (List.mem_of_getElem? (i := 101) rfl)
set_option maxRecDepth 20000 in
theorem mlRX8_28 : Cond.methodLink RX8 28 yX8_isMissing ∈ lw_tbl := lwc5 (List.mem_of_getElem? (i := 105) rfl)
set_option maxRecDepth 20000 in
theorem mlRX8_32 : Cond.methodLink RX8 32 yX8_covers ∈ lw_tbl := lwc5 (List.mem_of_getElem? (i := 109) rfl)
set_option maxRecDepth 20000 in
theorem mlRX11_332 : Cond.methodLink RX11 332 yX8_holdsNumbers ∈ lw_tbl := lwc5 (List.mem_of_getElem? (i := 113) rfl)
set_option maxRecDepth 20000 in
theorem mnRX8_36 : Cond.methodLinkNest RX8 36 yX11_isNumber RX11 ∈ lw_tbl := lwc5 (List.mem_of_getElem? (i := 117) rfl)
set_option maxRecDepth 20000 in
theorem mlRX11_335 : Cond.methodLink RX11 335 yX8_number ∈ lw_tbl := lwc5 (List.mem_of_getElem? (i := 118) rfl)
set_option maxRecDepth 20000 in
theorem mlRL_115 : Cond.methodLink RL 115 yX11_lay ∈ lw_tbl := lwc5 (List.mem_of_getElem? (i := 122) rfl)
set_option maxRecDepth 20000 in
theorem mlRL_119 : Cond.methodLink RL 119 yX11_film ∈ lw_tbl := lwc5 (List.mem_of_getElem? (i := 126) rfl)
set_option maxRecDepth 20000 in
theorem mlRX11_336 : Cond.methodLink RX11 336 yX8_set ∈ lw_tbl := lwc5 (List.mem_of_getElem? (i := 130) rfl)
set_option maxRecDepth 20000 in
theorem mlRL_123 : Cond.methodLink RL 123 yX11_sheet ∈ lw_tbl := lwc5 (List.mem_of_getElem? (i := 134) rfl)
set_option maxRecDepth 20000 in
theorem mlRX11_340 : Cond.methodLink RX11 340 yX8_create ∈ lw_tbl := lwc5 (List.mem_of_getElem? (i := 138) rfl)
set_option maxRecDepth 20000 in
theorem mlRX8_22 : Cond.methodLink RX8 22 yJ7_fill_d0a16 ∈ lw_tbl := lwc5 (List.mem_of_getElem? (i := 142) rfl)
set_option maxRecDepth 20000 in
theorem mlRL_127 : Cond.methodLink RL 127 yX11_drop ∈ lw_tbl := lwc5 (List.mem_of_getElem? (i := 145) rfl)
set_option maxRecDepth 20000 in
theorem mlRX11_343 : Cond.methodLink RX11 343 yX8_isMissing ∈ lw_tbl := lwc5 (List.mem_of_getElem? (i := 149) rfl)
set_option maxRecDepth 20000 in
theorem mlRL_133 : Cond.methodLink RL 133 yX11_item ∈ lw_tbl := lwc5 (List.mem_of_getElem? (i := 150) rfl)
set_option maxRecDepth 20000 in
theorem mlRL_138 : Cond.methodLink RL 138 yX11_copy ∈ lw_tbl := lwc5 (List.mem_of_getElem? (i := 154) rfl)
set_option maxRecDepth 20000 in
theorem mlRX11_350 : Cond.methodLink RX11 350 yX8_covers ∈ lw_tbl := lwc5 (List.mem_of_getElem? (i := 158) rfl)
set_option maxRecDepth 20000 in
theorem mlRX11_357 : Cond.methodLink RX11 357 (⟨"java/lang/System", "arraycopy", "(Ljava/lang/Object;ILjava/lang/Object;II)V"⟩ : MethodName) ∈ lw_tbl := lwc5 (List.mem_of_getElem? (i := 159) rfl)
set_option maxRecDepth 20000 in
theorem clRL_10 : Cond.classLink RL 10 RX12 ∈ lw_tbl := lwc5 (List.mem_of_getElem? (i := 160) rfl)
set_option maxRecDepth 20000 in
theorem mlRL_12 : Cond.methodLink RL 12 yX12_init ∈ lw_tbl := lwc5 (List.mem_of_getElem? (i := 162) rfl)
set_option maxRecDepth 20000 in
theorem mlRX12_62 : Cond.methodLink RX12 62 (⟨"java/lang/Object", "<init>", "()V"⟩ : MethodName) ∈ lw_tbl := lwc5 (List.mem_of_getElem? (i := 165) rfl)
set_option maxRecDepth 20000 in
theorem mlRX12_118 : Cond.methodLink RX12 118 yX12_nought ∈ lw_tbl := lwc5 (List.mem_of_getElem? (i := 166) rfl)
set_option maxRecDepth 20000 in
theorem mlRX12_38 : Cond.methodLink RX12 38 yX12_above ∈ lw_tbl := lwc5 (List.mem_of_getElem? (i := 170) rfl)
set_option maxRecDepth 20000 in
theorem mlRX12_7 : Cond.methodLink RX12 7 yX12_zero ∈ lw_tbl := lwc5 (List.mem_of_getElem? (i := 173) rfl)
set_option maxRecDepth 20000 in
theorem mlRX12_41 : Cond.methodLink RX12 41 yX12_below ∈ lw_tbl := lwc5 (List.mem_of_getElem? (i := 177) rfl)
set_option maxRecDepth 20000 in
theorem mlRX12_47 : Cond.methodLink RX12 47 yX12_number ∈ lw_tbl := lwc5 (List.mem_of_getElem? (i := 180) rfl)
set_option maxRecDepth 20000 in
theorem mlRX12_11 : Cond.methodLink RX12 11 yX12_mod ∈ lw_tbl := lwc5 (List.mem_of_getElem? (i := 184) rfl)
set_option maxRecDepth 20000 in
theorem flRX12_3 : Cond.fieldLink RX12 3 RX12 "p" "[I" ∈ lw_tbl := lwc5 (List.mem_of_getElem? (i := 187) rfl)
set_option maxRecDepth 20000 in
theorem flRX12_18 : Cond.fieldLink RX12 18 RX12 "product" "[I" ∈ lw_tbl := lwc5 (List.mem_of_getElem? (i := 188) rfl)
set_option maxRecDepth 20000 in
theorem flRX12_125 : Cond.fieldLink RX12 125 RX12 "kind" "I" ∈ lw_tbl := lwc5 (List.mem_of_getElem? (i := 189) rfl)
set_option maxRecDepth 20000 in
theorem flRX12_68 : Cond.fieldLink RX12 68 RX12 "u" "[I" ∈ lw_tbl := lwc5 (List.mem_of_getElem? (i := 190) rfl)
set_option maxRecDepth 20000 in
theorem flRX12_71 : Cond.fieldLink RX12 71 RX12 "draw" "I" ∈ lw_tbl := lwc5 (List.mem_of_getElem? (i := 191) rfl)
set_option maxRecDepth 20000 in
theorem flRX12_135 : Cond.fieldLink RX12 135 RX12 "undoMany" "I" ∈ lw_tbl := lwc5 (List.mem_of_getElem? (i := 192) rfl)
set_option maxRecDepth 20000 in
theorem flRX12_128 : Cond.fieldLink RX12 128 RX12 "undoAt" "I" ∈ lw_tbl := lwc5 (List.mem_of_getElem? (i := 193) rfl)
set_option maxRecDepth 20000 in
theorem flRX12_75 : Cond.fieldLink RX12 75 RX12 "undos" "[I" ∈ lw_tbl := lwc5 (List.mem_of_getElem? (i := 194) rfl)
set_option maxRecDepth 20000 in
theorem flRX12_141 : Cond.fieldLink RX12 141 RX12 "isImage" "Z" ∈ lw_tbl := lwc5 (List.mem_of_getElem? (i := 195) rfl)
set_option maxRecDepth 20000 in
theorem flRX12_145 : Cond.fieldLink RX12 145 RX12 "imageMany" "I" ∈ lw_tbl := lwc5 (List.mem_of_getElem? (i := 196) rfl)
set_option maxRecDepth 20000 in
theorem flRX12_148 : Cond.fieldLink RX12 148 RX12 "imageAt" "I" ∈ lw_tbl := lwc5 (List.mem_of_getElem? (i := 197) rfl)
set_option maxRecDepth 20000 in
theorem flRX12_78 : Cond.fieldLink RX12 78 RX12 "image" "[I" ∈ lw_tbl := lwc5 (List.mem_of_getElem? (i := 198) rfl)
set_option maxRecDepth 20000 in
theorem flRX12_81 : Cond.fieldLink RX12 81 RX12 "letters" "[I" ∈ lw_tbl := lwc5 (List.mem_of_getElem? (i := 199) rfl)
set_option maxRecDepth 20000 in
theorem flRX12_162 : Cond.fieldLink RX12 162 RX12 "letterMany" "I" ∈ lw_tbl := lwc5 (List.mem_of_getElem? (i := 200) rfl)
set_option maxRecDepth 20000 in
theorem flRX12_84 : Cond.fieldLink RX12 84 RX12 "cells" "[I" ∈ lw_tbl := lwc5 (List.mem_of_getElem? (i := 201) rfl)
set_option maxRecDepth 20000 in
theorem flRX12_87 : Cond.fieldLink RX12 87 RX12 "solution" "[I" ∈ lw_tbl := lwc5 (List.mem_of_getElem? (i := 202) rfl)
set_option maxRecDepth 20000 in
theorem flRX12_259 : Cond.fieldLink RX12 259 RX12 "columns" "I" ∈ lw_tbl := lwc5 (List.mem_of_getElem? (i := 203) rfl)
set_option maxRecDepth 20000 in
theorem flRX12_278 : Cond.fieldLink RX12 278 RX12 "hasIntegral" "Z" ∈ lw_tbl := lwc5 (List.mem_of_getElem? (i := 204) rfl)
set_option maxRecDepth 20000 in
theorem flRX12_281 : Cond.fieldLink RX12 281 RX12 "where" "I" ∈ lw_tbl := lwc5 (List.mem_of_getElem? (i := 205) rfl)
set_option maxRecDepth 20000 in
theorem flRX12_90 : Cond.fieldLink RX12 90 RX12 "roots" "[I" ∈ lw_tbl := lwc5 (List.mem_of_getElem? (i := 206) rfl)
set_option maxRecDepth 20000 in
theorem flRX12_93 : Cond.fieldLink RX12 93 RX12 "sums" "[I" ∈ lw_tbl := lwc5 (List.mem_of_getElem? (i := 207) rfl)
set_option maxRecDepth 20000 in
theorem flRX12_96 : Cond.fieldLink RX12 96 RX12 "parts" "[I" ∈ lw_tbl := lwc5 (List.mem_of_getElem? (i := 208) rfl)
set_option maxRecDepth 20000 in
theorem flRX12_299 : Cond.fieldLink RX12 299 RX12 "logMany" "I" ∈ lw_tbl := lwc5 (List.mem_of_getElem? (i := 209) rfl)
set_option maxRecDepth 20000 in
theorem flRX12_302 : Cond.fieldLink RX12 302 RX12 "logOpen" "I" ∈ lw_tbl := lwc5 (List.mem_of_getElem? (i := 210) rfl)
set_option maxRecDepth 20000 in
theorem flRX12_99 : Cond.fieldLink RX12 99 RX12 "tape" "[I" ∈ lw_tbl := lwc5 (List.mem_of_getElem? (i := 211) rfl)
set_option maxRecDepth 20000 in
theorem flRX12_320 : Cond.fieldLink RX12 320 RX12 "tapeMany" "I" ∈ lw_tbl := lwc5 (List.mem_of_getElem? (i := 212) rfl)
set_option maxRecDepth 20000 in
theorem flRX12_102 : Cond.fieldLink RX12 102 RX12 "sumAct" "[I" ∈ lw_tbl := lwc5 (List.mem_of_getElem? (i := 213) rfl)
set_option maxRecDepth 20000 in
theorem flRX12_105 : Cond.fieldLink RX12 105 RX12 "partAct" "[I" ∈ lw_tbl := lwc5 (List.mem_of_getElem? (i := 214) rfl)
set_option maxRecDepth 20000 in
theorem flRX12_108 : Cond.fieldLink RX12 108 RX12 "sheetLane" "[I" ∈ lw_tbl := lwc5 (List.mem_of_getElem? (i := 215) rfl)
set_option maxRecDepth 20000 in
theorem flRX12_111 : Cond.fieldLink RX12 111 RX12 "sheetMany" "[I" ∈ lw_tbl := lwc5 (List.mem_of_getElem? (i := 216) rfl)
set_option maxRecDepth 20000 in
theorem flRX12_114 : Cond.fieldLink RX12 114 RX12 "items" "[J" ∈ lw_tbl := lwc5 (List.mem_of_getElem? (i := 217) rfl)
set_option maxRecDepth 20000 in
theorem mlRL_66 : Cond.methodLink RL 66 yX12_undo ∈ lw_tbl := lwc6 (List.mem_of_getElem? (i := 41) rfl)
set_option maxRecDepth 20000 in
theorem mlRX12_138 : Cond.methodLink RX12 138 yX12_fromRow ∈ lw_tbl := lwc6 (List.mem_of_getElem? (i := 45) rfl)
set_option maxRecDepth 20000 in
theorem mlRL_106 : Cond.methodLink RL 106 yX12_image ∈ lw_tbl := lwc6 (List.mem_of_getElem? (i := 49) rfl)
set_option maxRecDepth 20000 in
theorem mlRX12_131 : Cond.methodLink RX12 131 yX12_laysRow ∈ lw_tbl := lwc6 (List.mem_of_getElem? (i := 53) rfl)
set_option maxRecDepth 20000 in
theorem mlRL_110 : Cond.methodLink RL 110 yX12_restore ∈ lw_tbl := lwc6 (List.mem_of_getElem? (i := 57) rfl)
set_option maxRecDepth 20000 in
theorem mlRL_70 : Cond.methodLink RL 70 yX12_seed ∈ lw_tbl := lwc6 (List.mem_of_getElem? (i := 61) rfl)
set_option maxRecDepth 20000 in
theorem mlRL_17 : Cond.methodLink RL 17 yX12_coef ∈ lw_tbl := lwc6 (List.mem_of_getElem? (i := 65) rfl)
set_option maxRecDepth 20000 in
theorem mlRX12_151 : Cond.methodLink RX12 151 yX12_isTermOf ∈ lw_tbl := lwc6 (List.mem_of_getElem? (i := 69) rfl)
set_option maxRecDepth 20000 in
theorem mlRX12_121 : Cond.methodLink RX12 121 yX12_in ∈ lw_tbl := lwc6 (List.mem_of_getElem? (i := 72) rfl)
set_option maxRecDepth 20000 in
theorem mlRX12_155 : Cond.methodLink RX12 155 yX12_term ∈ lw_tbl := lwc6 (List.mem_of_getElem? (i := 75) rfl)
set_option maxRecDepth 20000 in
theorem mlRX12_159 : Cond.methodLink RX12 159 yX12_at ∈ lw_tbl := lwc6 (List.mem_of_getElem? (i := 78) rfl)
set_option maxRecDepth 20000 in
theorem mlRL_22 : Cond.methodLink RL 22 yX12_letter ∈ lw_tbl := lwc6 (List.mem_of_getElem? (i := 82) rfl)
set_option maxRecDepth 20000 in
theorem mlRX12_174 : Cond.methodLink RX12 174 yX12_tells ∈ lw_tbl := lwc6 (List.mem_of_getElem? (i := 86) rfl)
set_option maxRecDepth 20000 in
theorem mlRX12_15 : Cond.methodLink RX12 15 yX12_degree ∈ lw_tbl := lwc6 (List.mem_of_getElem? (i := 90) rfl)
set_option maxRecDepth 20000 in
theorem mlRX12_171 : Cond.methodLink RX12 171 yX12_tellsPolynomial ∈ lw_tbl := lwc6 (List.mem_of_getElem? (i := 94) rfl)
set_option maxRecDepth 20000 in
theorem mlRX12_165 : Cond.methodLink RX12 165 yX12_says ∈ lw_tbl := lwc6 (List.mem_of_getElem? (i := 98) rfl)
set_option maxRecDepth 20000 in
theorem mlRX12_168 : Cond.methodLink RX12 168 yX12_figures ∈ lw_tbl := lwc6 (List.mem_of_getElem? (i := 102) rfl)
set_option maxRecDepth 20000 in
theorem mlRL_26 : Cond.methodLink RL 26 yX12_value ∈ lw_tbl := lwc6 (List.mem_of_getElem? (i := 106) rfl)
set_option maxRecDepth 20000 in
theorem mlRX12_180 : Cond.methodLink RX12 180 yX12_numberOf ∈ lw_tbl := lwc6 (List.mem_of_getElem? (i := 110) rfl)
set_option maxRecDepth 20000 in
theorem mlRX12_183 : Cond.methodLink RX12 183 yX12_valueOf ∈ lw_tbl := lwc6 (List.mem_of_getElem? (i := 114) rfl)
set_option maxRecDepth 20000 in
theorem mlRX12_177 : Cond.methodLink RX12 177 yX12_valueAt ∈ lw_tbl := lwc6 (List.mem_of_getElem? (i := 118) rfl)
set_option maxRecDepth 20000 in
theorem mlRX12_24 : Cond.methodLink RX12 24 yX12_over ∈ lw_tbl := lwc6 (List.mem_of_getElem? (i := 122) rfl)
set_option maxRecDepth 20000 in
theorem mlRL_31 : Cond.methodLink RL 31 yX12_told ∈ lw_tbl := lwc6 (List.mem_of_getElem? (i := 125) rfl)
set_option maxRecDepth 20000 in
theorem mlRX12_199 : Cond.methodLink RX12 199 yX12_isFunction ∈ lw_tbl := lwc6 (List.mem_of_getElem? (i := 129) rfl)
set_option maxRecDepth 20000 in
theorem mlRX12_196 : Cond.methodLink RX12 196 yX12_presentOf ∈ lw_tbl := lwc6 (List.mem_of_getElem? (i := 132) rfl)
set_option maxRecDepth 20000 in
theorem mlRX12_186 : Cond.methodLink RX12 186 yX12_isNought ∈ lw_tbl := lwc6 (List.mem_of_getElem? (i := 136) rfl)
set_option maxRecDepth 20000 in
theorem mlRX12_202 : Cond.methodLink RX12 202 yX12_belows ∈ lw_tbl := lwc6 (List.mem_of_getElem? (i := 140) rfl)
set_option maxRecDepth 20000 in
theorem mlRX12_193 : Cond.methodLink RX12 193 yX12_isBelowAlike ∈ lw_tbl := lwc6 (List.mem_of_getElem? (i := 144) rfl)
set_option maxRecDepth 20000 in
theorem mlRX12_205 : Cond.methodLink RX12 205 yX12_fits ∈ lw_tbl := lwc6 (List.mem_of_getElem? (i := 148) rfl)
set_option maxRecDepth 20000 in
theorem mlRX12_208 : Cond.methodLink RX12 208 yX12_isSameFunction ∈ lw_tbl := lwc6 (List.mem_of_getElem? (i := 152) rfl)
set_option maxRecDepth 20000 in
theorem mlRX12_190 : Cond.methodLink RX12 190 yX12_isSame ∈ lw_tbl := lwc6 (List.mem_of_getElem? (i := 156) rfl)
set_option maxRecDepth 20000 in
theorem mlRL_36 : Cond.methodLink RL 36 yX12_count ∈ lw_tbl := lwc6 (List.mem_of_getElem? (i := 160) rfl)
set_option maxRecDepth 20000 in
theorem mlRL_49 : Cond.methodLink RL 49 yX12_tower ∈ lw_tbl := lwc6 (List.mem_of_getElem? (i := 164) rfl)
set_option maxRecDepth 20000 in
theorem mlRX12_211 : Cond.methodLink RX12 211 yX12_remembers ∈ lw_tbl := lwc6 (List.mem_of_getElem? (i := 168) rfl)
set_option maxRecDepth 20000 in
theorem mlRL_53 : Cond.methodLink RL 53 yX12_join ∈ lw_tbl := lwc6 (List.mem_of_getElem? (i := 172) rfl)
set_option maxRecDepth 20000 in
theorem mlRX12_227 : Cond.methodLink RX12 227 yX12_noJoins ∈ lw_tbl := lwc6 (List.mem_of_getElem? (i := 176) rfl)
set_option maxRecDepth 20000 in
theorem mlRX12_230 : Cond.methodLink RX12 230 yX12_multipliesAll ∈ lw_tbl := lwc6 (List.mem_of_getElem? (i := 180) rfl)
set_option maxRecDepth 20000 in
theorem mlRX12_220 : Cond.methodLink RX12 220 yX12_multiplies ∈ lw_tbl := lwc6 (List.mem_of_getElem? (i := 184) rfl)
set_option maxRecDepth 20000 in
theorem mlRX12_50 : Cond.methodLink RX12 50 yX12_times ∈ lw_tbl := lwc6 (List.mem_of_getElem? (i := 188) rfl)
set_option maxRecDepth 20000 in
theorem mlRX12_27 : Cond.methodLink RX12 27 yX12_lays ∈ lw_tbl := lwc6 (List.mem_of_getElem? (i := 192) rfl)
set_option maxRecDepth 20000 in
theorem mlRX12_56 : Cond.methodLink RX12 56 yX12_shortens ∈ lw_tbl := lwc6 (List.mem_of_getElem? (i := 196) rfl)
set_option maxRecDepth 20000 in
theorem mlRX12_44 : Cond.methodLink RX12 44 yX12_common ∈ lw_tbl := lwc6 (List.mem_of_getElem? (i := 200) rfl)
set_option maxRecDepth 20000 in
theorem mlRX12_31 : Cond.methodLink RX12 31 yX12_divides ∈ lw_tbl := lwc6 (List.mem_of_getElem? (i := 204) rfl)
set_option maxRecDepth 20000 in
theorem mlRX12_21 : Cond.methodLink RX12 21 yX12_head ∈ lw_tbl := lwc6 (List.mem_of_getElem? (i := 208) rfl)
set_option maxRecDepth 20000 in
theorem mlRX12_35 : Cond.methodLink RX12 35 yX12_scale ∈ lw_tbl := lwc6 (List.mem_of_getElem? (i := 212) rfl)
set_option maxRecDepth 20000 in
theorem mlRX12_223 : Cond.methodLink RX12 223 yX12_plus ∈ lw_tbl := lwc6 (List.mem_of_getElem? (i := 216) rfl)
set_option maxRecDepth 20000 in
theorem mlRX12_53 : Cond.methodLink RX12 53 yX12_adds ∈ lw_tbl := lwc6 (List.mem_of_getElem? (i := 220) rfl)
set_option maxRecDepth 20000 in
theorem mlRX12_233 : Cond.methodLink RX12 233 yX12_becomes ∈ lw_tbl := lwc6 (List.mem_of_getElem? (i := 224) rfl)
set_option maxRecDepth 20000 in
theorem mlRX12_214 : Cond.methodLink RX12 214 yX12_isTerm ∈ lw_tbl := lwc6 (List.mem_of_getElem? (i := 228) rfl)
set_option maxRecDepth 20000 in
theorem mlRX12_217 : Cond.methodLink RX12 217 yX12_takes ∈ lw_tbl := lwc6 (List.mem_of_getElem? (i := 232) rfl)
set_option maxRecDepth 20000 in
theorem mlRX12_236 : Cond.methodLink RX12 236 yX12_quotient ∈ lw_tbl := lwc6 (List.mem_of_getElem? (i := 236) rfl)
set_option maxRecDepth 20000 in
theorem mlRL_57 : Cond.methodLink RL 57 yX12_derive ∈ lw_tbl := lwc7 (List.mem_of_getElem? (i := 0) rfl)
set_option maxRecDepth 20000 in
theorem mlRX12_239 : Cond.methodLink RX12 239 yX12_laysTower ∈ lw_tbl := lwc7 (List.mem_of_getElem? (i := 4) rfl)
set_option maxRecDepth 20000 in
theorem mlRX12_59 : Cond.methodLink RX12 59 yX12_derives ∈ lw_tbl := lwc7 (List.mem_of_getElem? (i := 8) rfl)
set_option maxRecDepth 20000 in
theorem mlRX12_242 : Cond.methodLink RX12 242 yX12_derived ∈ lw_tbl := lwc7 (List.mem_of_getElem? (i := 12) rfl)
set_option maxRecDepth 20000 in
theorem mlRL_61 : Cond.methodLink RL 61 yX12_drift ∈ lw_tbl := lwc7 (List.mem_of_getElem? (i := 16) rfl)
set_option maxRecDepth 20000 in
theorem mlRX12_256 : Cond.methodLink RX12 256 yX12_drifts ∈ lw_tbl := lwc7 (List.mem_of_getElem? (i := 20) rfl)
set_option maxRecDepth 20000 in
theorem mlRX12_252 : Cond.methodLink RX12 252 yX12_goes ∈ lw_tbl := lwc7 (List.mem_of_getElem? (i := 24) rfl)
set_option maxRecDepth 20000 in
theorem cnRX12_245 : Cond.constantLong RX12 245 (1103515245 : Int64) ∈ lw_tbl := lwc7 (List.mem_of_getElem? (i := 28) rfl)
set_option maxRecDepth 20000 in
theorem cnRX12_247 : Cond.constantLong RX12 247 (12345 : Int64) ∈ lw_tbl := lwc7 (List.mem_of_getElem? (i := 29) rfl)
set_option maxRecDepth 20000 in
theorem cnRX12_249 : Cond.constantLong RX12 249 (2147483647 : Int64) ∈ lw_tbl := lwc7 (List.mem_of_getElem? (i := 30) rfl)
set_option maxRecDepth 20000 in
theorem cnRX12_251 : Cond.constant RX12 251 (65536 : Int32) ∈ lw_tbl := lwc7 (List.mem_of_getElem? (i := 31) rfl)
set_option maxRecDepth 20000 in
theorem mlRL_74 : Cond.methodLink RL 74 yX12_part ∈ lw_tbl := lwc7 (List.mem_of_getElem? (i := 32) rfl)
set_option maxRecDepth 20000 in
theorem mlRL_78 : Cond.methodLink RL 78 yX12_split ∈ lw_tbl := lwc7 (List.mem_of_getElem? (i := 36) rfl)
set_option maxRecDepth 20000 in
theorem mlRX12_275 : Cond.methodLink RX12 275 yX12_splits ∈ lw_tbl := lwc7 (List.mem_of_getElem? (i := 40) rfl)
set_option maxRecDepth 20000 in
theorem mlRX12_262 : Cond.methodLink RX12 262 yX12_power ∈ lw_tbl := lwc7 (List.mem_of_getElem? (i := 44) rfl)
set_option maxRecDepth 20000 in
theorem mlRX12_265 : Cond.methodLink RX12 265 yX12_column ∈ lw_tbl := lwc7 (List.mem_of_getElem? (i := 48) rfl)
set_option maxRecDepth 20000 in
theorem mlRX12_268 : Cond.methodLink RX12 268 yX12_solves ∈ lw_tbl := lwc7 (List.mem_of_getElem? (i := 52) rfl)
set_option maxRecDepth 20000 in
theorem mlRX12_271 : Cond.methodLink RX12 271 yX12_solved ∈ lw_tbl := lwc7 (List.mem_of_getElem? (i := 56) rfl)
set_option maxRecDepth 20000 in
theorem mlRL_82 : Cond.methodLink RL 82 yX12_asked ∈ lw_tbl := lwc7 (List.mem_of_getElem? (i := 60) rfl)
set_option maxRecDepth 20000 in
theorem mlRX12_311 : Cond.methodLink RX12 311 yX12_integratesFunction ∈ lw_tbl := lwc7 (List.mem_of_getElem? (i := 64) rfl)
set_option maxRecDepth 20000 in
theorem mlRX12_308 : Cond.methodLink RX12 308 yX12_integrates ∈ lw_tbl := lwc7 (List.mem_of_getElem? (i := 68) rfl)
set_option maxRecDepth 20000 in
theorem mlRX12_284 : Cond.methodLink RX12 284 yX12_multiple ∈ lw_tbl := lwc7 (List.mem_of_getElem? (i := 72) rfl)
set_option maxRecDepth 20000 in
theorem mlRX12_314 : Cond.methodLink RX12 314 yX12_laysLogs ∈ lw_tbl := lwc7 (List.mem_of_getElem? (i := 76) rfl)
set_option maxRecDepth 20000 in
theorem mlRX12_296 : Cond.methodLink RX12 296 yX12_laysResidues ∈ lw_tbl := lwc7 (List.mem_of_getElem? (i := 80) rfl)
set_option maxRecDepth 20000 in
theorem mlRX12_287 : Cond.methodLink RX12 287 yX12_laysRoots ∈ lw_tbl := lwc7 (List.mem_of_getElem? (i := 84) rfl)
set_option maxRecDepth 20000 in
theorem mlRX12_290 : Cond.methodLink RX12 290 yX12_undoes ∈ lw_tbl := lwc7 (List.mem_of_getElem? (i := 88) rfl)
set_option maxRecDepth 20000 in
theorem mlRX12_293 : Cond.methodLink RX12 293 yX12_trace ∈ lw_tbl := lwc7 (List.mem_of_getElem? (i := 92) rfl)
set_option maxRecDepth 20000 in
theorem mlRX12_305 : Cond.methodLink RX12 305 yX12_laysLog ∈ lw_tbl := lwc7 (List.mem_of_getElem? (i := 96) rfl)
set_option maxRecDepth 20000 in
theorem mlRL_86 : Cond.methodLink RL 86 yX12_integral ∈ lw_tbl := lwc7 (List.mem_of_getElem? (i := 100) rfl)
set_option maxRecDepth 20000 in
theorem mlRL_90 : Cond.methodLink RL 90 yX12_left ∈ lw_tbl := lwc7 (List.mem_of_getElem? (i := 104) rfl)
set_option maxRecDepth 20000 in
theorem mlRL_94 : Cond.methodLink RL 94 yX12_residue ∈ lw_tbl := lwc7 (List.mem_of_getElem? (i := 108) rfl)
set_option maxRecDepth 20000 in
theorem mlRL_98 : Cond.methodLink RL 98 yX12_log ∈ lw_tbl := lwc7 (List.mem_of_getElem? (i := 112) rfl)
set_option maxRecDepth 20000 in
theorem mlRX12_317 : Cond.methodLink RX12 317 yX12_residueOf ∈ lw_tbl := lwc7 (List.mem_of_getElem? (i := 116) rfl)
set_option maxRecDepth 20000 in
theorem mlRL_102 : Cond.methodLink RL 102 yX12_pencil ∈ lw_tbl := lwc7 (List.mem_of_getElem? (i := 120) rfl)
set_option maxRecDepth 20000 in
theorem mlRL_40 : Cond.methodLink RL 40 yX12_type ∈ lw_tbl := lwc7 (List.mem_of_getElem? (i := 124) rfl)
set_option maxRecDepth 20000 in
theorem mlRL_44 : Cond.methodLink RL 44 yX12_read ∈ lw_tbl := lwc7 (List.mem_of_getElem? (i := 128) rfl)
set_option maxRecDepth 20000 in
theorem mlRX12_336 : Cond.methodLink RX12 336 yX12_fault ∈ lw_tbl := lwc7 (List.mem_of_getElem? (i := 132) rfl)
set_option maxRecDepth 20000 in
theorem mlRX12_323 : Cond.methodLink RX12 323 yX12_isFigure ∈ lw_tbl := lwc7 (List.mem_of_getElem? (i := 136) rfl)
set_option maxRecDepth 20000 in
theorem mlRX12_326 : Cond.methodLink RX12 326 yX12_isAct ∈ lw_tbl := lwc7 (List.mem_of_getElem? (i := 140) rfl)
set_option maxRecDepth 20000 in
theorem mlRX12_339 : Cond.methodLink RX12 339 yX12_worked ∈ lw_tbl := lwc7 (List.mem_of_getElem? (i := 143) rfl)
set_option maxRecDepth 20000 in
theorem mlRX12_333 : Cond.methodLink RX12 333 yX12_powered ∈ lw_tbl := lwc7 (List.mem_of_getElem? (i := 147) rfl)
set_option maxRecDepth 20000 in
theorem mlRX12_329 : Cond.methodLink RX12 329 yX12_acts ∈ lw_tbl := lwc7 (List.mem_of_getElem? (i := 151) rfl)
set_option maxRecDepth 20000 in
theorem mlRL_114 : Cond.methodLink RL 114 yX12_seen ∈ lw_tbl := lwc7 (List.mem_of_getElem? (i := 155) rfl)
set_option maxRecDepth 20000 in
theorem mlRX12_344 : Cond.methodLink RX12 344 yX12_isSheet ∈ lw_tbl := lwc7 (List.mem_of_getElem? (i := 159) rfl)
set_option maxRecDepth 20000 in
theorem mlRX12_347 : Cond.methodLink RX12 347 yX12_why ∈ lw_tbl := lwc7 (List.mem_of_getElem? (i := 162) rfl)
set_option maxRecDepth 20000 in
theorem mlRX12_351 : Cond.methodLink RX12 351 yX12_areNumbers ∈ lw_tbl := lwc7 (List.mem_of_getElem? (i := 166) rfl)
set_option maxRecDepth 20000 in
theorem cnRX12_342 : Cond.constantLong RX12 342 (100 : Int64) ∈ lw_tbl := lwc7 (List.mem_of_getElem? (i := 170) rfl)
set_option maxRecDepth 20000 in
theorem mlRL_118 : Cond.methodLink RL 118 yX12_lay ∈ lw_tbl := lwc7 (List.mem_of_getElem? (i := 171) rfl)
set_option maxRecDepth 20000 in
theorem mlRL_122 : Cond.methodLink RL 122 yX12_film ∈ lw_tbl := lwc7 (List.mem_of_getElem? (i := 175) rfl)
set_option maxRecDepth 20000 in
theorem mlRL_126 : Cond.methodLink RL 126 yX12_sheet ∈ lw_tbl := lwc7 (List.mem_of_getElem? (i := 179) rfl)
set_option maxRecDepth 20000 in
theorem mlRL_130 : Cond.methodLink RL 130 yX12_drop ∈ lw_tbl := lwc7 (List.mem_of_getElem? (i := 183) rfl)
set_option maxRecDepth 20000 in
theorem mlRL_137 : Cond.methodLink RL 137 yX12_item ∈ lw_tbl := lwc7 (List.mem_of_getElem? (i := 187) rfl)
set_option maxRecDepth 20000 in
theorem mlRX12_354 : Cond.methodLink RX12 354 yX12_cut ∈ lw_tbl := lwc7 (List.mem_of_getElem? (i := 191) rfl)
set_option maxRecDepth 20000 in
theorem mlRL_141 : Cond.methodLink RL 141 yX12_copy ∈ lw_tbl := lwc7 (List.mem_of_getElem? (i := 194) rfl)
set_option maxRecDepth 20000 in
theorem cnRL_131 : Cond.constantLong RL 131 (4294967295 : Int64) ∈ lw_tbl := lwc7 (List.mem_of_getElem? (i := 198) rfl)
set_option maxRecDepth 20000 in
theorem coX0_init : Cond.code yX0_init cX0_init 2 none ∈ lw_tbl := lwc1 (List.mem_of_getElem? (i := 30) rfl)
theorem pdX0_init : yX0_init.cls ≠ "java/lang/invoke/MethodHandle" ∧ yX0_init.cls ≠ "java/lang/invoke/VarHandle" ∧ (parseMethodDescriptor yX0_init.desc).map (fun d => d.parameters.length) = some 0 := by decide +kernel
set_option maxRecDepth 20000 in
theorem imX0_init : Cond.instanceMethod yX0_init ∈ lw_tbl := lwc1 (List.mem_of_getElem? (i := 29) rfl)
set_option maxRecDepth 20000 in
theorem coX0_become : Cond.code yX0_become cX0_become 2 none ∈ lw_tbl := lwc4 (List.mem_of_getElem? (i := 4) rfl)
theorem pdX0_become : yX0_become.cls ≠ "java/lang/invoke/MethodHandle" ∧ yX0_become.cls ≠ "java/lang/invoke/VarHandle" ∧ (parseMethodDescriptor yX0_become.desc).map (fun d => d.parameters.length) = some 1 := by decide +kernel
set_option maxRecDepth 20000 in
theorem imX0_become : Cond.instanceMethod yX0_become ∈ lw_tbl := lwc4 (List.mem_of_getElem? (i := 2) rfl)
set_option maxRecDepth 20000 in
theorem slX0_become : Cond.selects yX0_become.cls yX0_become yX0_become ∈ lw_tbl := lwc4 (List.mem_of_getElem? (i := 3) rfl)
set_option maxRecDepth 20000 in
theorem coX0_cell : Cond.code yX0_cell cX0_cell 3 (some FieldType.int) ∈ lw_tbl := lwc2 (List.mem_of_getElem? (i := 204) rfl)
theorem pdX0_cell : yX0_cell.cls ≠ "java/lang/invoke/MethodHandle" ∧ yX0_cell.cls ≠ "java/lang/invoke/VarHandle" ∧ (parseMethodDescriptor yX0_cell.desc).map (fun d => d.parameters.length) = some 2 := by decide +kernel
set_option maxRecDepth 20000 in
theorem imX0_cell : Cond.instanceMethod yX0_cell ∈ lw_tbl := lwc2 (List.mem_of_getElem? (i := 202) rfl)
set_option maxRecDepth 20000 in
theorem slX0_cell : Cond.selects yX0_cell.cls yX0_cell yX0_cell ∈ lw_tbl := lwc2 (List.mem_of_getElem? (i := 203) rfl)
set_option maxRecDepth 20000 in
theorem coX0_hasCell : Cond.code yX0_hasCell cX0_hasCell 2 (some FieldType.boolean) ∈ lw_tbl := lwc2 (List.mem_of_getElem? (i := 207) rfl)
theorem pdX0_hasCell : yX0_hasCell.cls ≠ "java/lang/invoke/MethodHandle" ∧ yX0_hasCell.cls ≠ "java/lang/invoke/VarHandle" ∧ (parseMethodDescriptor yX0_hasCell.desc).map (fun d => d.parameters.length) = some 2 := by decide +kernel
set_option maxRecDepth 20000 in
theorem stX0_hasCell : Cond.static yX0_hasCell ∈ lw_tbl := lwc2 (List.mem_of_getElem? (i := 206) rfl)
set_option maxRecDepth 20000 in
theorem coX0_load : Cond.code yX0_load cX0_load 4 none ∈ lw_tbl := lwc2 (List.mem_of_getElem? (i := 215) rfl)
theorem pdX0_load : yX0_load.cls ≠ "java/lang/invoke/MethodHandle" ∧ yX0_load.cls ≠ "java/lang/invoke/VarHandle" ∧ (parseMethodDescriptor yX0_load.desc).map (fun d => d.parameters.length) = some 2 := by decide +kernel
set_option maxRecDepth 20000 in
theorem imX0_load : Cond.instanceMethod yX0_load ∈ lw_tbl := lwc2 (List.mem_of_getElem? (i := 213) rfl)
set_option maxRecDepth 20000 in
theorem slX0_load : Cond.selects yX0_load.cls yX0_load yX0_load ∈ lw_tbl := lwc2 (List.mem_of_getElem? (i := 214) rfl)
set_option maxRecDepth 20000 in
theorem coX0_store : Cond.code yX0_store cX0_store 4 none ∈ lw_tbl := lwc4 (List.mem_of_getElem? (i := 12) rfl)
theorem pdX0_store : yX0_store.cls ≠ "java/lang/invoke/MethodHandle" ∧ yX0_store.cls ≠ "java/lang/invoke/VarHandle" ∧ (parseMethodDescriptor yX0_store.desc).map (fun d => d.parameters.length) = some 2 := by decide +kernel
set_option maxRecDepth 20000 in
theorem imX0_store : Cond.instanceMethod yX0_store ∈ lw_tbl := lwc4 (List.mem_of_getElem? (i := 10) rfl)
set_option maxRecDepth 20000 in
theorem slX0_store : Cond.selects yX0_store.cls yX0_store yX0_store ∈ lw_tbl := lwc4 (List.mem_of_getElem? (i := 11) rfl)
set_option maxRecDepth 20000 in
theorem coX0_valueOf : Cond.code yX0_valueOf cX0_valueOf 5 (some FieldType.int) ∈ lw_tbl := lwc3 (List.mem_of_getElem? (i := 35) rfl)
theorem pdX0_valueOf : yX0_valueOf.cls ≠ "java/lang/invoke/MethodHandle" ∧ yX0_valueOf.cls ≠ "java/lang/invoke/VarHandle" ∧ (parseMethodDescriptor yX0_valueOf.desc).map (fun d => d.parameters.length) = some 2 := by decide +kernel
set_option maxRecDepth 20000 in
theorem imX0_valueOf : Cond.instanceMethod yX0_valueOf ∈ lw_tbl := lwc3 (List.mem_of_getElem? (i := 33) rfl)
set_option maxRecDepth 20000 in
theorem slX0_valueOf : Cond.selects yX0_valueOf.cls yX0_valueOf yX0_valueOf ∈ lw_tbl := lwc3 (List.mem_of_getElem? (i := 34) rfl)
set_option maxRecDepth 20000 in
theorem coX0_horner : Cond.code yX0_horner cX0_horner 7 (some FieldType.int) ∈ lw_tbl := lwc3 (List.mem_of_getElem? (i := 39) rfl)
theorem pdX0_horner : yX0_horner.cls ≠ "java/lang/invoke/MethodHandle" ∧ yX0_horner.cls ≠ "java/lang/invoke/VarHandle" ∧ (parseMethodDescriptor yX0_horner.desc).map (fun d => d.parameters.length) = some 4 := by decide +kernel
set_option maxRecDepth 20000 in
theorem imX0_horner : Cond.instanceMethod yX0_horner ∈ lw_tbl := lwc3 (List.mem_of_getElem? (i := 38) rfl)
set_option maxRecDepth 20000 in
theorem slX0_horner : Cond.selects yX0_horner.cls yX0_horner yX0_horner ∈ lw_tbl := lw_at 4 rfl
set_option maxRecDepth 20000 in
theorem coX0_isZero : Cond.code yX0_isZero cX0_isZero 3 (some FieldType.boolean) ∈ lw_tbl := lwc3 (List.mem_of_getElem? (i := 56) rfl)
theorem pdX0_isZero : yX0_isZero.cls ≠ "java/lang/invoke/MethodHandle" ∧ yX0_isZero.cls ≠ "java/lang/invoke/VarHandle" ∧ (parseMethodDescriptor yX0_isZero.desc).map (fun d => d.parameters.length) = some 1 := by decide +kernel
set_option maxRecDepth 20000 in
theorem imX0_isZero : Cond.instanceMethod yX0_isZero ∈ lw_tbl := lwc3 (List.mem_of_getElem? (i := 55) rfl)
set_option maxRecDepth 20000 in
theorem slX0_isZero : Cond.selects yX0_isZero.cls yX0_isZero yX0_isZero ∈ lw_tbl := lw_at 5 rfl
set_option maxRecDepth 20000 in
theorem coX0_filled : Cond.code yX0_filled cX0_filled 4 (some FieldType.int) ∈ lw_tbl := lwc3 (List.mem_of_getElem? (i := 52) rfl)
theorem pdX0_filled : yX0_filled.cls ≠ "java/lang/invoke/MethodHandle" ∧ yX0_filled.cls ≠ "java/lang/invoke/VarHandle" ∧ (parseMethodDescriptor yX0_filled.desc).map (fun d => d.parameters.length) = some 1 := by decide +kernel
set_option maxRecDepth 20000 in
theorem imX0_filled : Cond.instanceMethod yX0_filled ∈ lw_tbl := lwc3 (List.mem_of_getElem? (i := 50) rfl)
set_option maxRecDepth 20000 in
theorem slX0_filled : Cond.selects yX0_filled.cls yX0_filled yX0_filled ∈ lw_tbl := lwc3 (List.mem_of_getElem? (i := 51) rfl)
set_option maxRecDepth 20000 in
theorem coX0_fits : Cond.code yX0_fits cX0_fits 4 (some FieldType.boolean) ∈ lw_tbl := lwc3 (List.mem_of_getElem? (i := 72) rfl)
theorem pdX0_fits : yX0_fits.cls ≠ "java/lang/invoke/MethodHandle" ∧ yX0_fits.cls ≠ "java/lang/invoke/VarHandle" ∧ (parseMethodDescriptor yX0_fits.desc).map (fun d => d.parameters.length) = some 1 := by decide +kernel
set_option maxRecDepth 20000 in
theorem imX0_fits : Cond.instanceMethod yX0_fits ∈ lw_tbl := lwc3 (List.mem_of_getElem? (i := 70) rfl)
set_option maxRecDepth 20000 in
theorem slX0_fits : Cond.selects yX0_fits.cls yX0_fits yX0_fits ∈ lw_tbl := lwc3 (List.mem_of_getElem? (i := 71) rfl)
set_option maxRecDepth 20000 in
theorem coX0_denominators : Cond.code yX0_denominators cX0_denominators 6 (some FieldType.int) ∈ lw_tbl := lwc3 (List.mem_of_getElem? (i := 60) rfl)
theorem pdX0_denominators : yX0_denominators.cls ≠ "java/lang/invoke/MethodHandle" ∧ yX0_denominators.cls ≠ "java/lang/invoke/VarHandle" ∧ (parseMethodDescriptor yX0_denominators.desc).map (fun d => d.parameters.length) = some 1 := by decide +kernel
set_option maxRecDepth 20000 in
theorem imX0_denominators : Cond.instanceMethod yX0_denominators ∈ lw_tbl := lwc3 (List.mem_of_getElem? (i := 58) rfl)
set_option maxRecDepth 20000 in
theorem slX0_denominators : Cond.selects yX0_denominators.cls yX0_denominators yX0_denominators ∈ lw_tbl := lwc3 (List.mem_of_getElem? (i := 59) rfl)
set_option maxRecDepth 20000 in
theorem coX0_agree : Cond.code yX0_agree cX0_agree 5 (some FieldType.boolean) ∈ lw_tbl := lwc3 (List.mem_of_getElem? (i := 64) rfl)
theorem pdX0_agree : yX0_agree.cls ≠ "java/lang/invoke/MethodHandle" ∧ yX0_agree.cls ≠ "java/lang/invoke/VarHandle" ∧ (parseMethodDescriptor yX0_agree.desc).map (fun d => d.parameters.length) = some 3 := by decide +kernel
set_option maxRecDepth 20000 in
theorem imX0_agree : Cond.instanceMethod yX0_agree ∈ lw_tbl := lwc3 (List.mem_of_getElem? (i := 63) rfl)
set_option maxRecDepth 20000 in
theorem slX0_agree : Cond.selects yX0_agree.cls yX0_agree yX0_agree ∈ lw_tbl := lw_at 6 rfl
set_option maxRecDepth 20000 in
theorem coX0_leastTwin : Cond.code yX0_leastTwin cX0_leastTwin 5 (some FieldType.int) ∈ lw_tbl := lwc3 (List.mem_of_getElem? (i := 68) rfl)
theorem pdX0_leastTwin : yX0_leastTwin.cls ≠ "java/lang/invoke/MethodHandle" ∧ yX0_leastTwin.cls ≠ "java/lang/invoke/VarHandle" ∧ (parseMethodDescriptor yX0_leastTwin.desc).map (fun d => d.parameters.length) = some 1 := by decide +kernel
set_option maxRecDepth 20000 in
theorem imX0_leastTwin : Cond.instanceMethod yX0_leastTwin ∈ lw_tbl := lwc3 (List.mem_of_getElem? (i := 66) rfl)
set_option maxRecDepth 20000 in
theorem slX0_leastTwin : Cond.selects yX0_leastTwin.cls yX0_leastTwin yX0_leastTwin ∈ lw_tbl := lwc3 (List.mem_of_getElem? (i := 67) rfl)
set_option maxRecDepth 20000 in
theorem coX0_uAt : Cond.code yX0_uAt cX0_uAt 2 (some FieldType.int) ∈ lw_tbl := lwc3 (List.mem_of_getElem? (i := 81) rfl)
theorem pdX0_uAt : yX0_uAt.cls ≠ "java/lang/invoke/MethodHandle" ∧ yX0_uAt.cls ≠ "java/lang/invoke/VarHandle" ∧ (parseMethodDescriptor yX0_uAt.desc).map (fun d => d.parameters.length) = some 1 := by decide +kernel
set_option maxRecDepth 20000 in
theorem imX0_uAt : Cond.instanceMethod yX0_uAt ∈ lw_tbl := lwc3 (List.mem_of_getElem? (i := 79) rfl)
set_option maxRecDepth 20000 in
theorem slX0_uAt : Cond.selects yX0_uAt.cls yX0_uAt yX0_uAt ∈ lw_tbl := lwc3 (List.mem_of_getElem? (i := 80) rfl)
set_option maxRecDepth 20000 in
theorem coX0_loadU : Cond.code yX0_loadU cX0_loadU 3 none ∈ lw_tbl := lwc4 (List.mem_of_getElem? (i := 85) rfl)
theorem pdX0_loadU : yX0_loadU.cls ≠ "java/lang/invoke/MethodHandle" ∧ yX0_loadU.cls ≠ "java/lang/invoke/VarHandle" ∧ (parseMethodDescriptor yX0_loadU.desc).map (fun d => d.parameters.length) = some 1 := by decide +kernel
set_option maxRecDepth 20000 in
theorem imX0_loadU : Cond.instanceMethod yX0_loadU ∈ lw_tbl := lwc4 (List.mem_of_getElem? (i := 83) rfl)
set_option maxRecDepth 20000 in
theorem slX0_loadU : Cond.selects yX0_loadU.cls yX0_loadU yX0_loadU ∈ lw_tbl := lwc4 (List.mem_of_getElem? (i := 84) rfl)
set_option maxRecDepth 20000 in
theorem coX0_hasTower : Cond.code yX0_hasTower cX0_hasTower 6 (some FieldType.boolean) ∈ lw_tbl := lwc4 (List.mem_of_getElem? (i := 25) rfl)
theorem pdX0_hasTower : yX0_hasTower.cls ≠ "java/lang/invoke/MethodHandle" ∧ yX0_hasTower.cls ≠ "java/lang/invoke/VarHandle" ∧ (parseMethodDescriptor yX0_hasTower.desc).map (fun d => d.parameters.length) = some 5 := by decide +kernel
set_option maxRecDepth 20000 in
theorem imX0_hasTower : Cond.instanceMethod yX0_hasTower ∈ lw_tbl := lwc4 (List.mem_of_getElem? (i := 23) rfl)
set_option maxRecDepth 20000 in
theorem slX0_hasTower : Cond.selects yX0_hasTower.cls yX0_hasTower yX0_hasTower ∈ lw_tbl := lwc4 (List.mem_of_getElem? (i := 24) rfl)
set_option maxRecDepth 20000 in
theorem coX0_setTower : Cond.code yX0_setTower cX0_setTower 6 none ∈ lw_tbl := lwc4 (List.mem_of_getElem? (i := 29) rfl)
theorem pdX0_setTower : yX0_setTower.cls ≠ "java/lang/invoke/MethodHandle" ∧ yX0_setTower.cls ≠ "java/lang/invoke/VarHandle" ∧ (parseMethodDescriptor yX0_setTower.desc).map (fun d => d.parameters.length) = some 5 := by decide +kernel
set_option maxRecDepth 20000 in
theorem imX0_setTower : Cond.instanceMethod yX0_setTower ∈ lw_tbl := lwc4 (List.mem_of_getElem? (i := 27) rfl)
set_option maxRecDepth 20000 in
theorem slX0_setTower : Cond.selects yX0_setTower.cls yX0_setTower yX0_setTower ∈ lw_tbl := lwc4 (List.mem_of_getElem? (i := 28) rfl)
set_option maxRecDepth 20000 in
theorem coX0_draw : Cond.code yX0_draw cX0_draw 1 (some FieldType.int) ∈ lw_tbl := lwc4 (List.mem_of_getElem? (i := 115) rfl)
theorem pdX0_draw : yX0_draw.cls ≠ "java/lang/invoke/MethodHandle" ∧ yX0_draw.cls ≠ "java/lang/invoke/VarHandle" ∧ (parseMethodDescriptor yX0_draw.desc).map (fun d => d.parameters.length) = some 0 := by decide +kernel
set_option maxRecDepth 20000 in
theorem imX0_draw : Cond.instanceMethod yX0_draw ∈ lw_tbl := lwc4 (List.mem_of_getElem? (i := 113) rfl)
set_option maxRecDepth 20000 in
theorem slX0_draw : Cond.selects yX0_draw.cls yX0_draw yX0_draw ∈ lw_tbl := lwc4 (List.mem_of_getElem? (i := 114) rfl)
set_option maxRecDepth 20000 in
theorem coX1_init : Cond.code yX1_init cX1_init 1 none ∈ lw_tbl := lwc1 (List.mem_of_getElem? (i := 170) rfl)
theorem pdX1_init : yX1_init.cls ≠ "java/lang/invoke/MethodHandle" ∧ yX1_init.cls ≠ "java/lang/invoke/VarHandle" ∧ (parseMethodDescriptor yX1_init.desc).map (fun d => d.parameters.length) = some 0 := by decide +kernel
set_option maxRecDepth 20000 in
theorem imX1_init : Cond.instanceMethod yX1_init ∈ lw_tbl := lwc1 (List.mem_of_getElem? (i := 169) rfl)
set_option maxRecDepth 20000 in
theorem coX1_setNumber : Cond.code yX1_setNumber cX1_setNumber 2 none ∈ lw_tbl := lwc2 (List.mem_of_getElem? (i := 219) rfl)
theorem pdX1_setNumber : yX1_setNumber.cls ≠ "java/lang/invoke/MethodHandle" ∧ yX1_setNumber.cls ≠ "java/lang/invoke/VarHandle" ∧ (parseMethodDescriptor yX1_setNumber.desc).map (fun d => d.parameters.length) = some 1 := by decide +kernel
set_option maxRecDepth 20000 in
theorem imX1_setNumber : Cond.instanceMethod yX1_setNumber ∈ lw_tbl := lwc2 (List.mem_of_getElem? (i := 217) rfl)
set_option maxRecDepth 20000 in
theorem slX1_setNumber : Cond.selects yX1_setNumber.cls yX1_setNumber yX1_setNumber ∈ lw_tbl := lwc2 (List.mem_of_getElem? (i := 218) rfl)
set_option maxRecDepth 20000 in
theorem coX1_become : Cond.code yX1_become cX1_become 2 none ∈ lw_tbl := lwc3 (List.mem_of_getElem? (i := 231) rfl)
theorem pdX1_become : yX1_become.cls ≠ "java/lang/invoke/MethodHandle" ∧ yX1_become.cls ≠ "java/lang/invoke/VarHandle" ∧ (parseMethodDescriptor yX1_become.desc).map (fun d => d.parameters.length) = some 1 := by decide +kernel
set_option maxRecDepth 20000 in
theorem imX1_become : Cond.instanceMethod yX1_become ∈ lw_tbl := lwc3 (List.mem_of_getElem? (i := 229) rfl)
set_option maxRecDepth 20000 in
theorem slX1_become : Cond.selects yX1_become.cls yX1_become yX1_become ∈ lw_tbl := lwc3 (List.mem_of_getElem? (i := 230) rfl)
set_option maxRecDepth 20000 in
theorem coX1_take : Cond.code yX1_take cX1_take 3 none ∈ lw_tbl := lwc3 (List.mem_of_getElem? (i := 170) rfl)
theorem pdX1_take : yX1_take.cls ≠ "java/lang/invoke/MethodHandle" ∧ yX1_take.cls ≠ "java/lang/invoke/VarHandle" ∧ (parseMethodDescriptor yX1_take.desc).map (fun d => d.parameters.length) = some 2 := by decide +kernel
set_option maxRecDepth 20000 in
theorem imX1_take : Cond.instanceMethod yX1_take ∈ lw_tbl := lwc3 (List.mem_of_getElem? (i := 168) rfl)
set_option maxRecDepth 20000 in
theorem slX1_take : Cond.selects yX1_take.cls yX1_take yX1_take ∈ lw_tbl := lwc3 (List.mem_of_getElem? (i := 169) rfl)
set_option maxRecDepth 20000 in
theorem coX1_isTerm : Cond.code yX1_isTerm cX1_isTerm 1 (some FieldType.boolean) ∈ lw_tbl := lwc3 (List.mem_of_getElem? (i := 223) rfl)
theorem pdX1_isTerm : yX1_isTerm.cls ≠ "java/lang/invoke/MethodHandle" ∧ yX1_isTerm.cls ≠ "java/lang/invoke/VarHandle" ∧ (parseMethodDescriptor yX1_isTerm.desc).map (fun d => d.parameters.length) = some 0 := by decide +kernel
set_option maxRecDepth 20000 in
theorem imX1_isTerm : Cond.instanceMethod yX1_isTerm ∈ lw_tbl := lwc3 (List.mem_of_getElem? (i := 221) rfl)
set_option maxRecDepth 20000 in
theorem slX1_isTerm : Cond.selects yX1_isTerm.cls yX1_isTerm yX1_isTerm ∈ lw_tbl := lwc3 (List.mem_of_getElem? (i := 222) rfl)
set_option maxRecDepth 20000 in
theorem coX2_init : Cond.code yX2_init cX2_init 2 none ∈ lw_tbl := lwc1 (List.mem_of_getElem? (i := 53) rfl)
theorem pdX2_init : yX2_init.cls ≠ "java/lang/invoke/MethodHandle" ∧ yX2_init.cls ≠ "java/lang/invoke/VarHandle" ∧ (parseMethodDescriptor yX2_init.desc).map (fun d => d.parameters.length) = some 0 := by decide +kernel
set_option maxRecDepth 20000 in
theorem imX2_init : Cond.instanceMethod yX2_init ∈ lw_tbl := lwc1 (List.mem_of_getElem? (i := 52) rfl)
set_option maxRecDepth 20000 in
theorem coX2_push : Cond.code yX2_push cX2_push 2 none ∈ lw_tbl := lwc4 (List.mem_of_getElem? (i := 0) rfl)
theorem pdX2_push : yX2_push.cls ≠ "java/lang/invoke/MethodHandle" ∧ yX2_push.cls ≠ "java/lang/invoke/VarHandle" ∧ (parseMethodDescriptor yX2_push.desc).map (fun d => d.parameters.length) = some 1 := by decide +kernel
set_option maxRecDepth 20000 in
theorem imX2_push : Cond.instanceMethod yX2_push ∈ lw_tbl := lwc3 (List.mem_of_getElem? (i := 238) rfl)
set_option maxRecDepth 20000 in
theorem slX2_push : Cond.selects yX2_push.cls yX2_push yX2_push ∈ lw_tbl := lwc3 (List.mem_of_getElem? (i := 239) rfl)
set_option maxRecDepth 20000 in
theorem coX2_pop : Cond.code yX2_pop cX2_pop 2 (some FieldType.boolean) ∈ lw_tbl := lwc4 (List.mem_of_getElem? (i := 134) rfl)
theorem pdX2_pop : yX2_pop.cls ≠ "java/lang/invoke/MethodHandle" ∧ yX2_pop.cls ≠ "java/lang/invoke/VarHandle" ∧ (parseMethodDescriptor yX2_pop.desc).map (fun d => d.parameters.length) = some 1 := by decide +kernel
set_option maxRecDepth 20000 in
theorem imX2_pop : Cond.instanceMethod yX2_pop ∈ lw_tbl := lwc4 (List.mem_of_getElem? (i := 132) rfl)
set_option maxRecDepth 20000 in
theorem slX2_pop : Cond.selects yX2_pop.cls yX2_pop yX2_pop ∈ lw_tbl := lwc4 (List.mem_of_getElem? (i := 133) rfl)
set_option maxRecDepth 20000 in
theorem coX2_become : Cond.code yX2_become cX2_become 3 none ∈ lw_tbl := lwc5 (List.mem_of_getElem? (i := 88) rfl)
theorem pdX2_become : yX2_become.cls ≠ "java/lang/invoke/MethodHandle" ∧ yX2_become.cls ≠ "java/lang/invoke/VarHandle" ∧ (parseMethodDescriptor yX2_become.desc).map (fun d => d.parameters.length) = some 1 := by decide +kernel
set_option maxRecDepth 20000 in
theorem imX2_become : Cond.instanceMethod yX2_become ∈ lw_tbl := lwc5 (List.mem_of_getElem? (i := 86) rfl)
set_option maxRecDepth 20000 in
theorem slX2_become : Cond.selects yX2_become.cls yX2_become yX2_become ∈ lw_tbl := lwc5 (List.mem_of_getElem? (i := 87) rfl)
set_option maxRecDepth 20000 in
theorem coX3_init : Cond.code yX3_init cX3_init 1 none ∈ lw_tbl := lwc1 (List.mem_of_getElem? (i := 75) rfl)
theorem pdX3_init : yX3_init.cls ≠ "java/lang/invoke/MethodHandle" ∧ yX3_init.cls ≠ "java/lang/invoke/VarHandle" ∧ (parseMethodDescriptor yX3_init.desc).map (fun d => d.parameters.length) = some 0 := by decide +kernel
set_option maxRecDepth 20000 in
theorem imX3_init : Cond.instanceMethod yX3_init ∈ lw_tbl := lwc1 (List.mem_of_getElem? (i := 74) rfl)
set_option maxRecDepth 20000 in
theorem coX3_divisor : Cond.code yX3_divisor cX3_divisor 8 none ∈ lw_tbl := lwc3 (List.mem_of_getElem? (i := 183) rfl)
theorem pdX3_divisor : yX3_divisor.cls ≠ "java/lang/invoke/MethodHandle" ∧ yX3_divisor.cls ≠ "java/lang/invoke/VarHandle" ∧ (parseMethodDescriptor yX3_divisor.desc).map (fun d => d.parameters.length) = some 3 := by decide +kernel
set_option maxRecDepth 20000 in
theorem imX3_divisor : Cond.instanceMethod yX3_divisor ∈ lw_tbl := lwc3 (List.mem_of_getElem? (i := 181) rfl)
set_option maxRecDepth 20000 in
theorem slX3_divisor : Cond.selects yX3_divisor.cls yX3_divisor yX3_divisor ∈ lw_tbl := lwc3 (List.mem_of_getElem? (i := 182) rfl)
set_option maxRecDepth 20000 in
theorem coX3_invert : Cond.code yX3_invert cX3_invert 10 none ∈ lw_tbl := lwc4 (List.mem_of_getElem? (i := 180) rfl)
theorem pdX3_invert : yX3_invert.cls ≠ "java/lang/invoke/MethodHandle" ∧ yX3_invert.cls ≠ "java/lang/invoke/VarHandle" ∧ (parseMethodDescriptor yX3_invert.desc).map (fun d => d.parameters.length) = some 3 := by decide +kernel
set_option maxRecDepth 20000 in
theorem imX3_invert : Cond.instanceMethod yX3_invert ∈ lw_tbl := lwc4 (List.mem_of_getElem? (i := 178) rfl)
set_option maxRecDepth 20000 in
theorem slX3_invert : Cond.selects yX3_invert.cls yX3_invert yX3_invert ∈ lw_tbl := lwc4 (List.mem_of_getElem? (i := 179) rfl)
set_option maxRecDepth 20000 in
theorem coX3_cancel : Cond.code yX3_cancel cX3_cancel 8 none ∈ lw_tbl := lwc4 (List.mem_of_getElem? (i := 185) rfl)
theorem pdX3_cancel : yX3_cancel.cls ≠ "java/lang/invoke/MethodHandle" ∧ yX3_cancel.cls ≠ "java/lang/invoke/VarHandle" ∧ (parseMethodDescriptor yX3_cancel.desc).map (fun d => d.parameters.length) = some 4 := by decide +kernel
set_option maxRecDepth 20000 in
theorem imX3_cancel : Cond.instanceMethod yX3_cancel ∈ lw_tbl := lwc4 (List.mem_of_getElem? (i := 184) rfl)
set_option maxRecDepth 20000 in
theorem slX3_cancel : Cond.selects yX3_cancel.cls yX3_cancel yX3_cancel ∈ lw_tbl := lw_at 29 rfl
set_option maxRecDepth 20000 in
theorem coX3_raise : Cond.code yX3_raise cX3_raise 5 none ∈ lw_tbl := lwc4 (List.mem_of_getElem? (i := 125) rfl)
theorem pdX3_raise : yX3_raise.cls ≠ "java/lang/invoke/MethodHandle" ∧ yX3_raise.cls ≠ "java/lang/invoke/VarHandle" ∧ (parseMethodDescriptor yX3_raise.desc).map (fun d => d.parameters.length) = some 3 := by decide +kernel
set_option maxRecDepth 20000 in
theorem imX3_raise : Cond.instanceMethod yX3_raise ∈ lw_tbl := lwc4 (List.mem_of_getElem? (i := 123) rfl)
set_option maxRecDepth 20000 in
theorem slX3_raise : Cond.selects yX3_raise.cls yX3_raise yX3_raise ∈ lw_tbl := lwc4 (List.mem_of_getElem? (i := 124) rfl)
set_option maxRecDepth 20000 in
theorem coX3_cut : Cond.code yX3_cut cX3_cut 3 none ∈ lw_tbl := lwc3 (List.mem_of_getElem? (i := 207) rfl)
theorem pdX3_cut : yX3_cut.cls ≠ "java/lang/invoke/MethodHandle" ∧ yX3_cut.cls ≠ "java/lang/invoke/VarHandle" ∧ (parseMethodDescriptor yX3_cut.desc).map (fun d => d.parameters.length) = some 2 := by decide +kernel
set_option maxRecDepth 20000 in
theorem imX3_cut : Cond.instanceMethod yX3_cut ∈ lw_tbl := lwc3 (List.mem_of_getElem? (i := 205) rfl)
set_option maxRecDepth 20000 in
theorem slX3_cut : Cond.selects yX3_cut.cls yX3_cut yX3_cut ∈ lw_tbl := lwc3 (List.mem_of_getElem? (i := 206) rfl)
set_option maxRecDepth 20000 in
theorem coX3_reduce : Cond.code yX3_reduce cX3_reduce 3 none ∈ lw_tbl := lwc3 (List.mem_of_getElem? (i := 178) rfl)
theorem pdX3_reduce : yX3_reduce.cls ≠ "java/lang/invoke/MethodHandle" ∧ yX3_reduce.cls ≠ "java/lang/invoke/VarHandle" ∧ (parseMethodDescriptor yX3_reduce.desc).map (fun d => d.parameters.length) = some 1 := by decide +kernel
set_option maxRecDepth 20000 in
theorem imX3_reduce : Cond.instanceMethod yX3_reduce ∈ lw_tbl := lwc3 (List.mem_of_getElem? (i := 176) rfl)
set_option maxRecDepth 20000 in
theorem slX3_reduce : Cond.selects yX3_reduce.cls yX3_reduce yX3_reduce ∈ lw_tbl := lwc3 (List.mem_of_getElem? (i := 177) rfl)
set_option maxRecDepth 20000 in
theorem coX3_sum : Cond.code yX3_sum cX3_sum 5 none ∈ lw_tbl := lwc3 (List.mem_of_getElem? (i := 153) rfl)
theorem pdX3_sum : yX3_sum.cls ≠ "java/lang/invoke/MethodHandle" ∧ yX3_sum.cls ≠ "java/lang/invoke/VarHandle" ∧ (parseMethodDescriptor yX3_sum.desc).map (fun d => d.parameters.length) = some 4 := by decide +kernel
set_option maxRecDepth 20000 in
theorem imX3_sum : Cond.instanceMethod yX3_sum ∈ lw_tbl := lwc3 (List.mem_of_getElem? (i := 151) rfl)
set_option maxRecDepth 20000 in
theorem slX3_sum : Cond.selects yX3_sum.cls yX3_sum yX3_sum ∈ lw_tbl := lwc3 (List.mem_of_getElem? (i := 152) rfl)
set_option maxRecDepth 20000 in
theorem coX3_times : Cond.code yX3_times cX3_times 4 none ∈ lw_tbl := lwc3 (List.mem_of_getElem? (i := 215) rfl)
theorem pdX3_times : yX3_times.cls ≠ "java/lang/invoke/MethodHandle" ∧ yX3_times.cls ≠ "java/lang/invoke/VarHandle" ∧ (parseMethodDescriptor yX3_times.desc).map (fun d => d.parameters.length) = some 3 := by decide +kernel
set_option maxRecDepth 20000 in
theorem imX3_times : Cond.instanceMethod yX3_times ∈ lw_tbl := lwc3 (List.mem_of_getElem? (i := 213) rfl)
set_option maxRecDepth 20000 in
theorem slX3_times : Cond.selects yX3_times.cls yX3_times yX3_times ∈ lw_tbl := lwc3 (List.mem_of_getElem? (i := 214) rfl)
set_option maxRecDepth 20000 in
theorem coX3_over : Cond.code yX3_over cX3_over 4 none ∈ lw_tbl := lwc3 (List.mem_of_getElem? (i := 219) rfl)
theorem pdX3_over : yX3_over.cls ≠ "java/lang/invoke/MethodHandle" ∧ yX3_over.cls ≠ "java/lang/invoke/VarHandle" ∧ (parseMethodDescriptor yX3_over.desc).map (fun d => d.parameters.length) = some 3 := by decide +kernel
set_option maxRecDepth 20000 in
theorem imX3_over : Cond.instanceMethod yX3_over ∈ lw_tbl := lwc3 (List.mem_of_getElem? (i := 217) rfl)
set_option maxRecDepth 20000 in
theorem slX3_over : Cond.selects yX3_over.cls yX3_over yX3_over ∈ lw_tbl := lwc3 (List.mem_of_getElem? (i := 218) rfl)
set_option maxRecDepth 20000 in
theorem coX3_ratio : Cond.code yX3_ratio cX3_ratio 5 (some FieldType.int) ∈ lw_tbl := lwc4 (List.mem_of_getElem? (i := 234) rfl)
theorem pdX3_ratio : yX3_ratio.cls ≠ "java/lang/invoke/MethodHandle" ∧ yX3_ratio.cls ≠ "java/lang/invoke/VarHandle" ∧ (parseMethodDescriptor yX3_ratio.desc).map (fun d => d.parameters.length) = some 2 := by decide +kernel
set_option maxRecDepth 20000 in
theorem imX3_ratio : Cond.instanceMethod yX3_ratio ∈ lw_tbl := lwc4 (List.mem_of_getElem? (i := 232) rfl)
set_option maxRecDepth 20000 in
theorem slX3_ratio : Cond.selects yX3_ratio.cls yX3_ratio yX3_ratio ∈ lw_tbl := lwc4 (List.mem_of_getElem? (i := 233) rfl)
set_option maxRecDepth 20000 in
theorem coX4_init : Cond.code yX4_init cX4_init 4 none ∈ lw_tbl := lwc1 (List.mem_of_getElem? (i := 163) rfl)
theorem pdX4_init : yX4_init.cls ≠ "java/lang/invoke/MethodHandle" ∧ yX4_init.cls ≠ "java/lang/invoke/VarHandle" ∧ (parseMethodDescriptor yX4_init.desc).map (fun d => d.parameters.length) = some 2 := by decide +kernel
set_option maxRecDepth 20000 in
theorem imX4_init : Cond.instanceMethod yX4_init ∈ lw_tbl := lwc1 (List.mem_of_getElem? (i := 162) rfl)
set_option maxRecDepth 20000 in
theorem coX4_piece : Cond.code yX4_piece cX4_piece 3 (some (FieldType.object "FiniteTerms$Frac")) ∈ lw_tbl := lwc4 (List.mem_of_getElem? (i := 212) rfl)
theorem pdX4_piece : yX4_piece.cls ≠ "java/lang/invoke/MethodHandle" ∧ yX4_piece.cls ≠ "java/lang/invoke/VarHandle" ∧ (parseMethodDescriptor yX4_piece.desc).map (fun d => d.parameters.length) = some 1 := by decide +kernel
set_option maxRecDepth 20000 in
theorem imX4_piece : Cond.instanceMethod yX4_piece ∈ lw_tbl := lwc4 (List.mem_of_getElem? (i := 210) rfl)
set_option maxRecDepth 20000 in
theorem slX4_piece : Cond.selects yX4_piece.cls yX4_piece yX4_piece ∈ lw_tbl := lwc4 (List.mem_of_getElem? (i := 211) rfl)
set_option maxRecDepth 20000 in
theorem coX4_rest : Cond.code yX4_rest cX4_rest 3 (some (FieldType.object "FiniteTerms$Frac")) ∈ lw_tbl := lwc4 (List.mem_of_getElem? (i := 221) rfl)
theorem pdX4_rest : yX4_rest.cls ≠ "java/lang/invoke/MethodHandle" ∧ yX4_rest.cls ≠ "java/lang/invoke/VarHandle" ∧ (parseMethodDescriptor yX4_rest.desc).map (fun d => d.parameters.length) = some 1 := by decide +kernel
set_option maxRecDepth 20000 in
theorem imX4_rest : Cond.instanceMethod yX4_rest ∈ lw_tbl := lwc4 (List.mem_of_getElem? (i := 219) rfl)
set_option maxRecDepth 20000 in
theorem slX4_rest : Cond.selects yX4_rest.cls yX4_rest yX4_rest ∈ lw_tbl := lwc4 (List.mem_of_getElem? (i := 220) rfl)
set_option maxRecDepth 20000 in
theorem coX4_prepare : Cond.code yX4_prepare cX4_prepare 2 none ∈ lw_tbl := lwc4 (List.mem_of_getElem? (i := 81) rfl)
theorem pdX4_prepare : yX4_prepare.cls ≠ "java/lang/invoke/MethodHandle" ∧ yX4_prepare.cls ≠ "java/lang/invoke/VarHandle" ∧ (parseMethodDescriptor yX4_prepare.desc).map (fun d => d.parameters.length) = some 1 := by decide +kernel
set_option maxRecDepth 20000 in
theorem imX4_prepare : Cond.instanceMethod yX4_prepare ∈ lw_tbl := lwc4 (List.mem_of_getElem? (i := 79) rfl)
set_option maxRecDepth 20000 in
theorem slX4_prepare : Cond.selects yX4_prepare.cls yX4_prepare yX4_prepare ∈ lw_tbl := lwc4 (List.mem_of_getElem? (i := 80) rfl)
set_option maxRecDepth 20000 in
theorem coX4_differentiate : Cond.code yX4_differentiate cX4_differentiate 5 none ∈ lw_tbl := lwc4 (List.mem_of_getElem? (i := 95) rfl)
theorem pdX4_differentiate : yX4_differentiate.cls ≠ "java/lang/invoke/MethodHandle" ∧ yX4_differentiate.cls ≠ "java/lang/invoke/VarHandle" ∧ (parseMethodDescriptor yX4_differentiate.desc).map (fun d => d.parameters.length) = some 4 := by decide +kernel
set_option maxRecDepth 20000 in
theorem imX4_differentiate : Cond.instanceMethod yX4_differentiate ∈ lw_tbl := lwc4 (List.mem_of_getElem? (i := 93) rfl)
set_option maxRecDepth 20000 in
theorem slX4_differentiate : Cond.selects yX4_differentiate.cls yX4_differentiate yX4_differentiate ∈ lw_tbl := lwc4 (List.mem_of_getElem? (i := 94) rfl)
set_option maxRecDepth 20000 in
theorem coX4_multiplyBySlope : Cond.code yX4_multiplyBySlope cX4_multiplyBySlope 3 none ∈ lw_tbl := lwc4 (List.mem_of_getElem? (i := 104) rfl)
theorem pdX4_multiplyBySlope : yX4_multiplyBySlope.cls ≠ "java/lang/invoke/MethodHandle" ∧ yX4_multiplyBySlope.cls ≠ "java/lang/invoke/VarHandle" ∧ (parseMethodDescriptor yX4_multiplyBySlope.desc).map (fun d => d.parameters.length) = some 2 := by decide +kernel
set_option maxRecDepth 20000 in
theorem imX4_multiplyBySlope : Cond.instanceMethod yX4_multiplyBySlope ∈ lw_tbl := lwc4 (List.mem_of_getElem? (i := 103) rfl)
set_option maxRecDepth 20000 in
theorem slX4_multiplyBySlope : Cond.selects yX4_multiplyBySlope.cls yX4_multiplyBySlope yX4_multiplyBySlope ∈ lw_tbl := lw_at 25 rfl
set_option maxRecDepth 20000 in
theorem coX4_compute : Cond.code yX4_compute cX4_compute 4 none ∈ lw_tbl := lwc4 (List.mem_of_getElem? (i := 207) rfl)
theorem pdX4_compute : yX4_compute.cls ≠ "java/lang/invoke/MethodHandle" ∧ yX4_compute.cls ≠ "java/lang/invoke/VarHandle" ∧ (parseMethodDescriptor yX4_compute.desc).map (fun d => d.parameters.length) = some 2 := by decide +kernel
set_option maxRecDepth 20000 in
theorem imX4_compute : Cond.instanceMethod yX4_compute ∈ lw_tbl := lwc4 (List.mem_of_getElem? (i := 205) rfl)
set_option maxRecDepth 20000 in
theorem slX4_compute : Cond.selects yX4_compute.cls yX4_compute yX4_compute ∈ lw_tbl := lwc4 (List.mem_of_getElem? (i := 206) rfl)
set_option maxRecDepth 20000 in
theorem coX4_judge : Cond.code yX4_judge cX4_judge 3 none ∈ lw_tbl := lwc4 (List.mem_of_getElem? (i := 226) rfl)
theorem pdX4_judge : yX4_judge.cls ≠ "java/lang/invoke/MethodHandle" ∧ yX4_judge.cls ≠ "java/lang/invoke/VarHandle" ∧ (parseMethodDescriptor yX4_judge.desc).map (fun d => d.parameters.length) = some 0 := by decide +kernel
set_option maxRecDepth 20000 in
theorem imX4_judge : Cond.instanceMethod yX4_judge ∈ lw_tbl := lwc4 (List.mem_of_getElem? (i := 225) rfl)
set_option maxRecDepth 20000 in
theorem slX4_judge : Cond.selects yX4_judge.cls yX4_judge yX4_judge ∈ lw_tbl := lw_at 31 rfl
set_option maxRecDepth 20000 in
theorem coX4_constant : Cond.code yX4_constant cX4_constant 2 (some FieldType.int) ∈ lw_tbl := lwc4 (List.mem_of_getElem? (i := 230) rfl)
theorem pdX4_constant : yX4_constant.cls ≠ "java/lang/invoke/MethodHandle" ∧ yX4_constant.cls ≠ "java/lang/invoke/VarHandle" ∧ (parseMethodDescriptor yX4_constant.desc).map (fun d => d.parameters.length) = some 1 := by decide +kernel
set_option maxRecDepth 20000 in
theorem imX4_constant : Cond.instanceMethod yX4_constant ∈ lw_tbl := lwc4 (List.mem_of_getElem? (i := 229) rfl)
set_option maxRecDepth 20000 in
theorem slX4_constant : Cond.selects yX4_constant.cls yX4_constant yX4_constant ∈ lw_tbl := lw_at 32 rfl
set_option maxRecDepth 20000 in
theorem coX4_compare : Cond.code yX4_compare cX4_compare 3 none ∈ lw_tbl := lwc5 (List.mem_of_getElem? (i := 71) rfl)
theorem pdX4_compare : yX4_compare.cls ≠ "java/lang/invoke/MethodHandle" ∧ yX4_compare.cls ≠ "java/lang/invoke/VarHandle" ∧ (parseMethodDescriptor yX4_compare.desc).map (fun d => d.parameters.length) = some 1 := by decide +kernel
set_option maxRecDepth 20000 in
theorem imX4_compare : Cond.instanceMethod yX4_compare ∈ lw_tbl := lwc5 (List.mem_of_getElem? (i := 69) rfl)
set_option maxRecDepth 20000 in
theorem slX4_compare : Cond.selects yX4_compare.cls yX4_compare yX4_compare ∈ lw_tbl := lwc5 (List.mem_of_getElem? (i := 70) rfl)
set_option maxRecDepth 20000 in
theorem coX4_compareRests : Cond.code yX4_compareRests cX4_compareRests 4 none ∈ lw_tbl := lwc5 (List.mem_of_getElem? (i := 75) rfl)
theorem pdX4_compareRests : yX4_compareRests.cls ≠ "java/lang/invoke/MethodHandle" ∧ yX4_compareRests.cls ≠ "java/lang/invoke/VarHandle" ∧ (parseMethodDescriptor yX4_compareRests.desc).map (fun d => d.parameters.length) = some 2 := by decide +kernel
set_option maxRecDepth 20000 in
theorem imX4_compareRests : Cond.instanceMethod yX4_compareRests ∈ lw_tbl := lwc5 (List.mem_of_getElem? (i := 74) rfl)
set_option maxRecDepth 20000 in
theorem slX4_compareRests : Cond.selects yX4_compareRests.cls yX4_compareRests yX4_compareRests ∈ lw_tbl := lw_at 36 rfl
set_option maxRecDepth 20000 in
theorem coX4_suits : Cond.code yX4_suits cX4_suits 2 (some FieldType.boolean) ∈ lw_tbl := lwc5 (List.mem_of_getElem? (i := 79) rfl)
theorem pdX4_suits : yX4_suits.cls ≠ "java/lang/invoke/MethodHandle" ∧ yX4_suits.cls ≠ "java/lang/invoke/VarHandle" ∧ (parseMethodDescriptor yX4_suits.desc).map (fun d => d.parameters.length) = some 1 := by decide +kernel
set_option maxRecDepth 20000 in
theorem imX4_suits : Cond.instanceMethod yX4_suits ∈ lw_tbl := lwc5 (List.mem_of_getElem? (i := 77) rfl)
set_option maxRecDepth 20000 in
theorem slX4_suits : Cond.selects yX4_suits.cls yX4_suits yX4_suits ∈ lw_tbl := lwc5 (List.mem_of_getElem? (i := 78) rfl)
set_option maxRecDepth 20000 in
theorem coX5_init : Cond.code yX5_init cX5_init 1 none ∈ lw_tbl := lwc1 (List.mem_of_getElem? (i := 81) rfl)
theorem pdX5_init : yX5_init.cls ≠ "java/lang/invoke/MethodHandle" ∧ yX5_init.cls ≠ "java/lang/invoke/VarHandle" ∧ (parseMethodDescriptor yX5_init.desc).map (fun d => d.parameters.length) = some 0 := by decide +kernel
set_option maxRecDepth 20000 in
theorem imX5_init : Cond.instanceMethod yX5_init ∈ lw_tbl := lwc1 (List.mem_of_getElem? (i := 80) rfl)
set_option maxRecDepth 20000 in
theorem coX5_at : Cond.code yX5_at cX5_at 2 (some FieldType.int) ∈ lw_tbl := lwc3 (List.mem_of_getElem? (i := 15) rfl)
theorem pdX5_at : yX5_at.cls ≠ "java/lang/invoke/MethodHandle" ∧ yX5_at.cls ≠ "java/lang/invoke/VarHandle" ∧ (parseMethodDescriptor yX5_at.desc).map (fun d => d.parameters.length) = some 1 := by decide +kernel
set_option maxRecDepth 20000 in
theorem imX5_at : Cond.instanceMethod yX5_at ∈ lw_tbl := lwc3 (List.mem_of_getElem? (i := 13) rfl)
set_option maxRecDepth 20000 in
theorem slX5_at : Cond.selects yX5_at.cls yX5_at yX5_at ∈ lw_tbl := lwc3 (List.mem_of_getElem? (i := 14) rfl)
set_option maxRecDepth 20000 in
theorem coX5_head : Cond.code yX5_head cX5_head 1 (some FieldType.int) ∈ lw_tbl := lwc3 (List.mem_of_getElem? (i := 192) rfl)
theorem pdX5_head : yX5_head.cls ≠ "java/lang/invoke/MethodHandle" ∧ yX5_head.cls ≠ "java/lang/invoke/VarHandle" ∧ (parseMethodDescriptor yX5_head.desc).map (fun d => d.parameters.length) = some 0 := by decide +kernel
set_option maxRecDepth 20000 in
theorem imX5_head : Cond.instanceMethod yX5_head ∈ lw_tbl := lwc3 (List.mem_of_getElem? (i := 190) rfl)
set_option maxRecDepth 20000 in
theorem slX5_head : Cond.selects yX5_head.cls yX5_head yX5_head ∈ lw_tbl := lwc3 (List.mem_of_getElem? (i := 191) rfl)
set_option maxRecDepth 20000 in
theorem coX5_put : Cond.code yX5_put cX5_put 3 none ∈ lw_tbl := lwc2 (List.mem_of_getElem? (i := 236) rfl)
theorem pdX5_put : yX5_put.cls ≠ "java/lang/invoke/MethodHandle" ∧ yX5_put.cls ≠ "java/lang/invoke/VarHandle" ∧ (parseMethodDescriptor yX5_put.desc).map (fun d => d.parameters.length) = some 2 := by decide +kernel
set_option maxRecDepth 20000 in
theorem imX5_put : Cond.instanceMethod yX5_put ∈ lw_tbl := lwc2 (List.mem_of_getElem? (i := 234) rfl)
set_option maxRecDepth 20000 in
theorem slX5_put : Cond.selects yX5_put.cls yX5_put yX5_put ∈ lw_tbl := lwc2 (List.mem_of_getElem? (i := 235) rfl)
set_option maxRecDepth 20000 in
theorem coX5_settle : Cond.code yX5_settle cX5_settle 3 none ∈ lw_tbl := lwc2 (List.mem_of_getElem? (i := 231) rfl)
theorem pdX5_settle : yX5_settle.cls ≠ "java/lang/invoke/MethodHandle" ∧ yX5_settle.cls ≠ "java/lang/invoke/VarHandle" ∧ (parseMethodDescriptor yX5_settle.desc).map (fun d => d.parameters.length) = some 1 := by decide +kernel
set_option maxRecDepth 20000 in
theorem imX5_settle : Cond.instanceMethod yX5_settle ∈ lw_tbl := lwc2 (List.mem_of_getElem? (i := 229) rfl)
set_option maxRecDepth 20000 in
theorem slX5_settle : Cond.selects yX5_settle.cls yX5_settle yX5_settle ∈ lw_tbl := lwc2 (List.mem_of_getElem? (i := 230) rfl)
set_option maxRecDepth 20000 in
theorem coX5_clear : Cond.code yX5_clear cX5_clear 2 none ∈ lw_tbl := lwc2 (List.mem_of_getElem? (i := 227) rfl)
theorem pdX5_clear : yX5_clear.cls ≠ "java/lang/invoke/MethodHandle" ∧ yX5_clear.cls ≠ "java/lang/invoke/VarHandle" ∧ (parseMethodDescriptor yX5_clear.desc).map (fun d => d.parameters.length) = some 0 := by decide +kernel
set_option maxRecDepth 20000 in
theorem imX5_clear : Cond.instanceMethod yX5_clear ∈ lw_tbl := lwc2 (List.mem_of_getElem? (i := 225) rfl)
set_option maxRecDepth 20000 in
theorem slX5_clear : Cond.selects yX5_clear.cls yX5_clear yX5_clear ∈ lw_tbl := lwc2 (List.mem_of_getElem? (i := 226) rfl)
set_option maxRecDepth 20000 in
theorem coX5_setNumber : Cond.code yX5_setNumber cX5_setNumber 2 none ∈ lw_tbl := lwc2 (List.mem_of_getElem? (i := 223) rfl)
theorem pdX5_setNumber : yX5_setNumber.cls ≠ "java/lang/invoke/MethodHandle" ∧ yX5_setNumber.cls ≠ "java/lang/invoke/VarHandle" ∧ (parseMethodDescriptor yX5_setNumber.desc).map (fun d => d.parameters.length) = some 1 := by decide +kernel
set_option maxRecDepth 20000 in
theorem imX5_setNumber : Cond.instanceMethod yX5_setNumber ∈ lw_tbl := lwc2 (List.mem_of_getElem? (i := 221) rfl)
set_option maxRecDepth 20000 in
theorem slX5_setNumber : Cond.selects yX5_setNumber.cls yX5_setNumber yX5_setNumber ∈ lw_tbl := lwc2 (List.mem_of_getElem? (i := 222) rfl)
set_option maxRecDepth 20000 in
theorem coX5_become : Cond.code yX5_become cX5_become 4 none ∈ lw_tbl := lwc3 (List.mem_of_getElem? (i := 174) rfl)
theorem pdX5_become : yX5_become.cls ≠ "java/lang/invoke/MethodHandle" ∧ yX5_become.cls ≠ "java/lang/invoke/VarHandle" ∧ (parseMethodDescriptor yX5_become.desc).map (fun d => d.parameters.length) = some 1 := by decide +kernel
set_option maxRecDepth 20000 in
theorem imX5_become : Cond.instanceMethod yX5_become ∈ lw_tbl := lwc3 (List.mem_of_getElem? (i := 172) rfl)
set_option maxRecDepth 20000 in
theorem slX5_become : Cond.selects yX5_become.cls yX5_become yX5_become ∈ lw_tbl := lwc3 (List.mem_of_getElem? (i := 173) rfl)
set_option maxRecDepth 20000 in
theorem coX5_scale : Cond.code yX5_scale cX5_scale 3 none ∈ lw_tbl := lwc3 (List.mem_of_getElem? (i := 203) rfl)
theorem pdX5_scale : yX5_scale.cls ≠ "java/lang/invoke/MethodHandle" ∧ yX5_scale.cls ≠ "java/lang/invoke/VarHandle" ∧ (parseMethodDescriptor yX5_scale.desc).map (fun d => d.parameters.length) = some 1 := by decide +kernel
set_option maxRecDepth 20000 in
theorem imX5_scale : Cond.instanceMethod yX5_scale ∈ lw_tbl := lwc3 (List.mem_of_getElem? (i := 201) rfl)
set_option maxRecDepth 20000 in
theorem slX5_scale : Cond.selects yX5_scale.cls yX5_scale yX5_scale ∈ lw_tbl := lwc3 (List.mem_of_getElem? (i := 202) rfl)
set_option maxRecDepth 20000 in
theorem coX5_addMultiple : Cond.code yX5_addMultiple cX5_addMultiple 6 none ∈ lw_tbl := lwc3 (List.mem_of_getElem? (i := 162) rfl)
theorem pdX5_addMultiple : yX5_addMultiple.cls ≠ "java/lang/invoke/MethodHandle" ∧ yX5_addMultiple.cls ≠ "java/lang/invoke/VarHandle" ∧ (parseMethodDescriptor yX5_addMultiple.desc).map (fun d => d.parameters.length) = some 3 := by decide +kernel
set_option maxRecDepth 20000 in
theorem imX5_addMultiple : Cond.instanceMethod yX5_addMultiple ∈ lw_tbl := lwc3 (List.mem_of_getElem? (i := 160) rfl)
set_option maxRecDepth 20000 in
theorem slX5_addMultiple : Cond.selects yX5_addMultiple.cls yX5_addMultiple yX5_addMultiple ∈ lw_tbl := lwc3 (List.mem_of_getElem? (i := 161) rfl)
set_option maxRecDepth 20000 in
theorem coX5_product : Cond.code yX5_product cX5_product 4 none ∈ lw_tbl := lwc3 (List.mem_of_getElem? (i := 157) rfl)
theorem pdX5_product : yX5_product.cls ≠ "java/lang/invoke/MethodHandle" ∧ yX5_product.cls ≠ "java/lang/invoke/VarHandle" ∧ (parseMethodDescriptor yX5_product.desc).map (fun d => d.parameters.length) = some 2 := by decide +kernel
set_option maxRecDepth 20000 in
theorem imX5_product : Cond.instanceMethod yX5_product ∈ lw_tbl := lwc3 (List.mem_of_getElem? (i := 155) rfl)
set_option maxRecDepth 20000 in
theorem slX5_product : Cond.selects yX5_product.cls yX5_product yX5_product ∈ lw_tbl := lwc3 (List.mem_of_getElem? (i := 156) rfl)
set_option maxRecDepth 20000 in
theorem coX5_slope : Cond.code yX5_slope cX5_slope 3 none ∈ lw_tbl := lwc4 (List.mem_of_getElem? (i := 90) rfl)
theorem pdX5_slope : yX5_slope.cls ≠ "java/lang/invoke/MethodHandle" ∧ yX5_slope.cls ≠ "java/lang/invoke/VarHandle" ∧ (parseMethodDescriptor yX5_slope.desc).map (fun d => d.parameters.length) = some 1 := by decide +kernel
set_option maxRecDepth 20000 in
theorem imX5_slope : Cond.instanceMethod yX5_slope ∈ lw_tbl := lwc4 (List.mem_of_getElem? (i := 88) rfl)
set_option maxRecDepth 20000 in
theorem slX5_slope : Cond.selects yX5_slope.cls yX5_slope yX5_slope ∈ lw_tbl := lwc4 (List.mem_of_getElem? (i := 89) rfl)
set_option maxRecDepth 20000 in
theorem coX5_reduceBy : Cond.code yX5_reduceBy cX5_reduceBy 4 none ∈ lw_tbl := lwc3 (List.mem_of_getElem? (i := 188) rfl)
theorem pdX5_reduceBy : yX5_reduceBy.cls ≠ "java/lang/invoke/MethodHandle" ∧ yX5_reduceBy.cls ≠ "java/lang/invoke/VarHandle" ∧ (parseMethodDescriptor yX5_reduceBy.desc).map (fun d => d.parameters.length) = some 1 := by decide +kernel
set_option maxRecDepth 20000 in
theorem imX5_reduceBy : Cond.instanceMethod yX5_reduceBy ∈ lw_tbl := lwc3 (List.mem_of_getElem? (i := 186) rfl)
set_option maxRecDepth 20000 in
theorem slX5_reduceBy : Cond.selects yX5_reduceBy.cls yX5_reduceBy yX5_reduceBy ∈ lw_tbl := lwc3 (List.mem_of_getElem? (i := 187) rfl)
set_option maxRecDepth 20000 in
theorem coX5_quotient : Cond.code yX5_quotient cX5_quotient 6 none ∈ lw_tbl := lwc3 (List.mem_of_getElem? (i := 211) rfl)
theorem pdX5_quotient : yX5_quotient.cls ≠ "java/lang/invoke/MethodHandle" ∧ yX5_quotient.cls ≠ "java/lang/invoke/VarHandle" ∧ (parseMethodDescriptor yX5_quotient.desc).map (fun d => d.parameters.length) = some 2 := by decide +kernel
set_option maxRecDepth 20000 in
theorem imX5_quotient : Cond.instanceMethod yX5_quotient ∈ lw_tbl := lwc3 (List.mem_of_getElem? (i := 209) rfl)
set_option maxRecDepth 20000 in
theorem slX5_quotient : Cond.selects yX5_quotient.cls yX5_quotient yX5_quotient ∈ lw_tbl := lwc3 (List.mem_of_getElem? (i := 210) rfl)
set_option maxRecDepth 20000 in
theorem coX5_strike : Cond.code yX5_strike cX5_strike 7 (some FieldType.int) ∈ lw_tbl := lwc3 (List.mem_of_getElem? (i := 197) rfl)
theorem pdX5_strike : yX5_strike.cls ≠ "java/lang/invoke/MethodHandle" ∧ yX5_strike.cls ≠ "java/lang/invoke/VarHandle" ∧ (parseMethodDescriptor yX5_strike.desc).map (fun d => d.parameters.length) = some 3 := by decide +kernel
set_option maxRecDepth 20000 in
theorem imX5_strike : Cond.instanceMethod yX5_strike ∈ lw_tbl := lwc3 (List.mem_of_getElem? (i := 196) rfl)
set_option maxRecDepth 20000 in
theorem slX5_strike : Cond.selects yX5_strike.cls yX5_strike yX5_strike ∈ lw_tbl := lw_at 17 rfl
set_option maxRecDepth 20000 in
theorem coX5_valueAt : Cond.code yX5_valueAt cX5_valueAt 4 (some FieldType.int) ∈ lw_tbl := lwc5 (List.mem_of_getElem? (i := 32) rfl)
theorem pdX5_valueAt : yX5_valueAt.cls ≠ "java/lang/invoke/MethodHandle" ∧ yX5_valueAt.cls ≠ "java/lang/invoke/VarHandle" ∧ (parseMethodDescriptor yX5_valueAt.desc).map (fun d => d.parameters.length) = some 1 := by decide +kernel
set_option maxRecDepth 20000 in
theorem imX5_valueAt : Cond.instanceMethod yX5_valueAt ∈ lw_tbl := lwc5 (List.mem_of_getElem? (i := 30) rfl)
set_option maxRecDepth 20000 in
theorem slX5_valueAt : Cond.selects yX5_valueAt.cls yX5_valueAt yX5_valueAt ∈ lw_tbl := lwc5 (List.mem_of_getElem? (i := 31) rfl)
set_option maxRecDepth 20000 in
theorem coX6_init : Cond.code yX6_init cX6_init 3 none ∈ lw_tbl := lwc2 (List.mem_of_getElem? (i := 54) rfl)
theorem pdX6_init : yX6_init.cls ≠ "java/lang/invoke/MethodHandle" ∧ yX6_init.cls ≠ "java/lang/invoke/VarHandle" ∧ (parseMethodDescriptor yX6_init.desc).map (fun d => d.parameters.length) = some 1 := by decide +kernel
set_option maxRecDepth 20000 in
theorem imX6_init : Cond.instanceMethod yX6_init ∈ lw_tbl := lwc2 (List.mem_of_getElem? (i := 53) rfl)
set_option maxRecDepth 20000 in
theorem coX6_append : Cond.code yX6_append cX6_append 2 (some FieldType.boolean) ∈ lw_tbl := lwc3 (List.mem_of_getElem? (i := 89) rfl)
theorem pdX6_append : yX6_append.cls ≠ "java/lang/invoke/MethodHandle" ∧ yX6_append.cls ≠ "java/lang/invoke/VarHandle" ∧ (parseMethodDescriptor yX6_append.desc).map (fun d => d.parameters.length) = some 1 := by decide +kernel
set_option maxRecDepth 20000 in
theorem imX6_append : Cond.instanceMethod yX6_append ∈ lw_tbl := lwc3 (List.mem_of_getElem? (i := 87) rfl)
set_option maxRecDepth 20000 in
theorem slX6_append : Cond.selects yX6_append.cls yX6_append yX6_append ∈ lw_tbl := lwc3 (List.mem_of_getElem? (i := 88) rfl)
set_option maxRecDepth 20000 in
theorem coX6_empty : Cond.code yX6_empty cX6_empty 1 none ∈ lw_tbl := lwc3 (List.mem_of_getElem? (i := 236) rfl)
theorem pdX6_empty : yX6_empty.cls ≠ "java/lang/invoke/MethodHandle" ∧ yX6_empty.cls ≠ "java/lang/invoke/VarHandle" ∧ (parseMethodDescriptor yX6_empty.desc).map (fun d => d.parameters.length) = some 0 := by decide +kernel
set_option maxRecDepth 20000 in
theorem imX6_empty : Cond.instanceMethod yX6_empty ∈ lw_tbl := lwc3 (List.mem_of_getElem? (i := 234) rfl)
set_option maxRecDepth 20000 in
theorem slX6_empty : Cond.selects yX6_empty.cls yX6_empty yX6_empty ∈ lw_tbl := lwc3 (List.mem_of_getElem? (i := 235) rfl)
set_option maxRecDepth 20000 in
theorem coX6_compile : Cond.code yX6_compile cX6_compile 3 (some FieldType.int) ∈ lw_tbl := lwc3 (List.mem_of_getElem? (i := 97) rfl)
theorem pdX6_compile : yX6_compile.cls ≠ "java/lang/invoke/MethodHandle" ∧ yX6_compile.cls ≠ "java/lang/invoke/VarHandle" ∧ (parseMethodDescriptor yX6_compile.desc).map (fun d => d.parameters.length) = some 0 := by decide +kernel
set_option maxRecDepth 20000 in
theorem imX6_compile : Cond.instanceMethod yX6_compile ∈ lw_tbl := lwc3 (List.mem_of_getElem? (i := 95) rfl)
set_option maxRecDepth 20000 in
theorem slX6_compile : Cond.selects yX6_compile.cls yX6_compile yX6_compile ∈ lw_tbl := lwc3 (List.mem_of_getElem? (i := 96) rfl)
set_option maxRecDepth 20000 in
theorem coX6_step : Cond.code yX6_step cX6_step 3 (some FieldType.int) ∈ lw_tbl := lwc3 (List.mem_of_getElem? (i := 101) rfl)
theorem pdX6_step : yX6_step.cls ≠ "java/lang/invoke/MethodHandle" ∧ yX6_step.cls ≠ "java/lang/invoke/VarHandle" ∧ (parseMethodDescriptor yX6_step.desc).map (fun d => d.parameters.length) = some 2 := by decide +kernel
set_option maxRecDepth 20000 in
theorem imX6_step : Cond.instanceMethod yX6_step ∈ lw_tbl := lwc3 (List.mem_of_getElem? (i := 100) rfl)
set_option maxRecDepth 20000 in
theorem slX6_step : Cond.selects yX6_step.cls yX6_step yX6_step ∈ lw_tbl := lw_at 7 rfl
set_option maxRecDepth 20000 in
theorem coX6_operand : Cond.code yX6_operand cX6_operand 2 (some FieldType.int) ∈ lw_tbl := lwc3 (List.mem_of_getElem? (i := 105) rfl)
theorem pdX6_operand : yX6_operand.cls ≠ "java/lang/invoke/MethodHandle" ∧ yX6_operand.cls ≠ "java/lang/invoke/VarHandle" ∧ (parseMethodDescriptor yX6_operand.desc).map (fun d => d.parameters.length) = some 1 := by decide +kernel
set_option maxRecDepth 20000 in
theorem imX6_operand : Cond.instanceMethod yX6_operand ∈ lw_tbl := lwc3 (List.mem_of_getElem? (i := 104) rfl)
set_option maxRecDepth 20000 in
theorem slX6_operand : Cond.selects yX6_operand.cls yX6_operand yX6_operand ∈ lw_tbl := lw_at 8 rfl
set_option maxRecDepth 20000 in
theorem coX6_nextDigit : Cond.code yX6_nextDigit cX6_nextDigit 3 (some FieldType.int) ∈ lw_tbl := lwc3 (List.mem_of_getElem? (i := 120) rfl)
theorem pdX6_nextDigit : yX6_nextDigit.cls ≠ "java/lang/invoke/MethodHandle" ∧ yX6_nextDigit.cls ≠ "java/lang/invoke/VarHandle" ∧ (parseMethodDescriptor yX6_nextDigit.desc).map (fun d => d.parameters.length) = some 1 := by decide +kernel
set_option maxRecDepth 20000 in
theorem imX6_nextDigit : Cond.instanceMethod yX6_nextDigit ∈ lw_tbl := lwc3 (List.mem_of_getElem? (i := 119) rfl)
set_option maxRecDepth 20000 in
theorem slX6_nextDigit : Cond.selects yX6_nextDigit.cls yX6_nextDigit yX6_nextDigit ∈ lw_tbl := lw_at 11 rfl
set_option maxRecDepth 20000 in
theorem coX6_operation : Cond.code yX6_operation cX6_operation 3 (some FieldType.int) ∈ lw_tbl := lwc3 (List.mem_of_getElem? (i := 124) rfl)
theorem pdX6_operation : yX6_operation.cls ≠ "java/lang/invoke/MethodHandle" ∧ yX6_operation.cls ≠ "java/lang/invoke/VarHandle" ∧ (parseMethodDescriptor yX6_operation.desc).map (fun d => d.parameters.length) = some 1 := by decide +kernel
set_option maxRecDepth 20000 in
theorem imX6_operation : Cond.instanceMethod yX6_operation ∈ lw_tbl := lwc3 (List.mem_of_getElem? (i := 123) rfl)
set_option maxRecDepth 20000 in
theorem slX6_operation : Cond.selects yX6_operation.cls yX6_operation yX6_operation ∈ lw_tbl := lw_at 12 rfl
set_option maxRecDepth 20000 in
theorem coX6_isDigit : Cond.code yX6_isDigit cX6_isDigit 1 (some FieldType.boolean) ∈ lw_tbl := lwc3 (List.mem_of_getElem? (i := 108) rfl)
theorem pdX6_isDigit : yX6_isDigit.cls ≠ "java/lang/invoke/MethodHandle" ∧ yX6_isDigit.cls ≠ "java/lang/invoke/VarHandle" ∧ (parseMethodDescriptor yX6_isDigit.desc).map (fun d => d.parameters.length) = some 1 := by decide +kernel
set_option maxRecDepth 20000 in
theorem stX6_isDigit : Cond.static yX6_isDigit ∈ lw_tbl := lwc3 (List.mem_of_getElem? (i := 107) rfl)
set_option maxRecDepth 20000 in
theorem coX6_rank : Cond.code yX6_rank cX6_rank 1 (some FieldType.int) ∈ lw_tbl := lwc3 (List.mem_of_getElem? (i := 131) rfl)
theorem pdX6_rank : yX6_rank.cls ≠ "java/lang/invoke/MethodHandle" ∧ yX6_rank.cls ≠ "java/lang/invoke/VarHandle" ∧ (parseMethodDescriptor yX6_rank.desc).map (fun d => d.parameters.length) = some 1 := by decide +kernel
set_option maxRecDepth 20000 in
theorem stX6_rank : Cond.static yX6_rank ∈ lw_tbl := lwc3 (List.mem_of_getElem? (i := 130) rfl)
set_option maxRecDepth 20000 in
theorem coX6_hold : Cond.code yX6_hold cX6_hold 2 none ∈ lw_tbl := lwc3 (List.mem_of_getElem? (i := 116) rfl)
theorem pdX6_hold : yX6_hold.cls ≠ "java/lang/invoke/MethodHandle" ∧ yX6_hold.cls ≠ "java/lang/invoke/VarHandle" ∧ (parseMethodDescriptor yX6_hold.desc).map (fun d => d.parameters.length) = some 1 := by decide +kernel
set_option maxRecDepth 20000 in
theorem imX6_hold : Cond.instanceMethod yX6_hold ∈ lw_tbl := lwc3 (List.mem_of_getElem? (i := 115) rfl)
set_option maxRecDepth 20000 in
theorem slX6_hold : Cond.selects yX6_hold.cls yX6_hold yX6_hold ∈ lw_tbl := lw_at 10 rfl
set_option maxRecDepth 20000 in
theorem coX6_release : Cond.code yX6_release cX6_release 3 none ∈ lw_tbl := lwc3 (List.mem_of_getElem? (i := 128) rfl)
theorem pdX6_release : yX6_release.cls ≠ "java/lang/invoke/MethodHandle" ∧ yX6_release.cls ≠ "java/lang/invoke/VarHandle" ∧ (parseMethodDescriptor yX6_release.desc).map (fun d => d.parameters.length) = some 1 := by decide +kernel
set_option maxRecDepth 20000 in
theorem imX6_release : Cond.instanceMethod yX6_release ∈ lw_tbl := lwc3 (List.mem_of_getElem? (i := 127) rfl)
set_option maxRecDepth 20000 in
theorem slX6_release : Cond.selects yX6_release.cls yX6_release yX6_release ∈ lw_tbl := lw_at 13 rfl
set_option maxRecDepth 20000 in
theorem coX6_emit : Cond.code yX6_emit cX6_emit 2 none ∈ lw_tbl := lwc3 (List.mem_of_getElem? (i := 112) rfl)
theorem pdX6_emit : yX6_emit.cls ≠ "java/lang/invoke/MethodHandle" ∧ yX6_emit.cls ≠ "java/lang/invoke/VarHandle" ∧ (parseMethodDescriptor yX6_emit.desc).map (fun d => d.parameters.length) = some 1 := by decide +kernel
set_option maxRecDepth 20000 in
theorem imX6_emit : Cond.instanceMethod yX6_emit ∈ lw_tbl := lwc3 (List.mem_of_getElem? (i := 111) rfl)
set_option maxRecDepth 20000 in
theorem slX6_emit : Cond.selects yX6_emit.cls yX6_emit yX6_emit ∈ lw_tbl := lw_at 9 rfl
set_option maxRecDepth 20000 in
theorem coX6_evaluate : Cond.code yX6_evaluate cX6_evaluate 6 (some FieldType.int) ∈ lw_tbl := lwc3 (List.mem_of_getElem? (i := 135) rfl)
theorem pdX6_evaluate : yX6_evaluate.cls ≠ "java/lang/invoke/MethodHandle" ∧ yX6_evaluate.cls ≠ "java/lang/invoke/VarHandle" ∧ (parseMethodDescriptor yX6_evaluate.desc).map (fun d => d.parameters.length) = some 1 := by decide +kernel
set_option maxRecDepth 20000 in
theorem imX6_evaluate : Cond.instanceMethod yX6_evaluate ∈ lw_tbl := lwc3 (List.mem_of_getElem? (i := 133) rfl)
set_option maxRecDepth 20000 in
theorem slX6_evaluate : Cond.selects yX6_evaluate.cls yX6_evaluate yX6_evaluate ∈ lw_tbl := lwc3 (List.mem_of_getElem? (i := 134) rfl)
set_option maxRecDepth 20000 in
theorem coX6_next : Cond.code yX6_next cX6_next 1 (some (FieldType.object "FiniteTerms$Frac")) ∈ lw_tbl := lwc3 (List.mem_of_getElem? (i := 139) rfl)
theorem pdX6_next : yX6_next.cls ≠ "java/lang/invoke/MethodHandle" ∧ yX6_next.cls ≠ "java/lang/invoke/VarHandle" ∧ (parseMethodDescriptor yX6_next.desc).map (fun d => d.parameters.length) = some 0 := by decide +kernel
set_option maxRecDepth 20000 in
theorem imX6_next : Cond.instanceMethod yX6_next ∈ lw_tbl := lwc3 (List.mem_of_getElem? (i := 138) rfl)
set_option maxRecDepth 20000 in
theorem slX6_next : Cond.selects yX6_next.cls yX6_next yX6_next ∈ lw_tbl := lw_at 14 rfl
set_option maxRecDepth 20000 in
theorem coX6_valueFromTop : Cond.code yX6_valueFromTop cX6_valueFromTop 3 (some (FieldType.object "FiniteTerms$Frac")) ∈ lw_tbl := lwc3 (List.mem_of_getElem? (i := 143) rfl)
theorem pdX6_valueFromTop : yX6_valueFromTop.cls ≠ "java/lang/invoke/MethodHandle" ∧ yX6_valueFromTop.cls ≠ "java/lang/invoke/VarHandle" ∧ (parseMethodDescriptor yX6_valueFromTop.desc).map (fun d => d.parameters.length) = some 1 := by decide +kernel
set_option maxRecDepth 20000 in
theorem imX6_valueFromTop : Cond.instanceMethod yX6_valueFromTop ∈ lw_tbl := lwc3 (List.mem_of_getElem? (i := 142) rfl)
set_option maxRecDepth 20000 in
theorem slX6_valueFromTop : Cond.selects yX6_valueFromTop.cls yX6_valueFromTop yX6_valueFromTop ∈ lw_tbl := lw_at 15 rfl
set_option maxRecDepth 20000 in
theorem coX6_operate : Cond.code yX6_operate cX6_operate 4 (some FieldType.int) ∈ lw_tbl := lwc3 (List.mem_of_getElem? (i := 149) rfl)
theorem pdX6_operate : yX6_operate.cls ≠ "java/lang/invoke/MethodHandle" ∧ yX6_operate.cls ≠ "java/lang/invoke/VarHandle" ∧ (parseMethodDescriptor yX6_operate.desc).map (fun d => d.parameters.length) = some 1 := by decide +kernel
set_option maxRecDepth 20000 in
theorem imX6_operate : Cond.instanceMethod yX6_operate ∈ lw_tbl := lwc3 (List.mem_of_getElem? (i := 148) rfl)
set_option maxRecDepth 20000 in
theorem slX6_operate : Cond.selects yX6_operate.cls yX6_operate yX6_operate ∈ lw_tbl := lw_at 16 rfl
set_option maxRecDepth 20000 in
theorem coX6_raise : Cond.code yX6_raise cX6_raise 4 (some FieldType.int) ∈ lw_tbl := lwc3 (List.mem_of_getElem? (i := 227) rfl)
theorem pdX6_raise : yX6_raise.cls ≠ "java/lang/invoke/MethodHandle" ∧ yX6_raise.cls ≠ "java/lang/invoke/VarHandle" ∧ (parseMethodDescriptor yX6_raise.desc).map (fun d => d.parameters.length) = some 1 := by decide +kernel
set_option maxRecDepth 20000 in
theorem imX6_raise : Cond.instanceMethod yX6_raise ∈ lw_tbl := lwc3 (List.mem_of_getElem? (i := 226) rfl)
set_option maxRecDepth 20000 in
theorem slX6_raise : Cond.selects yX6_raise.cls yX6_raise yX6_raise ∈ lw_tbl := lw_at 18 rfl
set_option maxRecDepth 20000 in
theorem coX7_init : Cond.code yX7_init cX7_init 2 none ∈ lw_tbl := lwc2 (List.mem_of_getElem? (i := 14) rfl)
theorem pdX7_init : yX7_init.cls ≠ "java/lang/invoke/MethodHandle" ∧ yX7_init.cls ≠ "java/lang/invoke/VarHandle" ∧ (parseMethodDescriptor yX7_init.desc).map (fun d => d.parameters.length) = some 1 := by decide +kernel
set_option maxRecDepth 20000 in
theorem imX7_init : Cond.instanceMethod yX7_init ∈ lw_tbl := lwc2 (List.mem_of_getElem? (i := 13) rfl)
set_option maxRecDepth 20000 in
theorem coX7_compute : Cond.code yX7_compute cX7_compute 3 none ∈ lw_tbl := lwc5 (List.mem_of_getElem? (i := 1) rfl)
theorem pdX7_compute : yX7_compute.cls ≠ "java/lang/invoke/MethodHandle" ∧ yX7_compute.cls ≠ "java/lang/invoke/VarHandle" ∧ (parseMethodDescriptor yX7_compute.desc).map (fun d => d.parameters.length) = some 1 := by decide +kernel
set_option maxRecDepth 20000 in
theorem imX7_compute : Cond.instanceMethod yX7_compute ∈ lw_tbl := lwc4 (List.mem_of_getElem? (i := 239) rfl)
set_option maxRecDepth 20000 in
theorem slX7_compute : Cond.selects yX7_compute.cls yX7_compute yX7_compute ∈ lw_tbl := lwc5 (List.mem_of_getElem? (i := 0) rfl)
set_option maxRecDepth 20000 in
theorem coX7_trace : Cond.code yX7_trace cX7_trace 3 (some FieldType.int) ∈ lw_tbl := lwc5 (List.mem_of_getElem? (i := 12) rfl)
theorem pdX7_trace : yX7_trace.cls ≠ "java/lang/invoke/MethodHandle" ∧ yX7_trace.cls ≠ "java/lang/invoke/VarHandle" ∧ (parseMethodDescriptor yX7_trace.desc).map (fun d => d.parameters.length) = some 0 := by decide +kernel
set_option maxRecDepth 20000 in
theorem imX7_trace : Cond.instanceMethod yX7_trace ∈ lw_tbl := lwc5 (List.mem_of_getElem? (i := 11) rfl)
set_option maxRecDepth 20000 in
theorem slX7_trace : Cond.selects yX7_trace.cls yX7_trace yX7_trace ∈ lw_tbl := lw_at 33 rfl
set_option maxRecDepth 20000 in
theorem coX7_raise : Cond.code yX7_raise cX7_raise 1 none ∈ lw_tbl := lwc5 (List.mem_of_getElem? (i := 17) rfl)
theorem pdX7_raise : yX7_raise.cls ≠ "java/lang/invoke/MethodHandle" ∧ yX7_raise.cls ≠ "java/lang/invoke/VarHandle" ∧ (parseMethodDescriptor yX7_raise.desc).map (fun d => d.parameters.length) = some 0 := by decide +kernel
set_option maxRecDepth 20000 in
theorem imX7_raise : Cond.instanceMethod yX7_raise ∈ lw_tbl := lwc5 (List.mem_of_getElem? (i := 16) rfl)
set_option maxRecDepth 20000 in
theorem slX7_raise : Cond.selects yX7_raise.cls yX7_raise yX7_raise ∈ lw_tbl := lw_at 34 rfl
set_option maxRecDepth 20000 in
theorem coX7_applyNewton : Cond.code yX7_applyNewton cX7_applyNewton 5 none ∈ lw_tbl := lwc5 (List.mem_of_getElem? (i := 23) rfl)
theorem pdX7_applyNewton : yX7_applyNewton.cls ≠ "java/lang/invoke/MethodHandle" ∧ yX7_applyNewton.cls ≠ "java/lang/invoke/VarHandle" ∧ (parseMethodDescriptor yX7_applyNewton.desc).map (fun d => d.parameters.length) = some 0 := by decide +kernel
set_option maxRecDepth 20000 in
theorem imX7_applyNewton : Cond.instanceMethod yX7_applyNewton ∈ lw_tbl := lwc5 (List.mem_of_getElem? (i := 22) rfl)
set_option maxRecDepth 20000 in
theorem slX7_applyNewton : Cond.selects yX7_applyNewton.cls yX7_applyNewton yX7_applyNewton ∈ lw_tbl := lw_at 35 rfl
set_option maxRecDepth 20000 in
theorem coX7_logarithms : Cond.code yX7_logarithms cX7_logarithms 3 (some FieldType.int) ∈ lw_tbl := lwc5 (List.mem_of_getElem? (i := 28) rfl)
theorem pdX7_logarithms : yX7_logarithms.cls ≠ "java/lang/invoke/MethodHandle" ∧ yX7_logarithms.cls ≠ "java/lang/invoke/VarHandle" ∧ (parseMethodDescriptor yX7_logarithms.desc).map (fun d => d.parameters.length) = some 0 := by decide +kernel
set_option maxRecDepth 20000 in
theorem imX7_logarithms : Cond.instanceMethod yX7_logarithms ∈ lw_tbl := lwc5 (List.mem_of_getElem? (i := 26) rfl)
set_option maxRecDepth 20000 in
theorem slX7_logarithms : Cond.selects yX7_logarithms.cls yX7_logarithms yX7_logarithms ∈ lw_tbl := lwc5 (List.mem_of_getElem? (i := 27) rfl)
set_option maxRecDepth 20000 in
theorem coX7_number : Cond.code yX7_number cX7_number 4 (some FieldType.int) ∈ lw_tbl := lwc5 (List.mem_of_getElem? (i := 62) rfl)
theorem pdX7_number : yX7_number.cls ≠ "java/lang/invoke/MethodHandle" ∧ yX7_number.cls ≠ "java/lang/invoke/VarHandle" ∧ (parseMethodDescriptor yX7_number.desc).map (fun d => d.parameters.length) = some 1 := by decide +kernel
set_option maxRecDepth 20000 in
theorem imX7_number : Cond.instanceMethod yX7_number ∈ lw_tbl := lwc5 (List.mem_of_getElem? (i := 60) rfl)
set_option maxRecDepth 20000 in
theorem slX7_number : Cond.selects yX7_number.cls yX7_number yX7_number ∈ lw_tbl := lwc5 (List.mem_of_getElem? (i := 61) rfl)
set_option maxRecDepth 20000 in
theorem coX7_argument : Cond.code yX7_argument cX7_argument 3 none ∈ lw_tbl := lwc5 (List.mem_of_getElem? (i := 40) rfl)
theorem pdX7_argument : yX7_argument.cls ≠ "java/lang/invoke/MethodHandle" ∧ yX7_argument.cls ≠ "java/lang/invoke/VarHandle" ∧ (parseMethodDescriptor yX7_argument.desc).map (fun d => d.parameters.length) = some 2 := by decide +kernel
set_option maxRecDepth 20000 in
theorem imX7_argument : Cond.instanceMethod yX7_argument ∈ lw_tbl := lwc5 (List.mem_of_getElem? (i := 38) rfl)
set_option maxRecDepth 20000 in
theorem slX7_argument : Cond.selects yX7_argument.cls yX7_argument yX7_argument ∈ lw_tbl := lwc5 (List.mem_of_getElem? (i := 39) rfl)
set_option maxRecDepth 20000 in
theorem coX7_openDegree : Cond.code yX7_openDegree cX7_openDegree 3 (some FieldType.int) ∈ lw_tbl := lwc5 (List.mem_of_getElem? (i := 36) rfl)
theorem pdX7_openDegree : yX7_openDegree.cls ≠ "java/lang/invoke/MethodHandle" ∧ yX7_openDegree.cls ≠ "java/lang/invoke/VarHandle" ∧ (parseMethodDescriptor yX7_openDegree.desc).map (fun d => d.parameters.length) = some 0 := by decide +kernel
set_option maxRecDepth 20000 in
theorem imX7_openDegree : Cond.instanceMethod yX7_openDegree ∈ lw_tbl := lwc5 (List.mem_of_getElem? (i := 34) rfl)
set_option maxRecDepth 20000 in
theorem slX7_openDegree : Cond.selects yX7_openDegree.cls yX7_openDegree yX7_openDegree ∈ lw_tbl := lwc5 (List.mem_of_getElem? (i := 35) rfl)
set_option maxRecDepth 20000 in
theorem coX8_init : Cond.code yX8_init cX8_init 1 none ∈ lw_tbl := lwc2 (List.mem_of_getElem? (i := 117) rfl)
theorem pdX8_init : yX8_init.cls ≠ "java/lang/invoke/MethodHandle" ∧ yX8_init.cls ≠ "java/lang/invoke/VarHandle" ∧ (parseMethodDescriptor yX8_init.desc).map (fun d => d.parameters.length) = some 0 := by decide +kernel
set_option maxRecDepth 20000 in
theorem imX8_init : Cond.instanceMethod yX8_init ∈ lw_tbl := lwc2 (List.mem_of_getElem? (i := 116) rfl)
set_option maxRecDepth 20000 in
theorem coX8_isMissing : Cond.code yX8_isMissing cX8_isMissing 1 (some FieldType.boolean) ∈ lw_tbl := lwc5 (List.mem_of_getElem? (i := 108) rfl)
theorem pdX8_isMissing : yX8_isMissing.cls ≠ "java/lang/invoke/MethodHandle" ∧ yX8_isMissing.cls ≠ "java/lang/invoke/VarHandle" ∧ (parseMethodDescriptor yX8_isMissing.desc).map (fun d => d.parameters.length) = some 0 := by decide +kernel
set_option maxRecDepth 20000 in
theorem imX8_isMissing : Cond.instanceMethod yX8_isMissing ∈ lw_tbl := lwc5 (List.mem_of_getElem? (i := 106) rfl)
set_option maxRecDepth 20000 in
theorem slX8_isMissing : Cond.selects yX8_isMissing.cls yX8_isMissing yX8_isMissing ∈ lw_tbl := lwc5 (List.mem_of_getElem? (i := 107) rfl)
set_option maxRecDepth 20000 in
theorem coX8_create : Cond.code yX8_create cX8_create 3 none ∈ lw_tbl := lwc5 (List.mem_of_getElem? (i := 141) rfl)
theorem pdX8_create : yX8_create.cls ≠ "java/lang/invoke/MethodHandle" ∧ yX8_create.cls ≠ "java/lang/invoke/VarHandle" ∧ (parseMethodDescriptor yX8_create.desc).map (fun d => d.parameters.length) = some 2 := by decide +kernel
set_option maxRecDepth 20000 in
theorem imX8_create : Cond.instanceMethod yX8_create ∈ lw_tbl := lwc5 (List.mem_of_getElem? (i := 139) rfl)
set_option maxRecDepth 20000 in
theorem slX8_create : Cond.selects yX8_create.cls yX8_create yX8_create ∈ lw_tbl := lwc5 (List.mem_of_getElem? (i := 140) rfl)
set_option maxRecDepth 20000 in
theorem coX8_covers : Cond.code yX8_covers cX8_covers 3 (some FieldType.boolean) ∈ lw_tbl := lwc5 (List.mem_of_getElem? (i := 112) rfl)
theorem pdX8_covers : yX8_covers.cls ≠ "java/lang/invoke/MethodHandle" ∧ yX8_covers.cls ≠ "java/lang/invoke/VarHandle" ∧ (parseMethodDescriptor yX8_covers.desc).map (fun d => d.parameters.length) = some 2 := by decide +kernel
set_option maxRecDepth 20000 in
theorem imX8_covers : Cond.instanceMethod yX8_covers ∈ lw_tbl := lwc5 (List.mem_of_getElem? (i := 110) rfl)
set_option maxRecDepth 20000 in
theorem slX8_covers : Cond.selects yX8_covers.cls yX8_covers yX8_covers ∈ lw_tbl := lwc5 (List.mem_of_getElem? (i := 111) rfl)
set_option maxRecDepth 20000 in
theorem coX8_refusal : Cond.code yX8_refusal cX8_refusal 4 (some FieldType.int) ∈ lw_tbl := lwc5 (List.mem_of_getElem? (i := 104) rfl)
theorem pdX8_refusal : yX8_refusal.cls ≠ "java/lang/invoke/MethodHandle" ∧ yX8_refusal.cls ≠ "java/lang/invoke/VarHandle" ∧ (parseMethodDescriptor yX8_refusal.desc).map (fun d => d.parameters.length) = some 3 := by decide +kernel
set_option maxRecDepth 20000 in
theorem imX8_refusal : Cond.instanceMethod yX8_refusal ∈ lw_tbl := lwc5 (List.mem_of_getElem? (i := 102) rfl)
set_option maxRecDepth 20000 in
theorem slX8_refusal : Cond.selects yX8_refusal.cls yX8_refusal yX8_refusal ∈ lw_tbl := lwc5 (List.mem_of_getElem? (i := 103) rfl)
set_option maxRecDepth 20000 in
theorem coX8_holdsNumbers : Cond.code yX8_holdsNumbers cX8_holdsNumbers 4 (some FieldType.boolean) ∈ lw_tbl := lwc5 (List.mem_of_getElem? (i := 116) rfl)
theorem pdX8_holdsNumbers : yX8_holdsNumbers.cls ≠ "java/lang/invoke/MethodHandle" ∧ yX8_holdsNumbers.cls ≠ "java/lang/invoke/VarHandle" ∧ (parseMethodDescriptor yX8_holdsNumbers.desc).map (fun d => d.parameters.length) = some 2 := by decide +kernel
set_option maxRecDepth 20000 in
theorem imX8_holdsNumbers : Cond.instanceMethod yX8_holdsNumbers ∈ lw_tbl := lwc5 (List.mem_of_getElem? (i := 114) rfl)
set_option maxRecDepth 20000 in
theorem slX8_holdsNumbers : Cond.selects yX8_holdsNumbers.cls yX8_holdsNumbers yX8_holdsNumbers ∈ lw_tbl := lwc5 (List.mem_of_getElem? (i := 115) rfl)
set_option maxRecDepth 20000 in
theorem coX8_number : Cond.code yX8_number cX8_number 2 (some FieldType.int) ∈ lw_tbl := lwc5 (List.mem_of_getElem? (i := 121) rfl)
theorem pdX8_number : yX8_number.cls ≠ "java/lang/invoke/MethodHandle" ∧ yX8_number.cls ≠ "java/lang/invoke/VarHandle" ∧ (parseMethodDescriptor yX8_number.desc).map (fun d => d.parameters.length) = some 1 := by decide +kernel
set_option maxRecDepth 20000 in
theorem imX8_number : Cond.instanceMethod yX8_number ∈ lw_tbl := lwc5 (List.mem_of_getElem? (i := 119) rfl)
set_option maxRecDepth 20000 in
theorem slX8_number : Cond.selects yX8_number.cls yX8_number yX8_number ∈ lw_tbl := lwc5 (List.mem_of_getElem? (i := 120) rfl)
set_option maxRecDepth 20000 in
theorem coX8_set : Cond.code yX8_set cX8_set 4 none ∈ lw_tbl := lwc5 (List.mem_of_getElem? (i := 133) rfl)
theorem pdX8_set : yX8_set.cls ≠ "java/lang/invoke/MethodHandle" ∧ yX8_set.cls ≠ "java/lang/invoke/VarHandle" ∧ (parseMethodDescriptor yX8_set.desc).map (fun d => d.parameters.length) = some 2 := by decide +kernel
set_option maxRecDepth 20000 in
theorem imX8_set : Cond.instanceMethod yX8_set ∈ lw_tbl := lwc5 (List.mem_of_getElem? (i := 131) rfl)
set_option maxRecDepth 20000 in
theorem slX8_set : Cond.selects yX8_set.cls yX8_set yX8_set ∈ lw_tbl := lwc5 (List.mem_of_getElem? (i := 132) rfl)
set_option maxRecDepth 20000 in
theorem coX9_init : Cond.code yX9_init cX9_init 2 none ∈ lw_tbl := lwc1 (List.mem_of_getElem? (i := 127) rfl)
theorem pdX9_init : yX9_init.cls ≠ "java/lang/invoke/MethodHandle" ∧ yX9_init.cls ≠ "java/lang/invoke/VarHandle" ∧ (parseMethodDescriptor yX9_init.desc).map (fun d => d.parameters.length) = some 1 := by decide +kernel
set_option maxRecDepth 20000 in
theorem imX9_init : Cond.instanceMethod yX9_init ∈ lw_tbl := lwc1 (List.mem_of_getElem? (i := 126) rfl)
set_option maxRecDepth 20000 in
theorem coX9_factorsOf : Cond.code yX9_factorsOf cX9_factorsOf 5 none ∈ lw_tbl := lwc4 (List.mem_of_getElem? (i := 146) rfl)
theorem pdX9_factorsOf : yX9_factorsOf.cls ≠ "java/lang/invoke/MethodHandle" ∧ yX9_factorsOf.cls ≠ "java/lang/invoke/VarHandle" ∧ (parseMethodDescriptor yX9_factorsOf.desc).map (fun d => d.parameters.length) = some 3 := by decide +kernel
set_option maxRecDepth 20000 in
theorem imX9_factorsOf : Cond.instanceMethod yX9_factorsOf ∈ lw_tbl := lwc4 (List.mem_of_getElem? (i := 144) rfl)
set_option maxRecDepth 20000 in
theorem slX9_factorsOf : Cond.selects yX9_factorsOf.cls yX9_factorsOf yX9_factorsOf ∈ lw_tbl := lwc4 (List.mem_of_getElem? (i := 145) rfl)
set_option maxRecDepth 20000 in
theorem coX9_thin : Cond.code yX9_thin cX9_thin 3 none ∈ lw_tbl := lwc4 (List.mem_of_getElem? (i := 151) rfl)
theorem pdX9_thin : yX9_thin.cls ≠ "java/lang/invoke/MethodHandle" ∧ yX9_thin.cls ≠ "java/lang/invoke/VarHandle" ∧ (parseMethodDescriptor yX9_thin.desc).map (fun d => d.parameters.length) = some 2 := by decide +kernel
set_option maxRecDepth 20000 in
theorem imX9_thin : Cond.instanceMethod yX9_thin ∈ lw_tbl := lwc4 (List.mem_of_getElem? (i := 150) rfl)
set_option maxRecDepth 20000 in
theorem slX9_thin : Cond.selects yX9_thin.cls yX9_thin yX9_thin ∈ lw_tbl := lw_at 26 rfl
set_option maxRecDepth 20000 in
theorem coX9_run : Cond.code yX9_run cX9_run 7 none ∈ lw_tbl := lwc4 (List.mem_of_getElem? (i := 164) rfl)
theorem pdX9_run : yX9_run.cls ≠ "java/lang/invoke/MethodHandle" ∧ yX9_run.cls ≠ "java/lang/invoke/VarHandle" ∧ (parseMethodDescriptor yX9_run.desc).map (fun d => d.parameters.length) = some 4 := by decide +kernel
set_option maxRecDepth 20000 in
theorem imX9_run : Cond.instanceMethod yX9_run ∈ lw_tbl := lwc4 (List.mem_of_getElem? (i := 162) rfl)
set_option maxRecDepth 20000 in
theorem slX9_run : Cond.selects yX9_run.cls yX9_run yX9_run ∈ lw_tbl := lwc4 (List.mem_of_getElem? (i := 163) rfl)
set_option maxRecDepth 20000 in
theorem coX9_highest : Cond.code yX9_highest cX9_highest 3 (some FieldType.int) ∈ lw_tbl := lwc4 (List.mem_of_getElem? (i := 170) rfl)
theorem pdX9_highest : yX9_highest.cls ≠ "java/lang/invoke/MethodHandle" ∧ yX9_highest.cls ≠ "java/lang/invoke/VarHandle" ∧ (parseMethodDescriptor yX9_highest.desc).map (fun d => d.parameters.length) = some 1 := by decide +kernel
set_option maxRecDepth 20000 in
theorem imX9_highest : Cond.instanceMethod yX9_highest ∈ lw_tbl := lwc4 (List.mem_of_getElem? (i := 169) rfl)
set_option maxRecDepth 20000 in
theorem slX9_highest : Cond.selects yX9_highest.cls yX9_highest yX9_highest ∈ lw_tbl := lw_at 27 rfl
set_option maxRecDepth 20000 in
theorem coX9_lower : Cond.code yX9_lower cX9_lower 5 none ∈ lw_tbl := lwc4 (List.mem_of_getElem? (i := 174) rfl)
theorem pdX9_lower : yX9_lower.cls ≠ "java/lang/invoke/MethodHandle" ∧ yX9_lower.cls ≠ "java/lang/invoke/VarHandle" ∧ (parseMethodDescriptor yX9_lower.desc).map (fun d => d.parameters.length) = some 4 := by decide +kernel
set_option maxRecDepth 20000 in
theorem imX9_lower : Cond.instanceMethod yX9_lower ∈ lw_tbl := lwc4 (List.mem_of_getElem? (i := 173) rfl)
set_option maxRecDepth 20000 in
theorem slX9_lower : Cond.selects yX9_lower.cls yX9_lower yX9_lower ∈ lw_tbl := lw_at 28 rfl
set_option maxRecDepth 20000 in
theorem coX9_moveWhole : Cond.code yX9_moveWhole cX9_moveWhole 7 none ∈ lw_tbl := lwc4 (List.mem_of_getElem? (i := 194) rfl)
theorem pdX9_moveWhole : yX9_moveWhole.cls ≠ "java/lang/invoke/MethodHandle" ∧ yX9_moveWhole.cls ≠ "java/lang/invoke/VarHandle" ∧ (parseMethodDescriptor yX9_moveWhole.desc).map (fun d => d.parameters.length) = some 3 := by decide +kernel
set_option maxRecDepth 20000 in
theorem imX9_moveWhole : Cond.instanceMethod yX9_moveWhole ∈ lw_tbl := lwc4 (List.mem_of_getElem? (i := 193) rfl)
set_option maxRecDepth 20000 in
theorem slX9_moveWhole : Cond.selects yX9_moveWhole.cls yX9_moveWhole yX9_moveWhole ∈ lw_tbl := lw_at 30 rfl
set_option maxRecDepth 20000 in
theorem coX10_init : Cond.code yX10_init cX10_init 1 none ∈ lw_tbl := lwc2 (List.mem_of_getElem? (i := 100) rfl)
theorem pdX10_init : yX10_init.cls ≠ "java/lang/invoke/MethodHandle" ∧ yX10_init.cls ≠ "java/lang/invoke/VarHandle" ∧ (parseMethodDescriptor yX10_init.desc).map (fun d => d.parameters.length) = some 0 := by decide +kernel
set_option maxRecDepth 20000 in
theorem imX10_init : Cond.instanceMethod yX10_init ∈ lw_tbl := lwc2 (List.mem_of_getElem? (i := 99) rfl)
set_option maxRecDepth 20000 in
theorem coX10_sign : Cond.code yX10_sign cX10_sign 2 (some FieldType.int) ∈ lw_tbl := lwc3 (List.mem_of_getElem? (i := 27) rfl)
theorem pdX10_sign : yX10_sign.cls ≠ "java/lang/invoke/MethodHandle" ∧ yX10_sign.cls ≠ "java/lang/invoke/VarHandle" ∧ (parseMethodDescriptor yX10_sign.desc).map (fun d => d.parameters.length) = some 1 := by decide +kernel
set_option maxRecDepth 20000 in
theorem imX10_sign : Cond.instanceMethod yX10_sign ∈ lw_tbl := lwc3 (List.mem_of_getElem? (i := 25) rfl)
set_option maxRecDepth 20000 in
theorem slX10_sign : Cond.selects yX10_sign.cls yX10_sign yX10_sign ∈ lw_tbl := lwc3 (List.mem_of_getElem? (i := 26) rfl)
set_option maxRecDepth 20000 in
theorem coX10_writeFraction : Cond.code yX10_writeFraction cX10_writeFraction 3 none ∈ lw_tbl := lwc3 (List.mem_of_getElem? (i := 3) rfl)
theorem pdX10_writeFraction : yX10_writeFraction.cls ≠ "java/lang/invoke/MethodHandle" ∧ yX10_writeFraction.cls ≠ "java/lang/invoke/VarHandle" ∧ (parseMethodDescriptor yX10_writeFraction.desc).map (fun d => d.parameters.length) = some 1 := by decide +kernel
set_option maxRecDepth 20000 in
theorem imX10_writeFraction : Cond.instanceMethod yX10_writeFraction ∈ lw_tbl := lwc3 (List.mem_of_getElem? (i := 1) rfl)
set_option maxRecDepth 20000 in
theorem slX10_writeFraction : Cond.selects yX10_writeFraction.cls yX10_writeFraction yX10_writeFraction ∈ lw_tbl := lwc3 (List.mem_of_getElem? (i := 2) rfl)
set_option maxRecDepth 20000 in
theorem coX10_writePoly : Cond.code yX10_writePoly cX10_writePoly 4 none ∈ lw_tbl := lwc3 (List.mem_of_getElem? (i := 11) rfl)
theorem pdX10_writePoly : yX10_writePoly.cls ≠ "java/lang/invoke/MethodHandle" ∧ yX10_writePoly.cls ≠ "java/lang/invoke/VarHandle" ∧ (parseMethodDescriptor yX10_writePoly.desc).map (fun d => d.parameters.length) = some 1 := by decide +kernel
set_option maxRecDepth 20000 in
theorem imX10_writePoly : Cond.instanceMethod yX10_writePoly ∈ lw_tbl := lwc3 (List.mem_of_getElem? (i := 10) rfl)
set_option maxRecDepth 20000 in
theorem slX10_writePoly : Cond.selects yX10_writePoly.cls yX10_writePoly yX10_writePoly ∈ lw_tbl := lw_at 1 rfl
set_option maxRecDepth 20000 in
theorem coX10_writeTerm : Cond.code yX10_writeTerm cX10_writeTerm 3 none ∈ lw_tbl := lwc3 (List.mem_of_getElem? (i := 19) rfl)
theorem pdX10_writeTerm : yX10_writeTerm.cls ≠ "java/lang/invoke/MethodHandle" ∧ yX10_writeTerm.cls ≠ "java/lang/invoke/VarHandle" ∧ (parseMethodDescriptor yX10_writeTerm.desc).map (fun d => d.parameters.length) = some 2 := by decide +kernel
set_option maxRecDepth 20000 in
theorem imX10_writeTerm : Cond.instanceMethod yX10_writeTerm ∈ lw_tbl := lwc3 (List.mem_of_getElem? (i := 18) rfl)
set_option maxRecDepth 20000 in
theorem slX10_writeTerm : Cond.selects yX10_writeTerm.cls yX10_writeTerm yX10_writeTerm ∈ lw_tbl := lw_at 2 rfl
set_option maxRecDepth 20000 in
theorem coX10_writeNumber : Cond.code yX10_writeNumber cX10_writeNumber 2 none ∈ lw_tbl := lwc3 (List.mem_of_getElem? (i := 23) rfl)
theorem pdX10_writeNumber : yX10_writeNumber.cls ≠ "java/lang/invoke/MethodHandle" ∧ yX10_writeNumber.cls ≠ "java/lang/invoke/VarHandle" ∧ (parseMethodDescriptor yX10_writeNumber.desc).map (fun d => d.parameters.length) = some 1 := by decide +kernel
set_option maxRecDepth 20000 in
theorem imX10_writeNumber : Cond.instanceMethod yX10_writeNumber ∈ lw_tbl := lwc3 (List.mem_of_getElem? (i := 22) rfl)
set_option maxRecDepth 20000 in
theorem slX10_writeNumber : Cond.selects yX10_writeNumber.cls yX10_writeNumber yX10_writeNumber ∈ lw_tbl := lw_at 3 rfl
set_option maxRecDepth 20000 in
theorem coX10_add : Cond.code yX10_add cX10_add 2 none ∈ lw_tbl := lwc3 (List.mem_of_getElem? (i := 7) rfl)
theorem pdX10_add : yX10_add.cls ≠ "java/lang/invoke/MethodHandle" ∧ yX10_add.cls ≠ "java/lang/invoke/VarHandle" ∧ (parseMethodDescriptor yX10_add.desc).map (fun d => d.parameters.length) = some 1 := by decide +kernel
set_option maxRecDepth 20000 in
theorem imX10_add : Cond.instanceMethod yX10_add ∈ lw_tbl := lwc3 (List.mem_of_getElem? (i := 6) rfl)
set_option maxRecDepth 20000 in
theorem slX10_add : Cond.selects yX10_add.cls yX10_add yX10_add ∈ lw_tbl := lw_at 0 rfl
set_option maxRecDepth 20000 in
theorem coX11_init : Cond.code yX11_init cX11_init 2 none ∈ lw_tbl := lwc1 (List.mem_of_getElem? (i := 22) rfl)
theorem pdX11_init : yX11_init.cls ≠ "java/lang/invoke/MethodHandle" ∧ yX11_init.cls ≠ "java/lang/invoke/VarHandle" ∧ (parseMethodDescriptor yX11_init.desc).map (fun d => d.parameters.length) = some 0 := by decide +kernel
set_option maxRecDepth 20000 in
theorem imX11_init : Cond.instanceMethod yX11_init ∈ lw_tbl := lwc1 (List.mem_of_getElem? (i := 21) rfl)
set_option maxRecDepth 20000 in
theorem coX11_coef : Cond.code yX11_coef cX11_coef 7 (some FieldType.int) ∈ lw_tbl := lwc2 (List.mem_of_getElem? (i := 191) rfl)
theorem pdX11_coef : yX11_coef.cls ≠ "java/lang/invoke/MethodHandle" ∧ yX11_coef.cls ≠ "java/lang/invoke/VarHandle" ∧ (parseMethodDescriptor yX11_coef.desc).map (fun d => d.parameters.length) = some 4 := by decide +kernel
set_option maxRecDepth 20000 in
theorem imX11_coef : Cond.instanceMethod yX11_coef ∈ lw_tbl := lwc2 (List.mem_of_getElem? (i := 189) rfl)
set_option maxRecDepth 20000 in
theorem slX11_coef : Cond.selects yX11_coef.cls yX11_coef yX11_coef ∈ lw_tbl := lwc2 (List.mem_of_getElem? (i := 190) rfl)
set_option maxRecDepth 20000 in
theorem coX11_letter : Cond.code yX11_letter cX11_letter 6 (some FieldType.int) ∈ lw_tbl := lwc2 (List.mem_of_getElem? (i := 211) rfl)
theorem pdX11_letter : yX11_letter.cls ≠ "java/lang/invoke/MethodHandle" ∧ yX11_letter.cls ≠ "java/lang/invoke/VarHandle" ∧ (parseMethodDescriptor yX11_letter.desc).map (fun d => d.parameters.length) = some 3 := by decide +kernel
set_option maxRecDepth 20000 in
theorem imX11_letter : Cond.instanceMethod yX11_letter ∈ lw_tbl := lwc2 (List.mem_of_getElem? (i := 209) rfl)
set_option maxRecDepth 20000 in
theorem slX11_letter : Cond.selects yX11_letter.cls yX11_letter yX11_letter ∈ lw_tbl := lwc2 (List.mem_of_getElem? (i := 210) rfl)
set_option maxRecDepth 20000 in
theorem coX11_value : Cond.code yX11_value cX11_value 5 (some FieldType.int) ∈ lw_tbl := lwc3 (List.mem_of_getElem? (i := 31) rfl)
theorem pdX11_value : yX11_value.cls ≠ "java/lang/invoke/MethodHandle" ∧ yX11_value.cls ≠ "java/lang/invoke/VarHandle" ∧ (parseMethodDescriptor yX11_value.desc).map (fun d => d.parameters.length) = some 3 := by decide +kernel
set_option maxRecDepth 20000 in
theorem imX11_value : Cond.instanceMethod yX11_value ∈ lw_tbl := lwc3 (List.mem_of_getElem? (i := 29) rfl)
set_option maxRecDepth 20000 in
theorem slX11_value : Cond.selects yX11_value.cls yX11_value yX11_value ∈ lw_tbl := lwc3 (List.mem_of_getElem? (i := 30) rfl)
set_option maxRecDepth 20000 in
theorem coX11_told : Cond.code yX11_told cX11_told 3 (some FieldType.int) ∈ lw_tbl := lwc3 (List.mem_of_getElem? (i := 48) rfl)
theorem pdX11_told : yX11_told.cls ≠ "java/lang/invoke/MethodHandle" ∧ yX11_told.cls ≠ "java/lang/invoke/VarHandle" ∧ (parseMethodDescriptor yX11_told.desc).map (fun d => d.parameters.length) = some 2 := by decide +kernel
set_option maxRecDepth 20000 in
theorem imX11_told : Cond.instanceMethod yX11_told ∈ lw_tbl := lwc3 (List.mem_of_getElem? (i := 46) rfl)
set_option maxRecDepth 20000 in
theorem slX11_told : Cond.selects yX11_told.cls yX11_told yX11_told ∈ lw_tbl := lwc3 (List.mem_of_getElem? (i := 47) rfl)
set_option maxRecDepth 20000 in
theorem coX11_count : Cond.code yX11_count cX11_count 2 (some FieldType.int) ∈ lw_tbl := lwc3 (List.mem_of_getElem? (i := 77) rfl)
theorem pdX11_count : yX11_count.cls ≠ "java/lang/invoke/MethodHandle" ∧ yX11_count.cls ≠ "java/lang/invoke/VarHandle" ∧ (parseMethodDescriptor yX11_count.desc).map (fun d => d.parameters.length) = some 1 := by decide +kernel
set_option maxRecDepth 20000 in
theorem imX11_count : Cond.instanceMethod yX11_count ∈ lw_tbl := lwc3 (List.mem_of_getElem? (i := 75) rfl)
set_option maxRecDepth 20000 in
theorem slX11_count : Cond.selects yX11_count.cls yX11_count yX11_count ∈ lw_tbl := lwc3 (List.mem_of_getElem? (i := 76) rfl)
set_option maxRecDepth 20000 in
theorem coX11_type : Cond.code yX11_type cX11_type 2 (some FieldType.int) ∈ lw_tbl := lwc3 (List.mem_of_getElem? (i := 85) rfl)
theorem pdX11_type : yX11_type.cls ≠ "java/lang/invoke/MethodHandle" ∧ yX11_type.cls ≠ "java/lang/invoke/VarHandle" ∧ (parseMethodDescriptor yX11_type.desc).map (fun d => d.parameters.length) = some 1 := by decide +kernel
set_option maxRecDepth 20000 in
theorem imX11_type : Cond.instanceMethod yX11_type ∈ lw_tbl := lwc3 (List.mem_of_getElem? (i := 83) rfl)
set_option maxRecDepth 20000 in
theorem slX11_type : Cond.selects yX11_type.cls yX11_type yX11_type ∈ lw_tbl := lwc3 (List.mem_of_getElem? (i := 84) rfl)
set_option maxRecDepth 20000 in
theorem coX11_read : Cond.code yX11_read cX11_read 5 (some FieldType.int) ∈ lw_tbl := lwc3 (List.mem_of_getElem? (i := 93) rfl)
theorem pdX11_read : yX11_read.cls ≠ "java/lang/invoke/MethodHandle" ∧ yX11_read.cls ≠ "java/lang/invoke/VarHandle" ∧ (parseMethodDescriptor yX11_read.desc).map (fun d => d.parameters.length) = some 2 := by decide +kernel
set_option maxRecDepth 20000 in
theorem imX11_read : Cond.instanceMethod yX11_read ∈ lw_tbl := lwc3 (List.mem_of_getElem? (i := 91) rfl)
set_option maxRecDepth 20000 in
theorem slX11_read : Cond.selects yX11_read.cls yX11_read yX11_read ∈ lw_tbl := lwc3 (List.mem_of_getElem? (i := 92) rfl)
set_option maxRecDepth 20000 in
theorem coX11_tower : Cond.code yX11_tower cX11_tower 7 (some FieldType.int) ∈ lw_tbl := lwc4 (List.mem_of_getElem? (i := 17) rfl)
theorem pdX11_tower : yX11_tower.cls ≠ "java/lang/invoke/MethodHandle" ∧ yX11_tower.cls ≠ "java/lang/invoke/VarHandle" ∧ (parseMethodDescriptor yX11_tower.desc).map (fun d => d.parameters.length) = some 5 := by decide +kernel
set_option maxRecDepth 20000 in
theorem imX11_tower : Cond.instanceMethod yX11_tower ∈ lw_tbl := lwc4 (List.mem_of_getElem? (i := 15) rfl)
set_option maxRecDepth 20000 in
theorem slX11_tower : Cond.selects yX11_tower.cls yX11_tower yX11_tower ∈ lw_tbl := lwc4 (List.mem_of_getElem? (i := 16) rfl)
set_option maxRecDepth 20000 in
theorem coX11_join : Cond.code yX11_join cX11_join 6 (some FieldType.int) ∈ lw_tbl := lwc4 (List.mem_of_getElem? (i := 33) rfl)
theorem pdX11_join : yX11_join.cls ≠ "java/lang/invoke/MethodHandle" ∧ yX11_join.cls ≠ "java/lang/invoke/VarHandle" ∧ (parseMethodDescriptor yX11_join.desc).map (fun d => d.parameters.length) = some 4 := by decide +kernel
set_option maxRecDepth 20000 in
theorem imX11_join : Cond.instanceMethod yX11_join ∈ lw_tbl := lwc4 (List.mem_of_getElem? (i := 31) rfl)
set_option maxRecDepth 20000 in
theorem slX11_join : Cond.selects yX11_join.cls yX11_join yX11_join ∈ lw_tbl := lwc4 (List.mem_of_getElem? (i := 32) rfl)
set_option maxRecDepth 20000 in
theorem coX11_derive : Cond.code yX11_derive cX11_derive 4 (some FieldType.int) ∈ lw_tbl := lwc4 (List.mem_of_getElem? (i := 77) rfl)
theorem pdX11_derive : yX11_derive.cls ≠ "java/lang/invoke/MethodHandle" ∧ yX11_derive.cls ≠ "java/lang/invoke/VarHandle" ∧ (parseMethodDescriptor yX11_derive.desc).map (fun d => d.parameters.length) = some 2 := by decide +kernel
set_option maxRecDepth 20000 in
theorem imX11_derive : Cond.instanceMethod yX11_derive ∈ lw_tbl := lwc4 (List.mem_of_getElem? (i := 75) rfl)
set_option maxRecDepth 20000 in
theorem slX11_derive : Cond.selects yX11_derive.cls yX11_derive yX11_derive ∈ lw_tbl := lwc4 (List.mem_of_getElem? (i := 76) rfl)
set_option maxRecDepth 20000 in
theorem coX11_drift : Cond.code yX11_drift cX11_drift 6 (some FieldType.int) ∈ lw_tbl := lwc4 (List.mem_of_getElem? (i := 111) rfl)
theorem pdX11_drift : yX11_drift.cls ≠ "java/lang/invoke/MethodHandle" ∧ yX11_drift.cls ≠ "java/lang/invoke/VarHandle" ∧ (parseMethodDescriptor yX11_drift.desc).map (fun d => d.parameters.length) = some 1 := by decide +kernel
set_option maxRecDepth 20000 in
theorem imX11_drift : Cond.instanceMethod yX11_drift ∈ lw_tbl := lwc4 (List.mem_of_getElem? (i := 109) rfl)
set_option maxRecDepth 20000 in
theorem slX11_drift : Cond.selects yX11_drift.cls yX11_drift yX11_drift ∈ lw_tbl := lwc4 (List.mem_of_getElem? (i := 110) rfl)
set_option maxRecDepth 20000 in
theorem coX11_undo : Cond.code yX11_undo cX11_undo 1 (some FieldType.int) ∈ lw_tbl := lwc4 (List.mem_of_getElem? (i := 130) rfl)
theorem pdX11_undo : yX11_undo.cls ≠ "java/lang/invoke/MethodHandle" ∧ yX11_undo.cls ≠ "java/lang/invoke/VarHandle" ∧ (parseMethodDescriptor yX11_undo.desc).map (fun d => d.parameters.length) = some 0 := by decide +kernel
set_option maxRecDepth 20000 in
theorem imX11_undo : Cond.instanceMethod yX11_undo ∈ lw_tbl := lwc4 (List.mem_of_getElem? (i := 128) rfl)
set_option maxRecDepth 20000 in
theorem slX11_undo : Cond.selects yX11_undo.cls yX11_undo yX11_undo ∈ lw_tbl := lwc4 (List.mem_of_getElem? (i := 129) rfl)
set_option maxRecDepth 20000 in
theorem coX11_seed : Cond.code yX11_seed cX11_seed 3 (some FieldType.int) ∈ lw_tbl := lwc4 (List.mem_of_getElem? (i := 138) rfl)
theorem pdX11_seed : yX11_seed.cls ≠ "java/lang/invoke/MethodHandle" ∧ yX11_seed.cls ≠ "java/lang/invoke/VarHandle" ∧ (parseMethodDescriptor yX11_seed.desc).map (fun d => d.parameters.length) = some 1 := by decide +kernel
set_option maxRecDepth 20000 in
theorem imX11_seed : Cond.instanceMethod yX11_seed ∈ lw_tbl := lwc4 (List.mem_of_getElem? (i := 136) rfl)
set_option maxRecDepth 20000 in
theorem slX11_seed : Cond.selects yX11_seed.cls yX11_seed yX11_seed ∈ lw_tbl := lwc4 (List.mem_of_getElem? (i := 137) rfl)
set_option maxRecDepth 20000 in
theorem coX11_part : Cond.code yX11_part cX11_part 6 (some FieldType.int) ∈ lw_tbl := lwc4 (List.mem_of_getElem? (i := 142) rfl)
theorem pdX11_part : yX11_part.cls ≠ "java/lang/invoke/MethodHandle" ∧ yX11_part.cls ≠ "java/lang/invoke/VarHandle" ∧ (parseMethodDescriptor yX11_part.desc).map (fun d => d.parameters.length) = some 4 := by decide +kernel
set_option maxRecDepth 20000 in
theorem imX11_part : Cond.instanceMethod yX11_part ∈ lw_tbl := lwc4 (List.mem_of_getElem? (i := 140) rfl)
set_option maxRecDepth 20000 in
theorem slX11_part : Cond.selects yX11_part.cls yX11_part yX11_part ∈ lw_tbl := lwc4 (List.mem_of_getElem? (i := 141) rfl)
set_option maxRecDepth 20000 in
theorem coX11_split : Cond.code yX11_split cX11_split 7 (some FieldType.int) ∈ lw_tbl := lwc4 (List.mem_of_getElem? (i := 160) rfl)
theorem pdX11_split : yX11_split.cls ≠ "java/lang/invoke/MethodHandle" ∧ yX11_split.cls ≠ "java/lang/invoke/VarHandle" ∧ (parseMethodDescriptor yX11_split.desc).map (fun d => d.parameters.length) = some 4 := by decide +kernel
set_option maxRecDepth 20000 in
theorem imX11_split : Cond.instanceMethod yX11_split ∈ lw_tbl := lwc4 (List.mem_of_getElem? (i := 158) rfl)
set_option maxRecDepth 20000 in
theorem slX11_split : Cond.selects yX11_split.cls yX11_split yX11_split ∈ lw_tbl := lwc4 (List.mem_of_getElem? (i := 159) rfl)
set_option maxRecDepth 20000 in
theorem coX11_asked : Cond.code yX11_asked cX11_asked 3 (some FieldType.int) ∈ lw_tbl := lwc4 (List.mem_of_getElem? (i := 203) rfl)
theorem pdX11_asked : yX11_asked.cls ≠ "java/lang/invoke/MethodHandle" ∧ yX11_asked.cls ≠ "java/lang/invoke/VarHandle" ∧ (parseMethodDescriptor yX11_asked.desc).map (fun d => d.parameters.length) = some 2 := by decide +kernel
set_option maxRecDepth 20000 in
theorem imX11_asked : Cond.instanceMethod yX11_asked ∈ lw_tbl := lwc4 (List.mem_of_getElem? (i := 201) rfl)
set_option maxRecDepth 20000 in
theorem slX11_asked : Cond.selects yX11_asked.cls yX11_asked yX11_asked ∈ lw_tbl := lwc4 (List.mem_of_getElem? (i := 202) rfl)
set_option maxRecDepth 20000 in
theorem coX11_integral : Cond.code yX11_integral cX11_integral 6 (some FieldType.int) ∈ lw_tbl := lwc5 (List.mem_of_getElem? (i := 45) rfl)
theorem pdX11_integral : yX11_integral.cls ≠ "java/lang/invoke/MethodHandle" ∧ yX11_integral.cls ≠ "java/lang/invoke/VarHandle" ∧ (parseMethodDescriptor yX11_integral.desc).map (fun d => d.parameters.length) = some 4 := by decide +kernel
set_option maxRecDepth 20000 in
theorem imX11_integral : Cond.instanceMethod yX11_integral ∈ lw_tbl := lwc5 (List.mem_of_getElem? (i := 43) rfl)
set_option maxRecDepth 20000 in
theorem slX11_integral : Cond.selects yX11_integral.cls yX11_integral yX11_integral ∈ lw_tbl := lwc5 (List.mem_of_getElem? (i := 44) rfl)
set_option maxRecDepth 20000 in
theorem coX11_left : Cond.code yX11_left cX11_left 6 (some FieldType.int) ∈ lw_tbl := lwc5 (List.mem_of_getElem? (i := 50) rfl)
theorem pdX11_left : yX11_left.cls ≠ "java/lang/invoke/MethodHandle" ∧ yX11_left.cls ≠ "java/lang/invoke/VarHandle" ∧ (parseMethodDescriptor yX11_left.desc).map (fun d => d.parameters.length) = some 4 := by decide +kernel
set_option maxRecDepth 20000 in
theorem imX11_left : Cond.instanceMethod yX11_left ∈ lw_tbl := lwc5 (List.mem_of_getElem? (i := 48) rfl)
set_option maxRecDepth 20000 in
theorem slX11_left : Cond.selects yX11_left.cls yX11_left yX11_left ∈ lw_tbl := lwc5 (List.mem_of_getElem? (i := 49) rfl)
set_option maxRecDepth 20000 in
theorem coX11_residue : Cond.code yX11_residue cX11_residue 3 (some FieldType.int) ∈ lw_tbl := lwc5 (List.mem_of_getElem? (i := 54) rfl)
theorem pdX11_residue : yX11_residue.cls ≠ "java/lang/invoke/MethodHandle" ∧ yX11_residue.cls ≠ "java/lang/invoke/VarHandle" ∧ (parseMethodDescriptor yX11_residue.desc).map (fun d => d.parameters.length) = some 2 := by decide +kernel
set_option maxRecDepth 20000 in
theorem imX11_residue : Cond.instanceMethod yX11_residue ∈ lw_tbl := lwc5 (List.mem_of_getElem? (i := 52) rfl)
set_option maxRecDepth 20000 in
theorem slX11_residue : Cond.selects yX11_residue.cls yX11_residue yX11_residue ∈ lw_tbl := lwc5 (List.mem_of_getElem? (i := 53) rfl)
set_option maxRecDepth 20000 in
theorem coX11_log : Cond.code yX11_log cX11_log 6 (some FieldType.int) ∈ lw_tbl := lwc5 (List.mem_of_getElem? (i := 58) rfl)
theorem pdX11_log : yX11_log.cls ≠ "java/lang/invoke/MethodHandle" ∧ yX11_log.cls ≠ "java/lang/invoke/VarHandle" ∧ (parseMethodDescriptor yX11_log.desc).map (fun d => d.parameters.length) = some 4 := by decide +kernel
set_option maxRecDepth 20000 in
theorem imX11_log : Cond.instanceMethod yX11_log ∈ lw_tbl := lwc5 (List.mem_of_getElem? (i := 56) rfl)
set_option maxRecDepth 20000 in
theorem slX11_log : Cond.selects yX11_log.cls yX11_log yX11_log ∈ lw_tbl := lwc5 (List.mem_of_getElem? (i := 57) rfl)
set_option maxRecDepth 20000 in
theorem coX11_pencil : Cond.code yX11_pencil cX11_pencil 7 (some FieldType.int) ∈ lw_tbl := lwc5 (List.mem_of_getElem? (i := 67) rfl)
theorem pdX11_pencil : yX11_pencil.cls ≠ "java/lang/invoke/MethodHandle" ∧ yX11_pencil.cls ≠ "java/lang/invoke/VarHandle" ∧ (parseMethodDescriptor yX11_pencil.desc).map (fun d => d.parameters.length) = some 3 := by decide +kernel
set_option maxRecDepth 20000 in
theorem imX11_pencil : Cond.instanceMethod yX11_pencil ∈ lw_tbl := lwc5 (List.mem_of_getElem? (i := 65) rfl)
set_option maxRecDepth 20000 in
theorem slX11_pencil : Cond.selects yX11_pencil.cls yX11_pencil yX11_pencil ∈ lw_tbl := lwc5 (List.mem_of_getElem? (i := 66) rfl)
set_option maxRecDepth 20000 in
theorem coX11_image : Cond.code yX11_image cX11_image 1 (some FieldType.int) ∈ lw_tbl := lwc5 (List.mem_of_getElem? (i := 83) rfl)
theorem pdX11_image : yX11_image.cls ≠ "java/lang/invoke/MethodHandle" ∧ yX11_image.cls ≠ "java/lang/invoke/VarHandle" ∧ (parseMethodDescriptor yX11_image.desc).map (fun d => d.parameters.length) = some 0 := by decide +kernel
set_option maxRecDepth 20000 in
theorem imX11_image : Cond.instanceMethod yX11_image ∈ lw_tbl := lwc5 (List.mem_of_getElem? (i := 81) rfl)
set_option maxRecDepth 20000 in
theorem slX11_image : Cond.selects yX11_image.cls yX11_image yX11_image ∈ lw_tbl := lwc5 (List.mem_of_getElem? (i := 82) rfl)
set_option maxRecDepth 20000 in
theorem coX11_restore : Cond.code yX11_restore cX11_restore 1 (some FieldType.int) ∈ lw_tbl := lwc5 (List.mem_of_getElem? (i := 92) rfl)
theorem pdX11_restore : yX11_restore.cls ≠ "java/lang/invoke/MethodHandle" ∧ yX11_restore.cls ≠ "java/lang/invoke/VarHandle" ∧ (parseMethodDescriptor yX11_restore.desc).map (fun d => d.parameters.length) = some 0 := by decide +kernel
set_option maxRecDepth 20000 in
theorem imX11_restore : Cond.instanceMethod yX11_restore ∈ lw_tbl := lwc5 (List.mem_of_getElem? (i := 90) rfl)
set_option maxRecDepth 20000 in
theorem slX11_restore : Cond.selects yX11_restore.cls yX11_restore yX11_restore ∈ lw_tbl := lwc5 (List.mem_of_getElem? (i := 91) rfl)
set_option maxRecDepth 20000 in
theorem coX11_seen : Cond.code yX11_seen cX11_seen 11 (some FieldType.int) ∈ lw_tbl := lwc5 (List.mem_of_getElem? (i := 96) rfl)
theorem pdX11_seen : yX11_seen.cls ≠ "java/lang/invoke/MethodHandle" ∧ yX11_seen.cls ≠ "java/lang/invoke/VarHandle" ∧ (parseMethodDescriptor yX11_seen.desc).map (fun d => d.parameters.length) = some 4 := by decide +kernel
set_option maxRecDepth 20000 in
theorem imX11_seen : Cond.instanceMethod yX11_seen ∈ lw_tbl := lwc5 (List.mem_of_getElem? (i := 94) rfl)
set_option maxRecDepth 20000 in
theorem slX11_seen : Cond.selects yX11_seen.cls yX11_seen yX11_seen ∈ lw_tbl := lwc5 (List.mem_of_getElem? (i := 95) rfl)
set_option maxRecDepth 20000 in
theorem coX11_lay : Cond.code yX11_lay cX11_lay 10 (some FieldType.int) ∈ lw_tbl := lwc5 (List.mem_of_getElem? (i := 125) rfl)
theorem pdX11_lay : yX11_lay.cls ≠ "java/lang/invoke/MethodHandle" ∧ yX11_lay.cls ≠ "java/lang/invoke/VarHandle" ∧ (parseMethodDescriptor yX11_lay.desc).map (fun d => d.parameters.length) = some 5 := by decide +kernel
set_option maxRecDepth 20000 in
theorem imX11_lay : Cond.instanceMethod yX11_lay ∈ lw_tbl := lwc5 (List.mem_of_getElem? (i := 123) rfl)
set_option maxRecDepth 20000 in
theorem slX11_lay : Cond.selects yX11_lay.cls yX11_lay yX11_lay ∈ lw_tbl := lwc5 (List.mem_of_getElem? (i := 124) rfl)
set_option maxRecDepth 20000 in
theorem coX11_film : Cond.code yX11_film cX11_film 10 (some FieldType.int) ∈ lw_tbl := lwc5 (List.mem_of_getElem? (i := 129) rfl)
theorem pdX11_film : yX11_film.cls ≠ "java/lang/invoke/MethodHandle" ∧ yX11_film.cls ≠ "java/lang/invoke/VarHandle" ∧ (parseMethodDescriptor yX11_film.desc).map (fun d => d.parameters.length) = some 5 := by decide +kernel
set_option maxRecDepth 20000 in
theorem imX11_film : Cond.instanceMethod yX11_film ∈ lw_tbl := lwc5 (List.mem_of_getElem? (i := 127) rfl)
set_option maxRecDepth 20000 in
theorem slX11_film : Cond.selects yX11_film.cls yX11_film yX11_film ∈ lw_tbl := lwc5 (List.mem_of_getElem? (i := 128) rfl)
set_option maxRecDepth 20000 in
theorem coX11_sheet : Cond.code yX11_sheet cX11_sheet 4 (some FieldType.int) ∈ lw_tbl := lwc5 (List.mem_of_getElem? (i := 137) rfl)
theorem pdX11_sheet : yX11_sheet.cls ≠ "java/lang/invoke/MethodHandle" ∧ yX11_sheet.cls ≠ "java/lang/invoke/VarHandle" ∧ (parseMethodDescriptor yX11_sheet.desc).map (fun d => d.parameters.length) = some 3 := by decide +kernel
set_option maxRecDepth 20000 in
theorem imX11_sheet : Cond.instanceMethod yX11_sheet ∈ lw_tbl := lwc5 (List.mem_of_getElem? (i := 135) rfl)
set_option maxRecDepth 20000 in
theorem slX11_sheet : Cond.selects yX11_sheet.cls yX11_sheet yX11_sheet ∈ lw_tbl := lwc5 (List.mem_of_getElem? (i := 136) rfl)
set_option maxRecDepth 20000 in
theorem coX11_drop : Cond.code yX11_drop cX11_drop 3 (some FieldType.int) ∈ lw_tbl := lwc5 (List.mem_of_getElem? (i := 148) rfl)
theorem pdX11_drop : yX11_drop.cls ≠ "java/lang/invoke/MethodHandle" ∧ yX11_drop.cls ≠ "java/lang/invoke/VarHandle" ∧ (parseMethodDescriptor yX11_drop.desc).map (fun d => d.parameters.length) = some 1 := by decide +kernel
set_option maxRecDepth 20000 in
theorem imX11_drop : Cond.instanceMethod yX11_drop ∈ lw_tbl := lwc5 (List.mem_of_getElem? (i := 146) rfl)
set_option maxRecDepth 20000 in
theorem slX11_drop : Cond.selects yX11_drop.cls yX11_drop yX11_drop ∈ lw_tbl := lwc5 (List.mem_of_getElem? (i := 147) rfl)
set_option maxRecDepth 20000 in
theorem coX11_item : Cond.code yX11_item cX11_item 7 (some FieldType.int) ∈ lw_tbl := lwc5 (List.mem_of_getElem? (i := 153) rfl)
theorem pdX11_item : yX11_item.cls ≠ "java/lang/invoke/MethodHandle" ∧ yX11_item.cls ≠ "java/lang/invoke/VarHandle" ∧ (parseMethodDescriptor yX11_item.desc).map (fun d => d.parameters.length) = some 4 := by decide +kernel
set_option maxRecDepth 20000 in
theorem imX11_item : Cond.instanceMethod yX11_item ∈ lw_tbl := lwc5 (List.mem_of_getElem? (i := 151) rfl)
set_option maxRecDepth 20000 in
theorem slX11_item : Cond.selects yX11_item.cls yX11_item yX11_item ∈ lw_tbl := lwc5 (List.mem_of_getElem? (i := 152) rfl)
set_option maxRecDepth 20000 in
theorem coX11_copy : Cond.code yX11_copy cX11_copy 8 (some FieldType.int) ∈ lw_tbl := lwc5 (List.mem_of_getElem? (i := 157) rfl)
theorem pdX11_copy : yX11_copy.cls ≠ "java/lang/invoke/MethodHandle" ∧ yX11_copy.cls ≠ "java/lang/invoke/VarHandle" ∧ (parseMethodDescriptor yX11_copy.desc).map (fun d => d.parameters.length) = some 5 := by decide +kernel
set_option maxRecDepth 20000 in
theorem imX11_copy : Cond.instanceMethod yX11_copy ∈ lw_tbl := lwc5 (List.mem_of_getElem? (i := 155) rfl)
set_option maxRecDepth 20000 in
theorem slX11_copy : Cond.selects yX11_copy.cls yX11_copy yX11_copy ∈ lw_tbl := lwc5 (List.mem_of_getElem? (i := 156) rfl)
set_option maxRecDepth 20000 in
theorem coX11_within : Cond.code yX11_within cX11_within 3 (some FieldType.boolean) ∈ lw_tbl := lwc2 (List.mem_of_getElem? (i := 200) rfl)
theorem pdX11_within : yX11_within.cls ≠ "java/lang/invoke/MethodHandle" ∧ yX11_within.cls ≠ "java/lang/invoke/VarHandle" ∧ (parseMethodDescriptor yX11_within.desc).map (fun d => d.parameters.length) = some 3 := by decide +kernel
set_option maxRecDepth 20000 in
theorem stX11_within : Cond.static yX11_within ∈ lw_tbl := lwc2 (List.mem_of_getElem? (i := 199) rfl)
set_option maxRecDepth 20000 in
theorem coX11_isNumber : Cond.code yX11_isNumber cX11_isNumber 2 (some FieldType.boolean) ∈ lw_tbl := lwc4 (List.mem_of_getElem? (i := 20) rfl)
theorem pdX11_isNumber : yX11_isNumber.cls ≠ "java/lang/invoke/MethodHandle" ∧ yX11_isNumber.cls ≠ "java/lang/invoke/VarHandle" ∧ (parseMethodDescriptor yX11_isNumber.desc).map (fun d => d.parameters.length) = some 1 := by decide +kernel
set_option maxRecDepth 20000 in
theorem stX11_isNumber : Cond.static yX11_isNumber ∈ lw_tbl := lwc4 (List.mem_of_getElem? (i := 19) rfl)
set_option maxRecDepth 20000 in
theorem coX11_isFunction : Cond.code yX11_isFunction cX11_isFunction 1 (some FieldType.boolean) ∈ lw_tbl := lwc2 (List.mem_of_getElem? (i := 197) rfl)
theorem pdX11_isFunction : yX11_isFunction.cls ≠ "java/lang/invoke/MethodHandle" ∧ yX11_isFunction.cls ≠ "java/lang/invoke/VarHandle" ∧ (parseMethodDescriptor yX11_isFunction.desc).map (fun d => d.parameters.length) = some 1 := by decide +kernel
set_option maxRecDepth 20000 in
theorem stX11_isFunction : Cond.static yX11_isFunction ∈ lw_tbl := lwc2 (List.mem_of_getElem? (i := 196) rfl)
set_option maxRecDepth 20000 in
theorem coX11_isSheet : Cond.code yX11_isSheet cX11_isSheet 2 (some FieldType.boolean) ∈ lw_tbl := lwc5 (List.mem_of_getElem? (i := 100) rfl)
theorem pdX11_isSheet : yX11_isSheet.cls ≠ "java/lang/invoke/MethodHandle" ∧ yX11_isSheet.cls ≠ "java/lang/invoke/VarHandle" ∧ (parseMethodDescriptor yX11_isSheet.desc).map (fun d => d.parameters.length) = some 1 := by decide +kernel
set_option maxRecDepth 20000 in
theorem imX11_isSheet : Cond.instanceMethod yX11_isSheet ∈ lw_tbl := lwc5 (List.mem_of_getElem? (i := 99) rfl)
set_option maxRecDepth 20000 in
theorem slX11_isSheet : Cond.selects yX11_isSheet.cls yX11_isSheet yX11_isSheet ∈ lw_tbl := lw_at 37 rfl
set_option maxRecDepth 20000 in
theorem coX11_termOf : Cond.code yX11_termOf cX11_termOf 2 (some FieldType.int) ∈ lw_tbl := lwc2 (List.mem_of_getElem? (i := 194) rfl)
theorem pdX11_termOf : yX11_termOf.cls ≠ "java/lang/invoke/MethodHandle" ∧ yX11_termOf.cls ≠ "java/lang/invoke/VarHandle" ∧ (parseMethodDescriptor yX11_termOf.desc).map (fun d => d.parameters.length) = some 2 := by decide +kernel
set_option maxRecDepth 20000 in
theorem stX11_termOf : Cond.static yX11_termOf ∈ lw_tbl := lwc2 (List.mem_of_getElem? (i := 193) rfl)
set_option maxRecDepth 20000 in
theorem coX11_inverse : Cond.code yX11_inverse cX11_inverse 1 (some FieldType.int) ∈ lw_tbl := lwc3 (List.mem_of_getElem? (i := 42) rfl)
theorem pdX11_inverse : yX11_inverse.cls ≠ "java/lang/invoke/MethodHandle" ∧ yX11_inverse.cls ≠ "java/lang/invoke/VarHandle" ∧ (parseMethodDescriptor yX11_inverse.desc).map (fun d => d.parameters.length) = some 1 := by decide +kernel
set_option maxRecDepth 20000 in
theorem stX11_inverse : Cond.static yX11_inverse ∈ lw_tbl := lwc3 (List.mem_of_getElem? (i := 41) rfl)
set_option maxRecDepth 20000 in
theorem coX11_result : Cond.code yX11_result cX11_result 3 (some (FieldType.object "FiniteTerms$Frac")) ∈ lw_tbl := lwc4 (List.mem_of_getElem? (i := 47) rfl)
theorem pdX11_result : yX11_result.cls ≠ "java/lang/invoke/MethodHandle" ∧ yX11_result.cls ≠ "java/lang/invoke/VarHandle" ∧ (parseMethodDescriptor yX11_result.desc).map (fun d => d.parameters.length) = some 1 := by decide +kernel
set_option maxRecDepth 20000 in
theorem imX11_result : Cond.instanceMethod yX11_result ∈ lw_tbl := lwc4 (List.mem_of_getElem? (i := 46) rfl)
set_option maxRecDepth 20000 in
theorem slX11_result : Cond.selects yX11_result.cls yX11_result yX11_result ∈ lw_tbl := lw_at 20 rfl
set_option maxRecDepth 20000 in
theorem coX11_keepResults : Cond.code yX11_keepResults cX11_keepResults 3 (some FieldType.int) ∈ lw_tbl := lwc4 (List.mem_of_getElem? (i := 73) rfl)
theorem pdX11_keepResults : yX11_keepResults.cls ≠ "java/lang/invoke/MethodHandle" ∧ yX11_keepResults.cls ≠ "java/lang/invoke/VarHandle" ∧ (parseMethodDescriptor yX11_keepResults.desc).map (fun d => d.parameters.length) = some 1 := by decide +kernel
set_option maxRecDepth 20000 in
theorem imX11_keepResults : Cond.instanceMethod yX11_keepResults ∈ lw_tbl := lwc4 (List.mem_of_getElem? (i := 72) rfl)
set_option maxRecDepth 20000 in
theorem slX11_keepResults : Cond.selects yX11_keepResults.cls yX11_keepResults yX11_keepResults ∈ lw_tbl := lw_at 24 rfl
set_option maxRecDepth 20000 in
theorem coX11_addTerms : Cond.code yX11_addTerms cX11_addTerms 5 (some FieldType.boolean) ∈ lw_tbl := lwc4 (List.mem_of_getElem? (i := 43) rfl)
theorem pdX11_addTerms : yX11_addTerms.cls ≠ "java/lang/invoke/MethodHandle" ∧ yX11_addTerms.cls ≠ "java/lang/invoke/VarHandle" ∧ (parseMethodDescriptor yX11_addTerms.desc).map (fun d => d.parameters.length) = some 3 := by decide +kernel
set_option maxRecDepth 20000 in
theorem imX11_addTerms : Cond.instanceMethod yX11_addTerms ∈ lw_tbl := lwc4 (List.mem_of_getElem? (i := 42) rfl)
set_option maxRecDepth 20000 in
theorem slX11_addTerms : Cond.selects yX11_addTerms.cls yX11_addTerms yX11_addTerms ∈ lw_tbl := lw_at 19 rfl
set_option maxRecDepth 20000 in
theorem coX11_multiplyTerms : Cond.code yX11_multiplyTerms cX11_multiplyTerms 5 (some FieldType.boolean) ∈ lw_tbl := lwc4 (List.mem_of_getElem? (i := 53) rfl)
theorem pdX11_multiplyTerms : yX11_multiplyTerms.cls ≠ "java/lang/invoke/MethodHandle" ∧ yX11_multiplyTerms.cls ≠ "java/lang/invoke/VarHandle" ∧ (parseMethodDescriptor yX11_multiplyTerms.desc).map (fun d => d.parameters.length) = some 2 := by decide +kernel
set_option maxRecDepth 20000 in
theorem imX11_multiplyTerms : Cond.instanceMethod yX11_multiplyTerms ∈ lw_tbl := lwc4 (List.mem_of_getElem? (i := 52) rfl)
set_option maxRecDepth 20000 in
theorem slX11_multiplyTerms : Cond.selects yX11_multiplyTerms.cls yX11_multiplyTerms yX11_multiplyTerms ∈ lw_tbl := lw_at 21 rfl
set_option maxRecDepth 20000 in
theorem coX11_divideTerms : Cond.code yX11_divideTerms cX11_divideTerms 5 (some FieldType.boolean) ∈ lw_tbl := lwc4 (List.mem_of_getElem? (i := 64) rfl)
theorem pdX11_divideTerms : yX11_divideTerms.cls ≠ "java/lang/invoke/MethodHandle" ∧ yX11_divideTerms.cls ≠ "java/lang/invoke/VarHandle" ∧ (parseMethodDescriptor yX11_divideTerms.desc).map (fun d => d.parameters.length) = some 2 := by decide +kernel
set_option maxRecDepth 20000 in
theorem imX11_divideTerms : Cond.instanceMethod yX11_divideTerms ∈ lw_tbl := lwc4 (List.mem_of_getElem? (i := 63) rfl)
set_option maxRecDepth 20000 in
theorem slX11_divideTerms : Cond.selects yX11_divideTerms.cls yX11_divideTerms yX11_divideTerms ∈ lw_tbl := lw_at 23 rfl
set_option maxRecDepth 20000 in
theorem coX11_keepTerm : Cond.code yX11_keepTerm cX11_keepTerm 3 (some FieldType.boolean) ∈ lw_tbl := lwc4 (List.mem_of_getElem? (i := 59) rfl)
theorem pdX11_keepTerm : yX11_keepTerm.cls ≠ "java/lang/invoke/MethodHandle" ∧ yX11_keepTerm.cls ≠ "java/lang/invoke/VarHandle" ∧ (parseMethodDescriptor yX11_keepTerm.desc).map (fun d => d.parameters.length) = some 2 := by decide +kernel
set_option maxRecDepth 20000 in
theorem imX11_keepTerm : Cond.instanceMethod yX11_keepTerm ∈ lw_tbl := lwc4 (List.mem_of_getElem? (i := 58) rfl)
set_option maxRecDepth 20000 in
theorem slX11_keepTerm : Cond.selects yX11_keepTerm.cls yX11_keepTerm yX11_keepTerm ∈ lw_tbl := lw_at 22 rfl
set_option maxRecDepth 20000 in
theorem coX12_in : Cond.code yX12_in cX12_in 3 (some FieldType.boolean) ∈ lw_tbl := lwc6 (List.mem_of_getElem? (i := 74) rfl)
theorem pdX12_in : yX12_in.cls ≠ "java/lang/invoke/MethodHandle" ∧ yX12_in.cls ≠ "java/lang/invoke/VarHandle" ∧ (parseMethodDescriptor yX12_in.desc).map (fun d => d.parameters.length) = some 3 := by decide +kernel
set_option maxRecDepth 20000 in
theorem stX12_in : Cond.static yX12_in ∈ lw_tbl := lwc6 (List.mem_of_getElem? (i := 73) rfl)
set_option maxRecDepth 20000 in
theorem coX12_mod : Cond.code yX12_mod cX12_mod 2 (some FieldType.int) ∈ lw_tbl := lwc5 (List.mem_of_getElem? (i := 186) rfl)
theorem pdX12_mod : yX12_mod.cls ≠ "java/lang/invoke/MethodHandle" ∧ yX12_mod.cls ≠ "java/lang/invoke/VarHandle" ∧ (parseMethodDescriptor yX12_mod.desc).map (fun d => d.parameters.length) = some 1 := by decide +kernel
set_option maxRecDepth 20000 in
theorem stX12_mod : Cond.static yX12_mod ∈ lw_tbl := lwc5 (List.mem_of_getElem? (i := 185) rfl)
set_option maxRecDepth 20000 in
theorem coX12_over : Cond.code yX12_over cX12_over 3 (some FieldType.int) ∈ lw_tbl := lwc6 (List.mem_of_getElem? (i := 124) rfl)
theorem pdX12_over : yX12_over.cls ≠ "java/lang/invoke/MethodHandle" ∧ yX12_over.cls ≠ "java/lang/invoke/VarHandle" ∧ (parseMethodDescriptor yX12_over.desc).map (fun d => d.parameters.length) = some 1 := by decide +kernel
set_option maxRecDepth 20000 in
theorem stX12_over : Cond.static yX12_over ∈ lw_tbl := lwc6 (List.mem_of_getElem? (i := 123) rfl)
set_option maxRecDepth 20000 in
theorem coX12_zero : Cond.code yX12_zero cX12_zero 3 none ∈ lw_tbl := lwc5 (List.mem_of_getElem? (i := 176) rfl)
theorem pdX12_zero : yX12_zero.cls ≠ "java/lang/invoke/MethodHandle" ∧ yX12_zero.cls ≠ "java/lang/invoke/VarHandle" ∧ (parseMethodDescriptor yX12_zero.desc).map (fun d => d.parameters.length) = some 1 := by decide +kernel
set_option maxRecDepth 20000 in
theorem imX12_zero : Cond.instanceMethod yX12_zero ∈ lw_tbl := lwc5 (List.mem_of_getElem? (i := 175) rfl)
set_option maxRecDepth 20000 in
theorem slX12_zero : Cond.selects yX12_zero.cls yX12_zero yX12_zero ∈ lw_tbl := lw_at 39 rfl
set_option maxRecDepth 20000 in
theorem coX12_number : Cond.code yX12_number cX12_number 3 none ∈ lw_tbl := lwc5 (List.mem_of_getElem? (i := 183) rfl)
theorem pdX12_number : yX12_number.cls ≠ "java/lang/invoke/MethodHandle" ∧ yX12_number.cls ≠ "java/lang/invoke/VarHandle" ∧ (parseMethodDescriptor yX12_number.desc).map (fun d => d.parameters.length) = some 2 := by decide +kernel
set_option maxRecDepth 20000 in
theorem imX12_number : Cond.instanceMethod yX12_number ∈ lw_tbl := lwc5 (List.mem_of_getElem? (i := 182) rfl)
set_option maxRecDepth 20000 in
theorem slX12_number : Cond.selects yX12_number.cls yX12_number yX12_number ∈ lw_tbl := lw_at 40 rfl
set_option maxRecDepth 20000 in
theorem coX12_lays : Cond.code yX12_lays cX12_lays 4 none ∈ lw_tbl := lwc6 (List.mem_of_getElem? (i := 195) rfl)
theorem pdX12_lays : yX12_lays.cls ≠ "java/lang/invoke/MethodHandle" ∧ yX12_lays.cls ≠ "java/lang/invoke/VarHandle" ∧ (parseMethodDescriptor yX12_lays.desc).map (fun d => d.parameters.length) = some 2 := by decide +kernel
set_option maxRecDepth 20000 in
theorem imX12_lays : Cond.instanceMethod yX12_lays ∈ lw_tbl := lwc6 (List.mem_of_getElem? (i := 194) rfl)
set_option maxRecDepth 20000 in
theorem slX12_lays : Cond.selects yX12_lays.cls yX12_lays yX12_lays ∈ lw_tbl := lw_at 64 rfl
set_option maxRecDepth 20000 in
theorem coX12_degree : Cond.code yX12_degree cX12_degree 3 (some FieldType.int) ∈ lw_tbl := lwc6 (List.mem_of_getElem? (i := 93) rfl)
theorem pdX12_degree : yX12_degree.cls ≠ "java/lang/invoke/MethodHandle" ∧ yX12_degree.cls ≠ "java/lang/invoke/VarHandle" ∧ (parseMethodDescriptor yX12_degree.desc).map (fun d => d.parameters.length) = some 1 := by decide +kernel
set_option maxRecDepth 20000 in
theorem imX12_degree : Cond.instanceMethod yX12_degree ∈ lw_tbl := lwc6 (List.mem_of_getElem? (i := 92) rfl)
set_option maxRecDepth 20000 in
theorem slX12_degree : Cond.selects yX12_degree.cls yX12_degree yX12_degree ∈ lw_tbl := lw_at 45 rfl
set_option maxRecDepth 20000 in
theorem coX12_at : Cond.code yX12_at cX12_at 3 (some FieldType.int) ∈ lw_tbl := lwc6 (List.mem_of_getElem? (i := 81) rfl)
theorem pdX12_at : yX12_at.cls ≠ "java/lang/invoke/MethodHandle" ∧ yX12_at.cls ≠ "java/lang/invoke/VarHandle" ∧ (parseMethodDescriptor yX12_at.desc).map (fun d => d.parameters.length) = some 2 := by decide +kernel
set_option maxRecDepth 20000 in
theorem imX12_at : Cond.instanceMethod yX12_at ∈ lw_tbl := lwc6 (List.mem_of_getElem? (i := 80) rfl)
set_option maxRecDepth 20000 in
theorem slX12_at : Cond.selects yX12_at.cls yX12_at yX12_at ∈ lw_tbl := lw_at 43 rfl
set_option maxRecDepth 20000 in
theorem coX12_head : Cond.code yX12_head cX12_head 3 (some FieldType.int) ∈ lw_tbl := lwc6 (List.mem_of_getElem? (i := 211) rfl)
theorem pdX12_head : yX12_head.cls ≠ "java/lang/invoke/MethodHandle" ∧ yX12_head.cls ≠ "java/lang/invoke/VarHandle" ∧ (parseMethodDescriptor yX12_head.desc).map (fun d => d.parameters.length) = some 1 := by decide +kernel
set_option maxRecDepth 20000 in
theorem imX12_head : Cond.instanceMethod yX12_head ∈ lw_tbl := lwc6 (List.mem_of_getElem? (i := 210) rfl)
set_option maxRecDepth 20000 in
theorem slX12_head : Cond.selects yX12_head.cls yX12_head yX12_head ∈ lw_tbl := lw_at 68 rfl
set_option maxRecDepth 20000 in
theorem coX12_times : Cond.code yX12_times cX12_times 8 none ∈ lw_tbl := lwc6 (List.mem_of_getElem? (i := 191) rfl)
theorem pdX12_times : yX12_times.cls ≠ "java/lang/invoke/MethodHandle" ∧ yX12_times.cls ≠ "java/lang/invoke/VarHandle" ∧ (parseMethodDescriptor yX12_times.desc).map (fun d => d.parameters.length) = some 3 := by decide +kernel
set_option maxRecDepth 20000 in
theorem imX12_times : Cond.instanceMethod yX12_times ∈ lw_tbl := lwc6 (List.mem_of_getElem? (i := 190) rfl)
set_option maxRecDepth 20000 in
theorem slX12_times : Cond.selects yX12_times.cls yX12_times yX12_times ∈ lw_tbl := lw_at 63 rfl
set_option maxRecDepth 20000 in
theorem coX12_scale : Cond.code yX12_scale cX12_scale 4 none ∈ lw_tbl := lwc6 (List.mem_of_getElem? (i := 215) rfl)
theorem pdX12_scale : yX12_scale.cls ≠ "java/lang/invoke/MethodHandle" ∧ yX12_scale.cls ≠ "java/lang/invoke/VarHandle" ∧ (parseMethodDescriptor yX12_scale.desc).map (fun d => d.parameters.length) = some 2 := by decide +kernel
set_option maxRecDepth 20000 in
theorem imX12_scale : Cond.instanceMethod yX12_scale ∈ lw_tbl := lwc6 (List.mem_of_getElem? (i := 214) rfl)
set_option maxRecDepth 20000 in
theorem slX12_scale : Cond.selects yX12_scale.cls yX12_scale yX12_scale ∈ lw_tbl := lw_at 69 rfl
set_option maxRecDepth 20000 in
theorem coX12_adds : Cond.code yX12_adds cX12_adds 5 none ∈ lw_tbl := lwc6 (List.mem_of_getElem? (i := 223) rfl)
theorem pdX12_adds : yX12_adds.cls ≠ "java/lang/invoke/MethodHandle" ∧ yX12_adds.cls ≠ "java/lang/invoke/VarHandle" ∧ (parseMethodDescriptor yX12_adds.desc).map (fun d => d.parameters.length) = some 3 := by decide +kernel
set_option maxRecDepth 20000 in
theorem imX12_adds : Cond.instanceMethod yX12_adds ∈ lw_tbl := lwc6 (List.mem_of_getElem? (i := 222) rfl)
set_option maxRecDepth 20000 in
theorem slX12_adds : Cond.selects yX12_adds.cls yX12_adds yX12_adds ∈ lw_tbl := lw_at 71 rfl
set_option maxRecDepth 20000 in
theorem coX12_derives : Cond.code yX12_derives cX12_derives 4 none ∈ lw_tbl := lwc7 (List.mem_of_getElem? (i := 11) rfl)
theorem pdX12_derives : yX12_derives.cls ≠ "java/lang/invoke/MethodHandle" ∧ yX12_derives.cls ≠ "java/lang/invoke/VarHandle" ∧ (parseMethodDescriptor yX12_derives.desc).map (fun d => d.parameters.length) = some 2 := by decide +kernel
set_option maxRecDepth 20000 in
theorem imX12_derives : Cond.instanceMethod yX12_derives ∈ lw_tbl := lwc7 (List.mem_of_getElem? (i := 10) rfl)
set_option maxRecDepth 20000 in
theorem slX12_derives : Cond.selects yX12_derives.cls yX12_derives yX12_derives ∈ lw_tbl := lw_at 77 rfl
set_option maxRecDepth 20000 in
theorem coX12_divides : Cond.code yX12_divides cX12_divides 9 none ∈ lw_tbl := lwc6 (List.mem_of_getElem? (i := 207) rfl)
theorem pdX12_divides : yX12_divides.cls ≠ "java/lang/invoke/MethodHandle" ∧ yX12_divides.cls ≠ "java/lang/invoke/VarHandle" ∧ (parseMethodDescriptor yX12_divides.desc).map (fun d => d.parameters.length) = some 3 := by decide +kernel
set_option maxRecDepth 20000 in
theorem imX12_divides : Cond.instanceMethod yX12_divides ∈ lw_tbl := lwc6 (List.mem_of_getElem? (i := 206) rfl)
set_option maxRecDepth 20000 in
theorem slX12_divides : Cond.selects yX12_divides.cls yX12_divides yX12_divides ∈ lw_tbl := lw_at 67 rfl
set_option maxRecDepth 20000 in
theorem coX12_common : Cond.code yX12_common cX12_common 4 none ∈ lw_tbl := lwc6 (List.mem_of_getElem? (i := 203) rfl)
theorem pdX12_common : yX12_common.cls ≠ "java/lang/invoke/MethodHandle" ∧ yX12_common.cls ≠ "java/lang/invoke/VarHandle" ∧ (parseMethodDescriptor yX12_common.desc).map (fun d => d.parameters.length) = some 3 := by decide +kernel
set_option maxRecDepth 20000 in
theorem imX12_common : Cond.instanceMethod yX12_common ∈ lw_tbl := lwc6 (List.mem_of_getElem? (i := 202) rfl)
set_option maxRecDepth 20000 in
theorem slX12_common : Cond.selects yX12_common.cls yX12_common yX12_common ∈ lw_tbl := lw_at 66 rfl
set_option maxRecDepth 20000 in
theorem coX12_valueAt : Cond.code yX12_valueAt cX12_valueAt 5 (some FieldType.int) ∈ lw_tbl := lwc6 (List.mem_of_getElem? (i := 121) rfl)
theorem pdX12_valueAt : yX12_valueAt.cls ≠ "java/lang/invoke/MethodHandle" ∧ yX12_valueAt.cls ≠ "java/lang/invoke/VarHandle" ∧ (parseMethodDescriptor yX12_valueAt.desc).map (fun d => d.parameters.length) = some 2 := by decide +kernel
set_option maxRecDepth 20000 in
theorem imX12_valueAt : Cond.instanceMethod yX12_valueAt ∈ lw_tbl := lwc6 (List.mem_of_getElem? (i := 120) rfl)
set_option maxRecDepth 20000 in
theorem slX12_valueAt : Cond.selects yX12_valueAt.cls yX12_valueAt yX12_valueAt ∈ lw_tbl := lw_at 51 rfl
set_option maxRecDepth 20000 in
theorem coX12_above : Cond.code yX12_above cX12_above 1 (some FieldType.int) ∈ lw_tbl := lwc5 (List.mem_of_getElem? (i := 172) rfl)
theorem pdX12_above : yX12_above.cls ≠ "java/lang/invoke/MethodHandle" ∧ yX12_above.cls ≠ "java/lang/invoke/VarHandle" ∧ (parseMethodDescriptor yX12_above.desc).map (fun d => d.parameters.length) = some 1 := by decide +kernel
set_option maxRecDepth 20000 in
theorem stX12_above : Cond.static yX12_above ∈ lw_tbl := lwc5 (List.mem_of_getElem? (i := 171) rfl)
set_option maxRecDepth 20000 in
theorem coX12_below : Cond.code yX12_below cX12_below 1 (some FieldType.int) ∈ lw_tbl := lwc5 (List.mem_of_getElem? (i := 179) rfl)
theorem pdX12_below : yX12_below.cls ≠ "java/lang/invoke/MethodHandle" ∧ yX12_below.cls ≠ "java/lang/invoke/VarHandle" ∧ (parseMethodDescriptor yX12_below.desc).map (fun d => d.parameters.length) = some 1 := by decide +kernel
set_option maxRecDepth 20000 in
theorem stX12_below : Cond.static yX12_below ∈ lw_tbl := lwc5 (List.mem_of_getElem? (i := 178) rfl)
set_option maxRecDepth 20000 in
theorem coX12_isNought : Cond.code yX12_isNought cX12_isNought 2 (some FieldType.boolean) ∈ lw_tbl := lwc6 (List.mem_of_getElem? (i := 139) rfl)
theorem pdX12_isNought : yX12_isNought.cls ≠ "java/lang/invoke/MethodHandle" ∧ yX12_isNought.cls ≠ "java/lang/invoke/VarHandle" ∧ (parseMethodDescriptor yX12_isNought.desc).map (fun d => d.parameters.length) = some 1 := by decide +kernel
set_option maxRecDepth 20000 in
theorem imX12_isNought : Cond.instanceMethod yX12_isNought ∈ lw_tbl := lwc6 (List.mem_of_getElem? (i := 138) rfl)
set_option maxRecDepth 20000 in
theorem slX12_isNought : Cond.selects yX12_isNought.cls yX12_isNought yX12_isNought ∈ lw_tbl := lw_at 53 rfl
set_option maxRecDepth 20000 in
theorem coX12_shortens : Cond.code yX12_shortens cX12_shortens 3 none ∈ lw_tbl := lwc6 (List.mem_of_getElem? (i := 199) rfl)
theorem pdX12_shortens : yX12_shortens.cls ≠ "java/lang/invoke/MethodHandle" ∧ yX12_shortens.cls ≠ "java/lang/invoke/VarHandle" ∧ (parseMethodDescriptor yX12_shortens.desc).map (fun d => d.parameters.length) = some 1 := by decide +kernel
set_option maxRecDepth 20000 in
theorem imX12_shortens : Cond.instanceMethod yX12_shortens ∈ lw_tbl := lwc6 (List.mem_of_getElem? (i := 198) rfl)
set_option maxRecDepth 20000 in
theorem slX12_shortens : Cond.selects yX12_shortens.cls yX12_shortens yX12_shortens ∈ lw_tbl := lw_at 65 rfl
set_option maxRecDepth 20000 in
theorem coX12_nought : Cond.code yX12_nought cX12_nought 2 none ∈ lw_tbl := lwc5 (List.mem_of_getElem? (i := 169) rfl)
theorem pdX12_nought : yX12_nought.cls ≠ "java/lang/invoke/MethodHandle" ∧ yX12_nought.cls ≠ "java/lang/invoke/VarHandle" ∧ (parseMethodDescriptor yX12_nought.desc).map (fun d => d.parameters.length) = some 1 := by decide +kernel
set_option maxRecDepth 20000 in
theorem imX12_nought : Cond.instanceMethod yX12_nought ∈ lw_tbl := lwc5 (List.mem_of_getElem? (i := 168) rfl)
set_option maxRecDepth 20000 in
theorem slX12_nought : Cond.selects yX12_nought.cls yX12_nought yX12_nought ∈ lw_tbl := lw_at 38 rfl
set_option maxRecDepth 20000 in
theorem coX12_takes : Cond.code yX12_takes cX12_takes 3 none ∈ lw_tbl := lwc6 (List.mem_of_getElem? (i := 235) rfl)
theorem pdX12_takes : yX12_takes.cls ≠ "java/lang/invoke/MethodHandle" ∧ yX12_takes.cls ≠ "java/lang/invoke/VarHandle" ∧ (parseMethodDescriptor yX12_takes.desc).map (fun d => d.parameters.length) = some 2 := by decide +kernel
set_option maxRecDepth 20000 in
theorem imX12_takes : Cond.instanceMethod yX12_takes ∈ lw_tbl := lwc6 (List.mem_of_getElem? (i := 234) rfl)
set_option maxRecDepth 20000 in
theorem slX12_takes : Cond.selects yX12_takes.cls yX12_takes yX12_takes ∈ lw_tbl := lw_at 74 rfl
set_option maxRecDepth 20000 in
theorem coX12_plus : Cond.code yX12_plus cX12_plus 5 none ∈ lw_tbl := lwc6 (List.mem_of_getElem? (i := 219) rfl)
theorem pdX12_plus : yX12_plus.cls ≠ "java/lang/invoke/MethodHandle" ∧ yX12_plus.cls ≠ "java/lang/invoke/VarHandle" ∧ (parseMethodDescriptor yX12_plus.desc).map (fun d => d.parameters.length) = some 4 := by decide +kernel
set_option maxRecDepth 20000 in
theorem imX12_plus : Cond.instanceMethod yX12_plus ∈ lw_tbl := lwc6 (List.mem_of_getElem? (i := 218) rfl)
set_option maxRecDepth 20000 in
theorem slX12_plus : Cond.selects yX12_plus.cls yX12_plus yX12_plus ∈ lw_tbl := lw_at 70 rfl
set_option maxRecDepth 20000 in
theorem coX12_multiplies : Cond.code yX12_multiplies cX12_multiplies 4 none ∈ lw_tbl := lwc6 (List.mem_of_getElem? (i := 187) rfl)
theorem pdX12_multiplies : yX12_multiplies.cls ≠ "java/lang/invoke/MethodHandle" ∧ yX12_multiplies.cls ≠ "java/lang/invoke/VarHandle" ∧ (parseMethodDescriptor yX12_multiplies.desc).map (fun d => d.parameters.length) = some 3 := by decide +kernel
set_option maxRecDepth 20000 in
theorem imX12_multiplies : Cond.instanceMethod yX12_multiplies ∈ lw_tbl := lwc6 (List.mem_of_getElem? (i := 186) rfl)
set_option maxRecDepth 20000 in
theorem slX12_multiplies : Cond.selects yX12_multiplies.cls yX12_multiplies yX12_multiplies ∈ lw_tbl := lw_at 62 rfl
set_option maxRecDepth 20000 in
theorem coX12_quotient : Cond.code yX12_quotient cX12_quotient 4 none ∈ lw_tbl := lwc6 (List.mem_of_getElem? (i := 239) rfl)
theorem pdX12_quotient : yX12_quotient.cls ≠ "java/lang/invoke/MethodHandle" ∧ yX12_quotient.cls ≠ "java/lang/invoke/VarHandle" ∧ (parseMethodDescriptor yX12_quotient.desc).map (fun d => d.parameters.length) = some 3 := by decide +kernel
set_option maxRecDepth 20000 in
theorem imX12_quotient : Cond.instanceMethod yX12_quotient ∈ lw_tbl := lwc6 (List.mem_of_getElem? (i := 238) rfl)
set_option maxRecDepth 20000 in
theorem slX12_quotient : Cond.selects yX12_quotient.cls yX12_quotient yX12_quotient ∈ lw_tbl := lw_at 75 rfl
set_option maxRecDepth 20000 in
theorem coX12_derived : Cond.code yX12_derived cX12_derived 3 none ∈ lw_tbl := lwc7 (List.mem_of_getElem? (i := 15) rfl)
theorem pdX12_derived : yX12_derived.cls ≠ "java/lang/invoke/MethodHandle" ∧ yX12_derived.cls ≠ "java/lang/invoke/VarHandle" ∧ (parseMethodDescriptor yX12_derived.desc).map (fun d => d.parameters.length) = some 2 := by decide +kernel
set_option maxRecDepth 20000 in
theorem imX12_derived : Cond.instanceMethod yX12_derived ∈ lw_tbl := lwc7 (List.mem_of_getElem? (i := 14) rfl)
set_option maxRecDepth 20000 in
theorem slX12_derived : Cond.selects yX12_derived.cls yX12_derived yX12_derived ∈ lw_tbl := lw_at 78 rfl
set_option maxRecDepth 20000 in
theorem coX12_isTerm : Cond.code yX12_isTerm cX12_isTerm 2 (some FieldType.boolean) ∈ lw_tbl := lwc6 (List.mem_of_getElem? (i := 231) rfl)
theorem pdX12_isTerm : yX12_isTerm.cls ≠ "java/lang/invoke/MethodHandle" ∧ yX12_isTerm.cls ≠ "java/lang/invoke/VarHandle" ∧ (parseMethodDescriptor yX12_isTerm.desc).map (fun d => d.parameters.length) = some 1 := by decide +kernel
set_option maxRecDepth 20000 in
theorem imX12_isTerm : Cond.instanceMethod yX12_isTerm ∈ lw_tbl := lwc6 (List.mem_of_getElem? (i := 230) rfl)
set_option maxRecDepth 20000 in
theorem slX12_isTerm : Cond.selects yX12_isTerm.cls yX12_isTerm yX12_isTerm ∈ lw_tbl := lw_at 73 rfl
set_option maxRecDepth 20000 in
theorem coX12_isSame : Cond.code yX12_isSame cX12_isSame 5 (some FieldType.boolean) ∈ lw_tbl := lwc6 (List.mem_of_getElem? (i := 159) rfl)
theorem pdX12_isSame : yX12_isSame.cls ≠ "java/lang/invoke/MethodHandle" ∧ yX12_isSame.cls ≠ "java/lang/invoke/VarHandle" ∧ (parseMethodDescriptor yX12_isSame.desc).map (fun d => d.parameters.length) = some 2 := by decide +kernel
set_option maxRecDepth 20000 in
theorem imX12_isSame : Cond.instanceMethod yX12_isSame ∈ lw_tbl := lwc6 (List.mem_of_getElem? (i := 158) rfl)
set_option maxRecDepth 20000 in
theorem slX12_isSame : Cond.selects yX12_isSame.cls yX12_isSame yX12_isSame ∈ lw_tbl := lw_at 58 rfl
set_option maxRecDepth 20000 in
theorem coX12_init : Cond.code yX12_init cX12_init 2 none ∈ lw_tbl := lwc5 (List.mem_of_getElem? (i := 164) rfl)
theorem pdX12_init : yX12_init.cls ≠ "java/lang/invoke/MethodHandle" ∧ yX12_init.cls ≠ "java/lang/invoke/VarHandle" ∧ (parseMethodDescriptor yX12_init.desc).map (fun d => d.parameters.length) = some 0 := by decide +kernel
set_option maxRecDepth 20000 in
theorem imX12_init : Cond.instanceMethod yX12_init ∈ lw_tbl := lwc5 (List.mem_of_getElem? (i := 163) rfl)
set_option maxRecDepth 20000 in
theorem coX12_term : Cond.code yX12_term cX12_term 2 (some FieldType.int) ∈ lw_tbl := lwc6 (List.mem_of_getElem? (i := 77) rfl)
theorem pdX12_term : yX12_term.cls ≠ "java/lang/invoke/MethodHandle" ∧ yX12_term.cls ≠ "java/lang/invoke/VarHandle" ∧ (parseMethodDescriptor yX12_term.desc).map (fun d => d.parameters.length) = some 2 := by decide +kernel
set_option maxRecDepth 20000 in
theorem stX12_term : Cond.static yX12_term ∈ lw_tbl := lwc6 (List.mem_of_getElem? (i := 76) rfl)
set_option maxRecDepth 20000 in
theorem coX12_isTermOf : Cond.code yX12_isTermOf cX12_isTermOf 2 (some FieldType.boolean) ∈ lw_tbl := lwc6 (List.mem_of_getElem? (i := 71) rfl)
theorem pdX12_isTermOf : yX12_isTermOf.cls ≠ "java/lang/invoke/MethodHandle" ∧ yX12_isTermOf.cls ≠ "java/lang/invoke/VarHandle" ∧ (parseMethodDescriptor yX12_isTermOf.desc).map (fun d => d.parameters.length) = some 2 := by decide +kernel
set_option maxRecDepth 20000 in
theorem stX12_isTermOf : Cond.static yX12_isTermOf ∈ lw_tbl := lwc6 (List.mem_of_getElem? (i := 70) rfl)
set_option maxRecDepth 20000 in
theorem coX12_isFunction : Cond.code yX12_isFunction cX12_isFunction 1 (some FieldType.boolean) ∈ lw_tbl := lwc6 (List.mem_of_getElem? (i := 131) rfl)
theorem pdX12_isFunction : yX12_isFunction.cls ≠ "java/lang/invoke/MethodHandle" ∧ yX12_isFunction.cls ≠ "java/lang/invoke/VarHandle" ∧ (parseMethodDescriptor yX12_isFunction.desc).map (fun d => d.parameters.length) = some 1 := by decide +kernel
set_option maxRecDepth 20000 in
theorem stX12_isFunction : Cond.static yX12_isFunction ∈ lw_tbl := lwc6 (List.mem_of_getElem? (i := 130) rfl)
set_option maxRecDepth 20000 in
theorem coX12_laysRow : Cond.code yX12_laysRow cX12_laysRow 5 none ∈ lw_tbl := lwc6 (List.mem_of_getElem? (i := 56) rfl)
theorem pdX12_laysRow : yX12_laysRow.cls ≠ "java/lang/invoke/MethodHandle" ∧ yX12_laysRow.cls ≠ "java/lang/invoke/VarHandle" ∧ (parseMethodDescriptor yX12_laysRow.desc).map (fun d => d.parameters.length) = some 2 := by decide +kernel
set_option maxRecDepth 20000 in
theorem imX12_laysRow : Cond.instanceMethod yX12_laysRow ∈ lw_tbl := lwc6 (List.mem_of_getElem? (i := 55) rfl)
set_option maxRecDepth 20000 in
theorem slX12_laysRow : Cond.selects yX12_laysRow.cls yX12_laysRow yX12_laysRow ∈ lw_tbl := lw_at 42 rfl
set_option maxRecDepth 20000 in
theorem coX12_fromRow : Cond.code yX12_fromRow cX12_fromRow 5 none ∈ lw_tbl := lwc6 (List.mem_of_getElem? (i := 48) rfl)
theorem pdX12_fromRow : yX12_fromRow.cls ≠ "java/lang/invoke/MethodHandle" ∧ yX12_fromRow.cls ≠ "java/lang/invoke/VarHandle" ∧ (parseMethodDescriptor yX12_fromRow.desc).map (fun d => d.parameters.length) = some 2 := by decide +kernel
set_option maxRecDepth 20000 in
theorem imX12_fromRow : Cond.instanceMethod yX12_fromRow ∈ lw_tbl := lwc6 (List.mem_of_getElem? (i := 47) rfl)
set_option maxRecDepth 20000 in
theorem slX12_fromRow : Cond.selects yX12_fromRow.cls yX12_fromRow yX12_fromRow ∈ lw_tbl := lw_at 41 rfl
set_option maxRecDepth 20000 in
theorem coX12_remembers : Cond.code yX12_remembers cX12_remembers 1 none ∈ lw_tbl := lwc6 (List.mem_of_getElem? (i := 171) rfl)
theorem pdX12_remembers : yX12_remembers.cls ≠ "java/lang/invoke/MethodHandle" ∧ yX12_remembers.cls ≠ "java/lang/invoke/VarHandle" ∧ (parseMethodDescriptor yX12_remembers.desc).map (fun d => d.parameters.length) = some 0 := by decide +kernel
set_option maxRecDepth 20000 in
theorem imX12_remembers : Cond.instanceMethod yX12_remembers ∈ lw_tbl := lwc6 (List.mem_of_getElem? (i := 170) rfl)
set_option maxRecDepth 20000 in
theorem slX12_remembers : Cond.selects yX12_remembers.cls yX12_remembers yX12_remembers ∈ lw_tbl := lw_at 59 rfl
set_option maxRecDepth 20000 in
theorem coX12_undo : Cond.code yX12_undo cX12_undo 1 (some FieldType.int) ∈ lw_tbl := lwc6 (List.mem_of_getElem? (i := 44) rfl)
theorem pdX12_undo : yX12_undo.cls ≠ "java/lang/invoke/MethodHandle" ∧ yX12_undo.cls ≠ "java/lang/invoke/VarHandle" ∧ (parseMethodDescriptor yX12_undo.desc).map (fun d => d.parameters.length) = some 0 := by decide +kernel
set_option maxRecDepth 20000 in
theorem imX12_undo : Cond.instanceMethod yX12_undo ∈ lw_tbl := lwc6 (List.mem_of_getElem? (i := 42) rfl)
set_option maxRecDepth 20000 in
theorem slX12_undo : Cond.selects yX12_undo.cls yX12_undo yX12_undo ∈ lw_tbl := lwc6 (List.mem_of_getElem? (i := 43) rfl)
set_option maxRecDepth 20000 in
theorem coX12_image : Cond.code yX12_image cX12_image 2 (some FieldType.int) ∈ lw_tbl := lwc6 (List.mem_of_getElem? (i := 52) rfl)
theorem pdX12_image : yX12_image.cls ≠ "java/lang/invoke/MethodHandle" ∧ yX12_image.cls ≠ "java/lang/invoke/VarHandle" ∧ (parseMethodDescriptor yX12_image.desc).map (fun d => d.parameters.length) = some 0 := by decide +kernel
set_option maxRecDepth 20000 in
theorem imX12_image : Cond.instanceMethod yX12_image ∈ lw_tbl := lwc6 (List.mem_of_getElem? (i := 50) rfl)
set_option maxRecDepth 20000 in
theorem slX12_image : Cond.selects yX12_image.cls yX12_image yX12_image ∈ lw_tbl := lwc6 (List.mem_of_getElem? (i := 51) rfl)
set_option maxRecDepth 20000 in
theorem coX12_restore : Cond.code yX12_restore cX12_restore 2 (some FieldType.int) ∈ lw_tbl := lwc6 (List.mem_of_getElem? (i := 60) rfl)
theorem pdX12_restore : yX12_restore.cls ≠ "java/lang/invoke/MethodHandle" ∧ yX12_restore.cls ≠ "java/lang/invoke/VarHandle" ∧ (parseMethodDescriptor yX12_restore.desc).map (fun d => d.parameters.length) = some 0 := by decide +kernel
set_option maxRecDepth 20000 in
theorem imX12_restore : Cond.instanceMethod yX12_restore ∈ lw_tbl := lwc6 (List.mem_of_getElem? (i := 58) rfl)
set_option maxRecDepth 20000 in
theorem slX12_restore : Cond.selects yX12_restore.cls yX12_restore yX12_restore ∈ lw_tbl := lwc6 (List.mem_of_getElem? (i := 59) rfl)
set_option maxRecDepth 20000 in
theorem coX12_seed : Cond.code yX12_seed cX12_seed 3 (some FieldType.int) ∈ lw_tbl := lwc6 (List.mem_of_getElem? (i := 64) rfl)
theorem pdX12_seed : yX12_seed.cls ≠ "java/lang/invoke/MethodHandle" ∧ yX12_seed.cls ≠ "java/lang/invoke/VarHandle" ∧ (parseMethodDescriptor yX12_seed.desc).map (fun d => d.parameters.length) = some 1 := by decide +kernel
set_option maxRecDepth 20000 in
theorem imX12_seed : Cond.instanceMethod yX12_seed ∈ lw_tbl := lwc6 (List.mem_of_getElem? (i := 62) rfl)
set_option maxRecDepth 20000 in
theorem slX12_seed : Cond.selects yX12_seed.cls yX12_seed yX12_seed ∈ lw_tbl := lwc6 (List.mem_of_getElem? (i := 63) rfl)
set_option maxRecDepth 20000 in
theorem coX12_numberOf : Cond.code yX12_numberOf cX12_numberOf 2 (some FieldType.int) ∈ lw_tbl := lwc6 (List.mem_of_getElem? (i := 113) rfl)
theorem pdX12_numberOf : yX12_numberOf.cls ≠ "java/lang/invoke/MethodHandle" ∧ yX12_numberOf.cls ≠ "java/lang/invoke/VarHandle" ∧ (parseMethodDescriptor yX12_numberOf.desc).map (fun d => d.parameters.length) = some 1 := by decide +kernel
set_option maxRecDepth 20000 in
theorem imX12_numberOf : Cond.instanceMethod yX12_numberOf ∈ lw_tbl := lwc6 (List.mem_of_getElem? (i := 112) rfl)
set_option maxRecDepth 20000 in
theorem slX12_numberOf : Cond.selects yX12_numberOf.cls yX12_numberOf yX12_numberOf ∈ lw_tbl := lw_at 49 rfl
set_option maxRecDepth 20000 in
theorem coX12_coef : Cond.code yX12_coef cX12_coef 5 (some FieldType.int) ∈ lw_tbl := lwc6 (List.mem_of_getElem? (i := 68) rfl)
theorem pdX12_coef : yX12_coef.cls ≠ "java/lang/invoke/MethodHandle" ∧ yX12_coef.cls ≠ "java/lang/invoke/VarHandle" ∧ (parseMethodDescriptor yX12_coef.desc).map (fun d => d.parameters.length) = some 4 := by decide +kernel
set_option maxRecDepth 20000 in
theorem imX12_coef : Cond.instanceMethod yX12_coef ∈ lw_tbl := lwc6 (List.mem_of_getElem? (i := 66) rfl)
set_option maxRecDepth 20000 in
theorem slX12_coef : Cond.selects yX12_coef.cls yX12_coef yX12_coef ∈ lw_tbl := lwc6 (List.mem_of_getElem? (i := 67) rfl)
set_option maxRecDepth 20000 in
theorem coX12_says : Cond.code yX12_says cX12_says 2 none ∈ lw_tbl := lwc6 (List.mem_of_getElem? (i := 101) rfl)
theorem pdX12_says : yX12_says.cls ≠ "java/lang/invoke/MethodHandle" ∧ yX12_says.cls ≠ "java/lang/invoke/VarHandle" ∧ (parseMethodDescriptor yX12_says.desc).map (fun d => d.parameters.length) = some 1 := by decide +kernel
set_option maxRecDepth 20000 in
theorem imX12_says : Cond.instanceMethod yX12_says ∈ lw_tbl := lwc6 (List.mem_of_getElem? (i := 100) rfl)
set_option maxRecDepth 20000 in
theorem slX12_says : Cond.selects yX12_says.cls yX12_says yX12_says ∈ lw_tbl := lw_at 47 rfl
set_option maxRecDepth 20000 in
theorem coX12_figures : Cond.code yX12_figures cX12_figures 2 none ∈ lw_tbl := lwc6 (List.mem_of_getElem? (i := 105) rfl)
theorem pdX12_figures : yX12_figures.cls ≠ "java/lang/invoke/MethodHandle" ∧ yX12_figures.cls ≠ "java/lang/invoke/VarHandle" ∧ (parseMethodDescriptor yX12_figures.desc).map (fun d => d.parameters.length) = some 1 := by decide +kernel
set_option maxRecDepth 20000 in
theorem imX12_figures : Cond.instanceMethod yX12_figures ∈ lw_tbl := lwc6 (List.mem_of_getElem? (i := 104) rfl)
set_option maxRecDepth 20000 in
theorem slX12_figures : Cond.selects yX12_figures.cls yX12_figures yX12_figures ∈ lw_tbl := lw_at 48 rfl
set_option maxRecDepth 20000 in
theorem coX12_tellsPolynomial : Cond.code yX12_tellsPolynomial cX12_tellsPolynomial 5 none ∈ lw_tbl := lwc6 (List.mem_of_getElem? (i := 97) rfl)
theorem pdX12_tellsPolynomial : yX12_tellsPolynomial.cls ≠ "java/lang/invoke/MethodHandle" ∧ yX12_tellsPolynomial.cls ≠ "java/lang/invoke/VarHandle" ∧ (parseMethodDescriptor yX12_tellsPolynomial.desc).map (fun d => d.parameters.length) = some 1 := by decide +kernel
set_option maxRecDepth 20000 in
theorem imX12_tellsPolynomial : Cond.instanceMethod yX12_tellsPolynomial ∈ lw_tbl := lwc6 (List.mem_of_getElem? (i := 96) rfl)
set_option maxRecDepth 20000 in
theorem slX12_tellsPolynomial : Cond.selects yX12_tellsPolynomial.cls yX12_tellsPolynomial yX12_tellsPolynomial ∈ lw_tbl := lw_at 46 rfl
set_option maxRecDepth 20000 in
theorem coX12_tells : Cond.code yX12_tells cX12_tells 2 (some FieldType.int) ∈ lw_tbl := lwc6 (List.mem_of_getElem? (i := 89) rfl)
theorem pdX12_tells : yX12_tells.cls ≠ "java/lang/invoke/MethodHandle" ∧ yX12_tells.cls ≠ "java/lang/invoke/VarHandle" ∧ (parseMethodDescriptor yX12_tells.desc).map (fun d => d.parameters.length) = some 1 := by decide +kernel
set_option maxRecDepth 20000 in
theorem imX12_tells : Cond.instanceMethod yX12_tells ∈ lw_tbl := lwc6 (List.mem_of_getElem? (i := 88) rfl)
set_option maxRecDepth 20000 in
theorem slX12_tells : Cond.selects yX12_tells.cls yX12_tells yX12_tells ∈ lw_tbl := lw_at 44 rfl
set_option maxRecDepth 20000 in
theorem coX12_letter : Cond.code yX12_letter cX12_letter 4 (some FieldType.int) ∈ lw_tbl := lwc6 (List.mem_of_getElem? (i := 85) rfl)
theorem pdX12_letter : yX12_letter.cls ≠ "java/lang/invoke/MethodHandle" ∧ yX12_letter.cls ≠ "java/lang/invoke/VarHandle" ∧ (parseMethodDescriptor yX12_letter.desc).map (fun d => d.parameters.length) = some 3 := by decide +kernel
set_option maxRecDepth 20000 in
theorem imX12_letter : Cond.instanceMethod yX12_letter ∈ lw_tbl := lwc6 (List.mem_of_getElem? (i := 83) rfl)
set_option maxRecDepth 20000 in
theorem slX12_letter : Cond.selects yX12_letter.cls yX12_letter yX12_letter ∈ lw_tbl := lwc6 (List.mem_of_getElem? (i := 84) rfl)
set_option maxRecDepth 20000 in
theorem coX12_valueOf : Cond.code yX12_valueOf cX12_valueOf 4 (some FieldType.int) ∈ lw_tbl := lwc6 (List.mem_of_getElem? (i := 117) rfl)
theorem pdX12_valueOf : yX12_valueOf.cls ≠ "java/lang/invoke/MethodHandle" ∧ yX12_valueOf.cls ≠ "java/lang/invoke/VarHandle" ∧ (parseMethodDescriptor yX12_valueOf.desc).map (fun d => d.parameters.length) = some 2 := by decide +kernel
set_option maxRecDepth 20000 in
theorem imX12_valueOf : Cond.instanceMethod yX12_valueOf ∈ lw_tbl := lwc6 (List.mem_of_getElem? (i := 116) rfl)
set_option maxRecDepth 20000 in
theorem slX12_valueOf : Cond.selects yX12_valueOf.cls yX12_valueOf yX12_valueOf ∈ lw_tbl := lw_at 50 rfl
set_option maxRecDepth 20000 in
theorem coX12_value : Cond.code yX12_value cX12_value 4 (some FieldType.int) ∈ lw_tbl := lwc6 (List.mem_of_getElem? (i := 109) rfl)
theorem pdX12_value : yX12_value.cls ≠ "java/lang/invoke/MethodHandle" ∧ yX12_value.cls ≠ "java/lang/invoke/VarHandle" ∧ (parseMethodDescriptor yX12_value.desc).map (fun d => d.parameters.length) = some 3 := by decide +kernel
set_option maxRecDepth 20000 in
theorem imX12_value : Cond.instanceMethod yX12_value ∈ lw_tbl := lwc6 (List.mem_of_getElem? (i := 107) rfl)
set_option maxRecDepth 20000 in
theorem slX12_value : Cond.selects yX12_value.cls yX12_value yX12_value ∈ lw_tbl := lwc6 (List.mem_of_getElem? (i := 108) rfl)
set_option maxRecDepth 20000 in
theorem coX12_presentOf : Cond.code yX12_presentOf cX12_presentOf 4 (some FieldType.int) ∈ lw_tbl := lwc6 (List.mem_of_getElem? (i := 135) rfl)
theorem pdX12_presentOf : yX12_presentOf.cls ≠ "java/lang/invoke/MethodHandle" ∧ yX12_presentOf.cls ≠ "java/lang/invoke/VarHandle" ∧ (parseMethodDescriptor yX12_presentOf.desc).map (fun d => d.parameters.length) = some 1 := by decide +kernel
set_option maxRecDepth 20000 in
theorem imX12_presentOf : Cond.instanceMethod yX12_presentOf ∈ lw_tbl := lwc6 (List.mem_of_getElem? (i := 134) rfl)
set_option maxRecDepth 20000 in
theorem slX12_presentOf : Cond.selects yX12_presentOf.cls yX12_presentOf yX12_presentOf ∈ lw_tbl := lw_at 52 rfl
set_option maxRecDepth 20000 in
theorem coX12_isSameFunction : Cond.code yX12_isSameFunction cX12_isSameFunction 5 (some FieldType.boolean) ∈ lw_tbl := lwc6 (List.mem_of_getElem? (i := 155) rfl)
theorem pdX12_isSameFunction : yX12_isSameFunction.cls ≠ "java/lang/invoke/MethodHandle" ∧ yX12_isSameFunction.cls ≠ "java/lang/invoke/VarHandle" ∧ (parseMethodDescriptor yX12_isSameFunction.desc).map (fun d => d.parameters.length) = some 2 := by decide +kernel
set_option maxRecDepth 20000 in
theorem imX12_isSameFunction : Cond.instanceMethod yX12_isSameFunction ∈ lw_tbl := lwc6 (List.mem_of_getElem? (i := 154) rfl)
set_option maxRecDepth 20000 in
theorem slX12_isSameFunction : Cond.selects yX12_isSameFunction.cls yX12_isSameFunction yX12_isSameFunction ∈ lw_tbl := lw_at 57 rfl
set_option maxRecDepth 20000 in
theorem coX12_isBelowAlike : Cond.code yX12_isBelowAlike cX12_isBelowAlike 5 (some FieldType.boolean) ∈ lw_tbl := lwc6 (List.mem_of_getElem? (i := 147) rfl)
theorem pdX12_isBelowAlike : yX12_isBelowAlike.cls ≠ "java/lang/invoke/MethodHandle" ∧ yX12_isBelowAlike.cls ≠ "java/lang/invoke/VarHandle" ∧ (parseMethodDescriptor yX12_isBelowAlike.desc).map (fun d => d.parameters.length) = some 2 := by decide +kernel
set_option maxRecDepth 20000 in
theorem imX12_isBelowAlike : Cond.instanceMethod yX12_isBelowAlike ∈ lw_tbl := lwc6 (List.mem_of_getElem? (i := 146) rfl)
set_option maxRecDepth 20000 in
theorem slX12_isBelowAlike : Cond.selects yX12_isBelowAlike.cls yX12_isBelowAlike yX12_isBelowAlike ∈ lw_tbl := lw_at 55 rfl
set_option maxRecDepth 20000 in
theorem coX12_belows : Cond.code yX12_belows cX12_belows 6 (some FieldType.int) ∈ lw_tbl := lwc6 (List.mem_of_getElem? (i := 143) rfl)
theorem pdX12_belows : yX12_belows.cls ≠ "java/lang/invoke/MethodHandle" ∧ yX12_belows.cls ≠ "java/lang/invoke/VarHandle" ∧ (parseMethodDescriptor yX12_belows.desc).map (fun d => d.parameters.length) = some 1 := by decide +kernel
set_option maxRecDepth 20000 in
theorem imX12_belows : Cond.instanceMethod yX12_belows ∈ lw_tbl := lwc6 (List.mem_of_getElem? (i := 142) rfl)
set_option maxRecDepth 20000 in
theorem slX12_belows : Cond.selects yX12_belows.cls yX12_belows yX12_belows ∈ lw_tbl := lw_at 54 rfl
set_option maxRecDepth 20000 in
theorem coX12_fits : Cond.code yX12_fits cX12_fits 3 (some FieldType.boolean) ∈ lw_tbl := lwc6 (List.mem_of_getElem? (i := 151) rfl)
theorem pdX12_fits : yX12_fits.cls ≠ "java/lang/invoke/MethodHandle" ∧ yX12_fits.cls ≠ "java/lang/invoke/VarHandle" ∧ (parseMethodDescriptor yX12_fits.desc).map (fun d => d.parameters.length) = some 1 := by decide +kernel
set_option maxRecDepth 20000 in
theorem imX12_fits : Cond.instanceMethod yX12_fits ∈ lw_tbl := lwc6 (List.mem_of_getElem? (i := 150) rfl)
set_option maxRecDepth 20000 in
theorem slX12_fits : Cond.selects yX12_fits.cls yX12_fits yX12_fits ∈ lw_tbl := lw_at 56 rfl
set_option maxRecDepth 20000 in
theorem coX12_told : Cond.code yX12_told cX12_told 4 (some FieldType.int) ∈ lw_tbl := lwc6 (List.mem_of_getElem? (i := 128) rfl)
theorem pdX12_told : yX12_told.cls ≠ "java/lang/invoke/MethodHandle" ∧ yX12_told.cls ≠ "java/lang/invoke/VarHandle" ∧ (parseMethodDescriptor yX12_told.desc).map (fun d => d.parameters.length) = some 2 := by decide +kernel
set_option maxRecDepth 20000 in
theorem imX12_told : Cond.instanceMethod yX12_told ∈ lw_tbl := lwc6 (List.mem_of_getElem? (i := 126) rfl)
set_option maxRecDepth 20000 in
theorem slX12_told : Cond.selects yX12_told.cls yX12_told yX12_told ∈ lw_tbl := lwc6 (List.mem_of_getElem? (i := 127) rfl)
set_option maxRecDepth 20000 in
theorem coX12_count : Cond.code yX12_count cX12_count 2 (some FieldType.int) ∈ lw_tbl := lwc6 (List.mem_of_getElem? (i := 163) rfl)
theorem pdX12_count : yX12_count.cls ≠ "java/lang/invoke/MethodHandle" ∧ yX12_count.cls ≠ "java/lang/invoke/VarHandle" ∧ (parseMethodDescriptor yX12_count.desc).map (fun d => d.parameters.length) = some 1 := by decide +kernel
set_option maxRecDepth 20000 in
theorem imX12_count : Cond.instanceMethod yX12_count ∈ lw_tbl := lwc6 (List.mem_of_getElem? (i := 161) rfl)
set_option maxRecDepth 20000 in
theorem slX12_count : Cond.selects yX12_count.cls yX12_count yX12_count ∈ lw_tbl := lwc6 (List.mem_of_getElem? (i := 162) rfl)
set_option maxRecDepth 20000 in
theorem coX12_tower : Cond.code yX12_tower cX12_tower 9 (some FieldType.int) ∈ lw_tbl := lwc6 (List.mem_of_getElem? (i := 167) rfl)
theorem pdX12_tower : yX12_tower.cls ≠ "java/lang/invoke/MethodHandle" ∧ yX12_tower.cls ≠ "java/lang/invoke/VarHandle" ∧ (parseMethodDescriptor yX12_tower.desc).map (fun d => d.parameters.length) = some 5 := by decide +kernel
set_option maxRecDepth 20000 in
theorem imX12_tower : Cond.instanceMethod yX12_tower ∈ lw_tbl := lwc6 (List.mem_of_getElem? (i := 165) rfl)
set_option maxRecDepth 20000 in
theorem slX12_tower : Cond.selects yX12_tower.cls yX12_tower yX12_tower ∈ lw_tbl := lwc6 (List.mem_of_getElem? (i := 166) rfl)
set_option maxRecDepth 20000 in
theorem coX12_becomes : Cond.code yX12_becomes cX12_becomes 4 (some FieldType.int) ∈ lw_tbl := lwc6 (List.mem_of_getElem? (i := 227) rfl)
theorem pdX12_becomes : yX12_becomes.cls ≠ "java/lang/invoke/MethodHandle" ∧ yX12_becomes.cls ≠ "java/lang/invoke/VarHandle" ∧ (parseMethodDescriptor yX12_becomes.desc).map (fun d => d.parameters.length) = some 1 := by decide +kernel
set_option maxRecDepth 20000 in
theorem imX12_becomes : Cond.instanceMethod yX12_becomes ∈ lw_tbl := lwc6 (List.mem_of_getElem? (i := 226) rfl)
set_option maxRecDepth 20000 in
theorem slX12_becomes : Cond.selects yX12_becomes.cls yX12_becomes yX12_becomes ∈ lw_tbl := lw_at 72 rfl
set_option maxRecDepth 20000 in
theorem coX12_noJoins : Cond.code yX12_noJoins cX12_noJoins 2 none ∈ lw_tbl := lwc6 (List.mem_of_getElem? (i := 179) rfl)
theorem pdX12_noJoins : yX12_noJoins.cls ≠ "java/lang/invoke/MethodHandle" ∧ yX12_noJoins.cls ≠ "java/lang/invoke/VarHandle" ∧ (parseMethodDescriptor yX12_noJoins.desc).map (fun d => d.parameters.length) = some 0 := by decide +kernel
set_option maxRecDepth 20000 in
theorem imX12_noJoins : Cond.instanceMethod yX12_noJoins ∈ lw_tbl := lwc6 (List.mem_of_getElem? (i := 178) rfl)
set_option maxRecDepth 20000 in
theorem slX12_noJoins : Cond.selects yX12_noJoins.cls yX12_noJoins yX12_noJoins ∈ lw_tbl := lw_at 60 rfl
set_option maxRecDepth 20000 in
theorem coX12_multipliesAll : Cond.code yX12_multipliesAll cX12_multipliesAll 5 none ∈ lw_tbl := lwc6 (List.mem_of_getElem? (i := 183) rfl)
theorem pdX12_multipliesAll : yX12_multipliesAll.cls ≠ "java/lang/invoke/MethodHandle" ∧ yX12_multipliesAll.cls ≠ "java/lang/invoke/VarHandle" ∧ (parseMethodDescriptor yX12_multipliesAll.desc).map (fun d => d.parameters.length) = some 2 := by decide +kernel
set_option maxRecDepth 20000 in
theorem imX12_multipliesAll : Cond.instanceMethod yX12_multipliesAll ∈ lw_tbl := lwc6 (List.mem_of_getElem? (i := 182) rfl)
set_option maxRecDepth 20000 in
theorem slX12_multipliesAll : Cond.selects yX12_multipliesAll.cls yX12_multipliesAll yX12_multipliesAll ∈ lw_tbl := lw_at 61 rfl
set_option maxRecDepth 20000 in
theorem coX12_join : Cond.code yX12_join cX12_join 8 (some FieldType.int) ∈ lw_tbl := lwc6 (List.mem_of_getElem? (i := 175) rfl)
theorem pdX12_join : yX12_join.cls ≠ "java/lang/invoke/MethodHandle" ∧ yX12_join.cls ≠ "java/lang/invoke/VarHandle" ∧ (parseMethodDescriptor yX12_join.desc).map (fun d => d.parameters.length) = some 4 := by decide +kernel
set_option maxRecDepth 20000 in
theorem imX12_join : Cond.instanceMethod yX12_join ∈ lw_tbl := lwc6 (List.mem_of_getElem? (i := 173) rfl)
set_option maxRecDepth 20000 in
theorem slX12_join : Cond.selects yX12_join.cls yX12_join yX12_join ∈ lw_tbl := lwc6 (List.mem_of_getElem? (i := 174) rfl)
set_option maxRecDepth 20000 in
theorem coX12_laysTower : Cond.code yX12_laysTower cX12_laysTower 2 none ∈ lw_tbl := lwc7 (List.mem_of_getElem? (i := 7) rfl)
theorem pdX12_laysTower : yX12_laysTower.cls ≠ "java/lang/invoke/MethodHandle" ∧ yX12_laysTower.cls ≠ "java/lang/invoke/VarHandle" ∧ (parseMethodDescriptor yX12_laysTower.desc).map (fun d => d.parameters.length) = some 0 := by decide +kernel
set_option maxRecDepth 20000 in
theorem imX12_laysTower : Cond.instanceMethod yX12_laysTower ∈ lw_tbl := lwc7 (List.mem_of_getElem? (i := 6) rfl)
set_option maxRecDepth 20000 in
theorem slX12_laysTower : Cond.selects yX12_laysTower.cls yX12_laysTower yX12_laysTower ∈ lw_tbl := lw_at 76 rfl
set_option maxRecDepth 20000 in
theorem coX12_derive : Cond.code yX12_derive cX12_derive 5 (some FieldType.int) ∈ lw_tbl := lwc7 (List.mem_of_getElem? (i := 3) rfl)
theorem pdX12_derive : yX12_derive.cls ≠ "java/lang/invoke/MethodHandle" ∧ yX12_derive.cls ≠ "java/lang/invoke/VarHandle" ∧ (parseMethodDescriptor yX12_derive.desc).map (fun d => d.parameters.length) = some 2 := by decide +kernel
set_option maxRecDepth 20000 in
theorem imX12_derive : Cond.instanceMethod yX12_derive ∈ lw_tbl := lwc7 (List.mem_of_getElem? (i := 1) rfl)
set_option maxRecDepth 20000 in
theorem slX12_derive : Cond.selects yX12_derive.cls yX12_derive yX12_derive ∈ lw_tbl := lwc7 (List.mem_of_getElem? (i := 2) rfl)
set_option maxRecDepth 20000 in
theorem coX12_goes : Cond.code yX12_goes cX12_goes 1 (some FieldType.int) ∈ lw_tbl := lwc7 (List.mem_of_getElem? (i := 27) rfl)
theorem pdX12_goes : yX12_goes.cls ≠ "java/lang/invoke/MethodHandle" ∧ yX12_goes.cls ≠ "java/lang/invoke/VarHandle" ∧ (parseMethodDescriptor yX12_goes.desc).map (fun d => d.parameters.length) = some 0 := by decide +kernel
set_option maxRecDepth 20000 in
theorem imX12_goes : Cond.instanceMethod yX12_goes ∈ lw_tbl := lwc7 (List.mem_of_getElem? (i := 26) rfl)
set_option maxRecDepth 20000 in
theorem slX12_goes : Cond.selects yX12_goes.cls yX12_goes yX12_goes ∈ lw_tbl := lw_at 80 rfl
set_option maxRecDepth 20000 in
theorem coX12_drifts : Cond.code yX12_drifts cX12_drifts 6 none ∈ lw_tbl := lwc7 (List.mem_of_getElem? (i := 23) rfl)
theorem pdX12_drifts : yX12_drifts.cls ≠ "java/lang/invoke/MethodHandle" ∧ yX12_drifts.cls ≠ "java/lang/invoke/VarHandle" ∧ (parseMethodDescriptor yX12_drifts.desc).map (fun d => d.parameters.length) = some 0 := by decide +kernel
set_option maxRecDepth 20000 in
theorem imX12_drifts : Cond.instanceMethod yX12_drifts ∈ lw_tbl := lwc7 (List.mem_of_getElem? (i := 22) rfl)
set_option maxRecDepth 20000 in
theorem slX12_drifts : Cond.selects yX12_drifts.cls yX12_drifts yX12_drifts ∈ lw_tbl := lw_at 79 rfl
set_option maxRecDepth 20000 in
theorem coX12_drift : Cond.code yX12_drift cX12_drift 3 (some FieldType.int) ∈ lw_tbl := lwc7 (List.mem_of_getElem? (i := 19) rfl)
theorem pdX12_drift : yX12_drift.cls ≠ "java/lang/invoke/MethodHandle" ∧ yX12_drift.cls ≠ "java/lang/invoke/VarHandle" ∧ (parseMethodDescriptor yX12_drift.desc).map (fun d => d.parameters.length) = some 1 := by decide +kernel
set_option maxRecDepth 20000 in
theorem imX12_drift : Cond.instanceMethod yX12_drift ∈ lw_tbl := lwc7 (List.mem_of_getElem? (i := 17) rfl)
set_option maxRecDepth 20000 in
theorem slX12_drift : Cond.selects yX12_drift.cls yX12_drift yX12_drift ∈ lw_tbl := lwc7 (List.mem_of_getElem? (i := 18) rfl)
set_option maxRecDepth 20000 in
theorem coX12_column : Cond.code yX12_column cX12_column 3 none ∈ lw_tbl := lwc7 (List.mem_of_getElem? (i := 51) rfl)
theorem pdX12_column : yX12_column.cls ≠ "java/lang/invoke/MethodHandle" ∧ yX12_column.cls ≠ "java/lang/invoke/VarHandle" ∧ (parseMethodDescriptor yX12_column.desc).map (fun d => d.parameters.length) = some 1 := by decide +kernel
set_option maxRecDepth 20000 in
theorem imX12_column : Cond.instanceMethod yX12_column ∈ lw_tbl := lwc7 (List.mem_of_getElem? (i := 50) rfl)
set_option maxRecDepth 20000 in
theorem slX12_column : Cond.selects yX12_column.cls yX12_column yX12_column ∈ lw_tbl := lw_at 83 rfl
set_option maxRecDepth 20000 in
theorem coX12_solves : Cond.code yX12_solves cX12_solves 8 none ∈ lw_tbl := lwc7 (List.mem_of_getElem? (i := 55) rfl)
theorem pdX12_solves : yX12_solves.cls ≠ "java/lang/invoke/MethodHandle" ∧ yX12_solves.cls ≠ "java/lang/invoke/VarHandle" ∧ (parseMethodDescriptor yX12_solves.desc).map (fun d => d.parameters.length) = some 1 := by decide +kernel
set_option maxRecDepth 20000 in
theorem imX12_solves : Cond.instanceMethod yX12_solves ∈ lw_tbl := lwc7 (List.mem_of_getElem? (i := 54) rfl)
set_option maxRecDepth 20000 in
theorem slX12_solves : Cond.selects yX12_solves.cls yX12_solves yX12_solves ∈ lw_tbl := lw_at 84 rfl
set_option maxRecDepth 20000 in
theorem coX12_power : Cond.code yX12_power cX12_power 3 none ∈ lw_tbl := lwc7 (List.mem_of_getElem? (i := 47) rfl)
theorem pdX12_power : yX12_power.cls ≠ "java/lang/invoke/MethodHandle" ∧ yX12_power.cls ≠ "java/lang/invoke/VarHandle" ∧ (parseMethodDescriptor yX12_power.desc).map (fun d => d.parameters.length) = some 2 := by decide +kernel
set_option maxRecDepth 20000 in
theorem imX12_power : Cond.instanceMethod yX12_power ∈ lw_tbl := lwc7 (List.mem_of_getElem? (i := 46) rfl)
set_option maxRecDepth 20000 in
theorem slX12_power : Cond.selects yX12_power.cls yX12_power yX12_power ∈ lw_tbl := lw_at 82 rfl
set_option maxRecDepth 20000 in
theorem coX12_splits : Cond.code yX12_splits cX12_splits 14 none ∈ lw_tbl := lwc7 (List.mem_of_getElem? (i := 43) rfl)
theorem pdX12_splits : yX12_splits.cls ≠ "java/lang/invoke/MethodHandle" ∧ yX12_splits.cls ≠ "java/lang/invoke/VarHandle" ∧ (parseMethodDescriptor yX12_splits.desc).map (fun d => d.parameters.length) = some 4 := by decide +kernel
set_option maxRecDepth 20000 in
theorem imX12_splits : Cond.instanceMethod yX12_splits ∈ lw_tbl := lwc7 (List.mem_of_getElem? (i := 42) rfl)
set_option maxRecDepth 20000 in
theorem slX12_splits : Cond.selects yX12_splits.cls yX12_splits yX12_splits ∈ lw_tbl := lw_at 81 rfl
set_option maxRecDepth 20000 in
theorem coX12_solved : Cond.code yX12_solved cX12_solved 10 none ∈ lw_tbl := lwc7 (List.mem_of_getElem? (i := 59) rfl)
theorem pdX12_solved : yX12_solved.cls ≠ "java/lang/invoke/MethodHandle" ∧ yX12_solved.cls ≠ "java/lang/invoke/VarHandle" ∧ (parseMethodDescriptor yX12_solved.desc).map (fun d => d.parameters.length) = some 5 := by decide +kernel
set_option maxRecDepth 20000 in
theorem imX12_solved : Cond.instanceMethod yX12_solved ∈ lw_tbl := lwc7 (List.mem_of_getElem? (i := 58) rfl)
set_option maxRecDepth 20000 in
theorem slX12_solved : Cond.selects yX12_solved.cls yX12_solved yX12_solved ∈ lw_tbl := lw_at 85 rfl
set_option maxRecDepth 20000 in
theorem coX12_multiple : Cond.code yX12_multiple cX12_multiple 3 (some FieldType.int) ∈ lw_tbl := lwc7 (List.mem_of_getElem? (i := 75) rfl)
theorem pdX12_multiple : yX12_multiple.cls ≠ "java/lang/invoke/MethodHandle" ∧ yX12_multiple.cls ≠ "java/lang/invoke/VarHandle" ∧ (parseMethodDescriptor yX12_multiple.desc).map (fun d => d.parameters.length) = some 1 := by decide +kernel
set_option maxRecDepth 20000 in
theorem imX12_multiple : Cond.instanceMethod yX12_multiple ∈ lw_tbl := lwc7 (List.mem_of_getElem? (i := 74) rfl)
set_option maxRecDepth 20000 in
theorem slX12_multiple : Cond.selects yX12_multiple.cls yX12_multiple yX12_multiple ∈ lw_tbl := lw_at 88 rfl
set_option maxRecDepth 20000 in
theorem coX12_integrates : Cond.code yX12_integrates cX12_integrates 4 none ∈ lw_tbl := lwc7 (List.mem_of_getElem? (i := 71) rfl)
theorem pdX12_integrates : yX12_integrates.cls ≠ "java/lang/invoke/MethodHandle" ∧ yX12_integrates.cls ≠ "java/lang/invoke/VarHandle" ∧ (parseMethodDescriptor yX12_integrates.desc).map (fun d => d.parameters.length) = some 1 := by decide +kernel
set_option maxRecDepth 20000 in
theorem imX12_integrates : Cond.instanceMethod yX12_integrates ∈ lw_tbl := lwc7 (List.mem_of_getElem? (i := 70) rfl)
set_option maxRecDepth 20000 in
theorem slX12_integrates : Cond.selects yX12_integrates.cls yX12_integrates yX12_integrates ∈ lw_tbl := lw_at 87 rfl
set_option maxRecDepth 20000 in
theorem coX12_laysRoots : Cond.code yX12_laysRoots cX12_laysRoots 6 none ∈ lw_tbl := lwc7 (List.mem_of_getElem? (i := 87) rfl)
theorem pdX12_laysRoots : yX12_laysRoots.cls ≠ "java/lang/invoke/MethodHandle" ∧ yX12_laysRoots.cls ≠ "java/lang/invoke/VarHandle" ∧ (parseMethodDescriptor yX12_laysRoots.desc).map (fun d => d.parameters.length) = some 2 := by decide +kernel
set_option maxRecDepth 20000 in
theorem imX12_laysRoots : Cond.instanceMethod yX12_laysRoots ∈ lw_tbl := lwc7 (List.mem_of_getElem? (i := 86) rfl)
set_option maxRecDepth 20000 in
theorem slX12_laysRoots : Cond.selects yX12_laysRoots.cls yX12_laysRoots yX12_laysRoots ∈ lw_tbl := lw_at 91 rfl
set_option maxRecDepth 20000 in
theorem coX12_trace : Cond.code yX12_trace cX12_trace 5 (some FieldType.int) ∈ lw_tbl := lwc7 (List.mem_of_getElem? (i := 95) rfl)
theorem pdX12_trace : yX12_trace.cls ≠ "java/lang/invoke/MethodHandle" ∧ yX12_trace.cls ≠ "java/lang/invoke/VarHandle" ∧ (parseMethodDescriptor yX12_trace.desc).map (fun d => d.parameters.length) = some 2 := by decide +kernel
set_option maxRecDepth 20000 in
theorem imX12_trace : Cond.instanceMethod yX12_trace ∈ lw_tbl := lwc7 (List.mem_of_getElem? (i := 94) rfl)
set_option maxRecDepth 20000 in
theorem slX12_trace : Cond.selects yX12_trace.cls yX12_trace yX12_trace ∈ lw_tbl := lw_at 93 rfl
set_option maxRecDepth 20000 in
theorem coX12_undoes : Cond.code yX12_undoes cX12_undoes 3 none ∈ lw_tbl := lwc7 (List.mem_of_getElem? (i := 91) rfl)
theorem pdX12_undoes : yX12_undoes.cls ≠ "java/lang/invoke/MethodHandle" ∧ yX12_undoes.cls ≠ "java/lang/invoke/VarHandle" ∧ (parseMethodDescriptor yX12_undoes.desc).map (fun d => d.parameters.length) = some 2 := by decide +kernel
set_option maxRecDepth 20000 in
theorem imX12_undoes : Cond.instanceMethod yX12_undoes ∈ lw_tbl := lwc7 (List.mem_of_getElem? (i := 90) rfl)
set_option maxRecDepth 20000 in
theorem slX12_undoes : Cond.selects yX12_undoes.cls yX12_undoes yX12_undoes ∈ lw_tbl := lw_at 92 rfl
set_option maxRecDepth 20000 in
theorem coX12_laysResidues : Cond.code yX12_laysResidues cX12_laysResidues 7 none ∈ lw_tbl := lwc7 (List.mem_of_getElem? (i := 83) rfl)
theorem pdX12_laysResidues : yX12_laysResidues.cls ≠ "java/lang/invoke/MethodHandle" ∧ yX12_laysResidues.cls ≠ "java/lang/invoke/VarHandle" ∧ (parseMethodDescriptor yX12_laysResidues.desc).map (fun d => d.parameters.length) = some 0 := by decide +kernel
set_option maxRecDepth 20000 in
theorem imX12_laysResidues : Cond.instanceMethod yX12_laysResidues ∈ lw_tbl := lwc7 (List.mem_of_getElem? (i := 82) rfl)
set_option maxRecDepth 20000 in
theorem slX12_laysResidues : Cond.selects yX12_laysResidues.cls yX12_laysResidues yX12_laysResidues ∈ lw_tbl := lw_at 90 rfl
set_option maxRecDepth 20000 in
theorem coX12_residueOf : Cond.code yX12_residueOf cX12_residueOf 4 (some FieldType.int) ∈ lw_tbl := lwc7 (List.mem_of_getElem? (i := 119) rfl)
theorem pdX12_residueOf : yX12_residueOf.cls ≠ "java/lang/invoke/MethodHandle" ∧ yX12_residueOf.cls ≠ "java/lang/invoke/VarHandle" ∧ (parseMethodDescriptor yX12_residueOf.desc).map (fun d => d.parameters.length) = some 1 := by decide +kernel
set_option maxRecDepth 20000 in
theorem imX12_residueOf : Cond.instanceMethod yX12_residueOf ∈ lw_tbl := lwc7 (List.mem_of_getElem? (i := 118) rfl)
set_option maxRecDepth 20000 in
theorem slX12_residueOf : Cond.selects yX12_residueOf.cls yX12_residueOf yX12_residueOf ∈ lw_tbl := lw_at 95 rfl
set_option maxRecDepth 20000 in
theorem coX12_laysLog : Cond.code yX12_laysLog cX12_laysLog 3 none ∈ lw_tbl := lwc7 (List.mem_of_getElem? (i := 99) rfl)
theorem pdX12_laysLog : yX12_laysLog.cls ≠ "java/lang/invoke/MethodHandle" ∧ yX12_laysLog.cls ≠ "java/lang/invoke/VarHandle" ∧ (parseMethodDescriptor yX12_laysLog.desc).map (fun d => d.parameters.length) = some 1 := by decide +kernel
set_option maxRecDepth 20000 in
theorem imX12_laysLog : Cond.instanceMethod yX12_laysLog ∈ lw_tbl := lwc7 (List.mem_of_getElem? (i := 98) rfl)
set_option maxRecDepth 20000 in
theorem slX12_laysLog : Cond.selects yX12_laysLog.cls yX12_laysLog yX12_laysLog ∈ lw_tbl := lw_at 94 rfl
set_option maxRecDepth 20000 in
theorem coX12_laysLogs : Cond.code yX12_laysLogs cX12_laysLogs 2 none ∈ lw_tbl := lwc7 (List.mem_of_getElem? (i := 79) rfl)
theorem pdX12_laysLogs : yX12_laysLogs.cls ≠ "java/lang/invoke/MethodHandle" ∧ yX12_laysLogs.cls ≠ "java/lang/invoke/VarHandle" ∧ (parseMethodDescriptor yX12_laysLogs.desc).map (fun d => d.parameters.length) = some 0 := by decide +kernel
set_option maxRecDepth 20000 in
theorem imX12_laysLogs : Cond.instanceMethod yX12_laysLogs ∈ lw_tbl := lwc7 (List.mem_of_getElem? (i := 78) rfl)
set_option maxRecDepth 20000 in
theorem slX12_laysLogs : Cond.selects yX12_laysLogs.cls yX12_laysLogs yX12_laysLogs ∈ lw_tbl := lw_at 89 rfl
set_option maxRecDepth 20000 in
theorem coX12_part : Cond.code yX12_part cX12_part 6 (some FieldType.int) ∈ lw_tbl := lwc7 (List.mem_of_getElem? (i := 35) rfl)
theorem pdX12_part : yX12_part.cls ≠ "java/lang/invoke/MethodHandle" ∧ yX12_part.cls ≠ "java/lang/invoke/VarHandle" ∧ (parseMethodDescriptor yX12_part.desc).map (fun d => d.parameters.length) = some 4 := by decide +kernel
set_option maxRecDepth 20000 in
theorem imX12_part : Cond.instanceMethod yX12_part ∈ lw_tbl := lwc7 (List.mem_of_getElem? (i := 33) rfl)
set_option maxRecDepth 20000 in
theorem slX12_part : Cond.selects yX12_part.cls yX12_part yX12_part ∈ lw_tbl := lwc7 (List.mem_of_getElem? (i := 34) rfl)
set_option maxRecDepth 20000 in
theorem coX12_split : Cond.code yX12_split cX12_split 5 (some FieldType.int) ∈ lw_tbl := lwc7 (List.mem_of_getElem? (i := 39) rfl)
theorem pdX12_split : yX12_split.cls ≠ "java/lang/invoke/MethodHandle" ∧ yX12_split.cls ≠ "java/lang/invoke/VarHandle" ∧ (parseMethodDescriptor yX12_split.desc).map (fun d => d.parameters.length) = some 4 := by decide +kernel
set_option maxRecDepth 20000 in
theorem imX12_split : Cond.instanceMethod yX12_split ∈ lw_tbl := lwc7 (List.mem_of_getElem? (i := 37) rfl)
set_option maxRecDepth 20000 in
theorem slX12_split : Cond.selects yX12_split.cls yX12_split yX12_split ∈ lw_tbl := lwc7 (List.mem_of_getElem? (i := 38) rfl)
set_option maxRecDepth 20000 in
theorem coX12_integratesFunction : Cond.code yX12_integratesFunction cX12_integratesFunction 2 none ∈ lw_tbl := lwc7 (List.mem_of_getElem? (i := 67) rfl)
theorem pdX12_integratesFunction : yX12_integratesFunction.cls ≠ "java/lang/invoke/MethodHandle" ∧ yX12_integratesFunction.cls ≠ "java/lang/invoke/VarHandle" ∧ (parseMethodDescriptor yX12_integratesFunction.desc).map (fun d => d.parameters.length) = some 1 := by decide +kernel
set_option maxRecDepth 20000 in
theorem imX12_integratesFunction : Cond.instanceMethod yX12_integratesFunction ∈ lw_tbl := lwc7 (List.mem_of_getElem? (i := 66) rfl)
set_option maxRecDepth 20000 in
theorem slX12_integratesFunction : Cond.selects yX12_integratesFunction.cls yX12_integratesFunction yX12_integratesFunction ∈ lw_tbl := lw_at 86 rfl
set_option maxRecDepth 20000 in
theorem coX12_asked : Cond.code yX12_asked cX12_asked 3 (some FieldType.int) ∈ lw_tbl := lwc7 (List.mem_of_getElem? (i := 63) rfl)
theorem pdX12_asked : yX12_asked.cls ≠ "java/lang/invoke/MethodHandle" ∧ yX12_asked.cls ≠ "java/lang/invoke/VarHandle" ∧ (parseMethodDescriptor yX12_asked.desc).map (fun d => d.parameters.length) = some 2 := by decide +kernel
set_option maxRecDepth 20000 in
theorem imX12_asked : Cond.instanceMethod yX12_asked ∈ lw_tbl := lwc7 (List.mem_of_getElem? (i := 61) rfl)
set_option maxRecDepth 20000 in
theorem slX12_asked : Cond.selects yX12_asked.cls yX12_asked yX12_asked ∈ lw_tbl := lwc7 (List.mem_of_getElem? (i := 62) rfl)
set_option maxRecDepth 20000 in
theorem coX12_integral : Cond.code yX12_integral cX12_integral 5 (some FieldType.int) ∈ lw_tbl := lwc7 (List.mem_of_getElem? (i := 103) rfl)
theorem pdX12_integral : yX12_integral.cls ≠ "java/lang/invoke/MethodHandle" ∧ yX12_integral.cls ≠ "java/lang/invoke/VarHandle" ∧ (parseMethodDescriptor yX12_integral.desc).map (fun d => d.parameters.length) = some 4 := by decide +kernel
set_option maxRecDepth 20000 in
theorem imX12_integral : Cond.instanceMethod yX12_integral ∈ lw_tbl := lwc7 (List.mem_of_getElem? (i := 101) rfl)
set_option maxRecDepth 20000 in
theorem slX12_integral : Cond.selects yX12_integral.cls yX12_integral yX12_integral ∈ lw_tbl := lwc7 (List.mem_of_getElem? (i := 102) rfl)
set_option maxRecDepth 20000 in
theorem coX12_left : Cond.code yX12_left cX12_left 5 (some FieldType.int) ∈ lw_tbl := lwc7 (List.mem_of_getElem? (i := 107) rfl)
theorem pdX12_left : yX12_left.cls ≠ "java/lang/invoke/MethodHandle" ∧ yX12_left.cls ≠ "java/lang/invoke/VarHandle" ∧ (parseMethodDescriptor yX12_left.desc).map (fun d => d.parameters.length) = some 4 := by decide +kernel
set_option maxRecDepth 20000 in
theorem imX12_left : Cond.instanceMethod yX12_left ∈ lw_tbl := lwc7 (List.mem_of_getElem? (i := 105) rfl)
set_option maxRecDepth 20000 in
theorem slX12_left : Cond.selects yX12_left.cls yX12_left yX12_left ∈ lw_tbl := lwc7 (List.mem_of_getElem? (i := 106) rfl)
set_option maxRecDepth 20000 in
theorem coX12_residue : Cond.code yX12_residue cX12_residue 3 (some FieldType.int) ∈ lw_tbl := lwc7 (List.mem_of_getElem? (i := 111) rfl)
theorem pdX12_residue : yX12_residue.cls ≠ "java/lang/invoke/MethodHandle" ∧ yX12_residue.cls ≠ "java/lang/invoke/VarHandle" ∧ (parseMethodDescriptor yX12_residue.desc).map (fun d => d.parameters.length) = some 2 := by decide +kernel
set_option maxRecDepth 20000 in
theorem imX12_residue : Cond.instanceMethod yX12_residue ∈ lw_tbl := lwc7 (List.mem_of_getElem? (i := 109) rfl)
set_option maxRecDepth 20000 in
theorem slX12_residue : Cond.selects yX12_residue.cls yX12_residue yX12_residue ∈ lw_tbl := lwc7 (List.mem_of_getElem? (i := 110) rfl)
set_option maxRecDepth 20000 in
theorem coX12_log : Cond.code yX12_log cX12_log 6 (some FieldType.int) ∈ lw_tbl := lwc7 (List.mem_of_getElem? (i := 115) rfl)
theorem pdX12_log : yX12_log.cls ≠ "java/lang/invoke/MethodHandle" ∧ yX12_log.cls ≠ "java/lang/invoke/VarHandle" ∧ (parseMethodDescriptor yX12_log.desc).map (fun d => d.parameters.length) = some 4 := by decide +kernel
set_option maxRecDepth 20000 in
theorem imX12_log : Cond.instanceMethod yX12_log ∈ lw_tbl := lwc7 (List.mem_of_getElem? (i := 113) rfl)
set_option maxRecDepth 20000 in
theorem slX12_log : Cond.selects yX12_log.cls yX12_log yX12_log ∈ lw_tbl := lwc7 (List.mem_of_getElem? (i := 114) rfl)
set_option maxRecDepth 20000 in
theorem coX12_pencil : Cond.code yX12_pencil cX12_pencil 8 (some FieldType.int) ∈ lw_tbl := lwc7 (List.mem_of_getElem? (i := 123) rfl)
theorem pdX12_pencil : yX12_pencil.cls ≠ "java/lang/invoke/MethodHandle" ∧ yX12_pencil.cls ≠ "java/lang/invoke/VarHandle" ∧ (parseMethodDescriptor yX12_pencil.desc).map (fun d => d.parameters.length) = some 3 := by decide +kernel
set_option maxRecDepth 20000 in
theorem imX12_pencil : Cond.instanceMethod yX12_pencil ∈ lw_tbl := lwc7 (List.mem_of_getElem? (i := 121) rfl)
set_option maxRecDepth 20000 in
theorem slX12_pencil : Cond.selects yX12_pencil.cls yX12_pencil yX12_pencil ∈ lw_tbl := lwc7 (List.mem_of_getElem? (i := 122) rfl)
set_option maxRecDepth 20000 in
theorem coX12_type : Cond.code yX12_type cX12_type 2 (some FieldType.int) ∈ lw_tbl := lwc7 (List.mem_of_getElem? (i := 127) rfl)
theorem pdX12_type : yX12_type.cls ≠ "java/lang/invoke/MethodHandle" ∧ yX12_type.cls ≠ "java/lang/invoke/VarHandle" ∧ (parseMethodDescriptor yX12_type.desc).map (fun d => d.parameters.length) = some 1 := by decide +kernel
set_option maxRecDepth 20000 in
theorem imX12_type : Cond.instanceMethod yX12_type ∈ lw_tbl := lwc7 (List.mem_of_getElem? (i := 125) rfl)
set_option maxRecDepth 20000 in
theorem slX12_type : Cond.selects yX12_type.cls yX12_type yX12_type ∈ lw_tbl := lwc7 (List.mem_of_getElem? (i := 126) rfl)
set_option maxRecDepth 20000 in
theorem coX12_isFigure : Cond.code yX12_isFigure cX12_isFigure 2 (some FieldType.boolean) ∈ lw_tbl := lwc7 (List.mem_of_getElem? (i := 139) rfl)
theorem pdX12_isFigure : yX12_isFigure.cls ≠ "java/lang/invoke/MethodHandle" ∧ yX12_isFigure.cls ≠ "java/lang/invoke/VarHandle" ∧ (parseMethodDescriptor yX12_isFigure.desc).map (fun d => d.parameters.length) = some 1 := by decide +kernel
set_option maxRecDepth 20000 in
theorem imX12_isFigure : Cond.instanceMethod yX12_isFigure ∈ lw_tbl := lwc7 (List.mem_of_getElem? (i := 138) rfl)
set_option maxRecDepth 20000 in
theorem slX12_isFigure : Cond.selects yX12_isFigure.cls yX12_isFigure yX12_isFigure ∈ lw_tbl := lw_at 97 rfl
set_option maxRecDepth 20000 in
theorem coX12_isAct : Cond.code yX12_isAct cX12_isAct 1 (some FieldType.boolean) ∈ lw_tbl := lwc7 (List.mem_of_getElem? (i := 142) rfl)
theorem pdX12_isAct : yX12_isAct.cls ≠ "java/lang/invoke/MethodHandle" ∧ yX12_isAct.cls ≠ "java/lang/invoke/VarHandle" ∧ (parseMethodDescriptor yX12_isAct.desc).map (fun d => d.parameters.length) = some 1 := by decide +kernel
set_option maxRecDepth 20000 in
theorem stX12_isAct : Cond.static yX12_isAct ∈ lw_tbl := lwc7 (List.mem_of_getElem? (i := 141) rfl)
set_option maxRecDepth 20000 in
theorem coX12_fault : Cond.code yX12_fault cX12_fault 6 (some FieldType.int) ∈ lw_tbl := lwc7 (List.mem_of_getElem? (i := 135) rfl)
theorem pdX12_fault : yX12_fault.cls ≠ "java/lang/invoke/MethodHandle" ∧ yX12_fault.cls ≠ "java/lang/invoke/VarHandle" ∧ (parseMethodDescriptor yX12_fault.desc).map (fun d => d.parameters.length) = some 0 := by decide +kernel
set_option maxRecDepth 20000 in
theorem imX12_fault : Cond.instanceMethod yX12_fault ∈ lw_tbl := lwc7 (List.mem_of_getElem? (i := 134) rfl)
set_option maxRecDepth 20000 in
theorem slX12_fault : Cond.selects yX12_fault.cls yX12_fault yX12_fault ∈ lw_tbl := lw_at 96 rfl
set_option maxRecDepth 20000 in
theorem coX12_acts : Cond.code yX12_acts cX12_acts 4 (some FieldType.int) ∈ lw_tbl := lwc7 (List.mem_of_getElem? (i := 154) rfl)
theorem pdX12_acts : yX12_acts.cls ≠ "java/lang/invoke/MethodHandle" ∧ yX12_acts.cls ≠ "java/lang/invoke/VarHandle" ∧ (parseMethodDescriptor yX12_acts.desc).map (fun d => d.parameters.length) = some 3 := by decide +kernel
set_option maxRecDepth 20000 in
theorem imX12_acts : Cond.instanceMethod yX12_acts ∈ lw_tbl := lwc7 (List.mem_of_getElem? (i := 153) rfl)
set_option maxRecDepth 20000 in
theorem slX12_acts : Cond.selects yX12_acts.cls yX12_acts yX12_acts ∈ lw_tbl := lw_at 100 rfl
set_option maxRecDepth 20000 in
theorem coX12_powered : Cond.code yX12_powered cX12_powered 4 (some FieldType.int) ∈ lw_tbl := lwc7 (List.mem_of_getElem? (i := 150) rfl)
theorem pdX12_powered : yX12_powered.cls ≠ "java/lang/invoke/MethodHandle" ∧ yX12_powered.cls ≠ "java/lang/invoke/VarHandle" ∧ (parseMethodDescriptor yX12_powered.desc).map (fun d => d.parameters.length) = some 2 := by decide +kernel
set_option maxRecDepth 20000 in
theorem imX12_powered : Cond.instanceMethod yX12_powered ∈ lw_tbl := lwc7 (List.mem_of_getElem? (i := 149) rfl)
set_option maxRecDepth 20000 in
theorem slX12_powered : Cond.selects yX12_powered.cls yX12_powered yX12_powered ∈ lw_tbl := lw_at 99 rfl
set_option maxRecDepth 20000 in
theorem coX12_worked : Cond.code yX12_worked cX12_worked 8 (some FieldType.int) ∈ lw_tbl := lwc7 (List.mem_of_getElem? (i := 146) rfl)
theorem pdX12_worked : yX12_worked.cls ≠ "java/lang/invoke/MethodHandle" ∧ yX12_worked.cls ≠ "java/lang/invoke/VarHandle" ∧ (parseMethodDescriptor yX12_worked.desc).map (fun d => d.parameters.length) = some 0 := by decide +kernel
set_option maxRecDepth 20000 in
theorem imX12_worked : Cond.instanceMethod yX12_worked ∈ lw_tbl := lwc7 (List.mem_of_getElem? (i := 145) rfl)
set_option maxRecDepth 20000 in
theorem slX12_worked : Cond.selects yX12_worked.cls yX12_worked yX12_worked ∈ lw_tbl := lw_at 98 rfl
set_option maxRecDepth 20000 in
theorem coX12_read : Cond.code yX12_read cX12_read 5 (some FieldType.int) ∈ lw_tbl := lwc7 (List.mem_of_getElem? (i := 131) rfl)
theorem pdX12_read : yX12_read.cls ≠ "java/lang/invoke/MethodHandle" ∧ yX12_read.cls ≠ "java/lang/invoke/VarHandle" ∧ (parseMethodDescriptor yX12_read.desc).map (fun d => d.parameters.length) = some 2 := by decide +kernel
set_option maxRecDepth 20000 in
theorem imX12_read : Cond.instanceMethod yX12_read ∈ lw_tbl := lwc7 (List.mem_of_getElem? (i := 129) rfl)
set_option maxRecDepth 20000 in
theorem slX12_read : Cond.selects yX12_read.cls yX12_read yX12_read ∈ lw_tbl := lwc7 (List.mem_of_getElem? (i := 130) rfl)
set_option maxRecDepth 20000 in
theorem coX12_isSheet : Cond.code yX12_isSheet cX12_isSheet 1 (some FieldType.boolean) ∈ lw_tbl := lwc7 (List.mem_of_getElem? (i := 161) rfl)
theorem pdX12_isSheet : yX12_isSheet.cls ≠ "java/lang/invoke/MethodHandle" ∧ yX12_isSheet.cls ≠ "java/lang/invoke/VarHandle" ∧ (parseMethodDescriptor yX12_isSheet.desc).map (fun d => d.parameters.length) = some 1 := by decide +kernel
set_option maxRecDepth 20000 in
theorem stX12_isSheet : Cond.static yX12_isSheet ∈ lw_tbl := lwc7 (List.mem_of_getElem? (i := 160) rfl)
set_option maxRecDepth 20000 in
theorem coX12_cut : Cond.code yX12_cut cX12_cut 3 (some FieldType.long) ∈ lw_tbl := lwc7 (List.mem_of_getElem? (i := 193) rfl)
theorem pdX12_cut : yX12_cut.cls ≠ "java/lang/invoke/MethodHandle" ∧ yX12_cut.cls ≠ "java/lang/invoke/VarHandle" ∧ (parseMethodDescriptor yX12_cut.desc).map (fun d => d.parameters.length) = some 2 := by decide +kernel
set_option maxRecDepth 20000 in
theorem stX12_cut : Cond.static yX12_cut ∈ lw_tbl := lwc7 (List.mem_of_getElem? (i := 192) rfl)
set_option maxRecDepth 20000 in
theorem coX12_why : Cond.code yX12_why cX12_why 5 (some FieldType.int) ∈ lw_tbl := lwc7 (List.mem_of_getElem? (i := 165) rfl)
theorem pdX12_why : yX12_why.cls ≠ "java/lang/invoke/MethodHandle" ∧ yX12_why.cls ≠ "java/lang/invoke/VarHandle" ∧ (parseMethodDescriptor yX12_why.desc).map (fun d => d.parameters.length) = some 4 := by decide +kernel
set_option maxRecDepth 20000 in
theorem imX12_why : Cond.instanceMethod yX12_why ∈ lw_tbl := lwc7 (List.mem_of_getElem? (i := 164) rfl)
set_option maxRecDepth 20000 in
theorem slX12_why : Cond.selects yX12_why.cls yX12_why yX12_why ∈ lw_tbl := lw_at 101 rfl
set_option maxRecDepth 20000 in
theorem coX12_areNumbers : Cond.code yX12_areNumbers cX12_areNumbers 6 (some FieldType.boolean) ∈ lw_tbl := lwc7 (List.mem_of_getElem? (i := 169) rfl)
theorem pdX12_areNumbers : yX12_areNumbers.cls ≠ "java/lang/invoke/MethodHandle" ∧ yX12_areNumbers.cls ≠ "java/lang/invoke/VarHandle" ∧ (parseMethodDescriptor yX12_areNumbers.desc).map (fun d => d.parameters.length) = some 3 := by decide +kernel
set_option maxRecDepth 20000 in
theorem imX12_areNumbers : Cond.instanceMethod yX12_areNumbers ∈ lw_tbl := lwc7 (List.mem_of_getElem? (i := 168) rfl)
set_option maxRecDepth 20000 in
theorem slX12_areNumbers : Cond.selects yX12_areNumbers.cls yX12_areNumbers yX12_areNumbers ∈ lw_tbl := lw_at 102 rfl
set_option maxRecDepth 20000 in
theorem coX12_seen : Cond.code yX12_seen cX12_seen 11 (some FieldType.int) ∈ lw_tbl := lwc7 (List.mem_of_getElem? (i := 158) rfl)
theorem pdX12_seen : yX12_seen.cls ≠ "java/lang/invoke/MethodHandle" ∧ yX12_seen.cls ≠ "java/lang/invoke/VarHandle" ∧ (parseMethodDescriptor yX12_seen.desc).map (fun d => d.parameters.length) = some 4 := by decide +kernel
set_option maxRecDepth 20000 in
theorem imX12_seen : Cond.instanceMethod yX12_seen ∈ lw_tbl := lwc7 (List.mem_of_getElem? (i := 156) rfl)
set_option maxRecDepth 20000 in
theorem slX12_seen : Cond.selects yX12_seen.cls yX12_seen yX12_seen ∈ lw_tbl := lwc7 (List.mem_of_getElem? (i := 157) rfl)
set_option maxRecDepth 20000 in
theorem coX12_lay : Cond.code yX12_lay cX12_lay 8 (some FieldType.int) ∈ lw_tbl := lwc7 (List.mem_of_getElem? (i := 174) rfl)
theorem pdX12_lay : yX12_lay.cls ≠ "java/lang/invoke/MethodHandle" ∧ yX12_lay.cls ≠ "java/lang/invoke/VarHandle" ∧ (parseMethodDescriptor yX12_lay.desc).map (fun d => d.parameters.length) = some 5 := by decide +kernel
set_option maxRecDepth 20000 in
theorem imX12_lay : Cond.instanceMethod yX12_lay ∈ lw_tbl := lwc7 (List.mem_of_getElem? (i := 172) rfl)
set_option maxRecDepth 20000 in
theorem slX12_lay : Cond.selects yX12_lay.cls yX12_lay yX12_lay ∈ lw_tbl := lwc7 (List.mem_of_getElem? (i := 173) rfl)
set_option maxRecDepth 20000 in
theorem coX12_film : Cond.code yX12_film cX12_film 8 (some FieldType.int) ∈ lw_tbl := lwc7 (List.mem_of_getElem? (i := 178) rfl)
theorem pdX12_film : yX12_film.cls ≠ "java/lang/invoke/MethodHandle" ∧ yX12_film.cls ≠ "java/lang/invoke/VarHandle" ∧ (parseMethodDescriptor yX12_film.desc).map (fun d => d.parameters.length) = some 5 := by decide +kernel
set_option maxRecDepth 20000 in
theorem imX12_film : Cond.instanceMethod yX12_film ∈ lw_tbl := lwc7 (List.mem_of_getElem? (i := 176) rfl)
set_option maxRecDepth 20000 in
theorem slX12_film : Cond.selects yX12_film.cls yX12_film yX12_film ∈ lw_tbl := lwc7 (List.mem_of_getElem? (i := 177) rfl)
set_option maxRecDepth 20000 in
theorem coX12_sheet : Cond.code yX12_sheet cX12_sheet 5 (some FieldType.int) ∈ lw_tbl := lwc7 (List.mem_of_getElem? (i := 182) rfl)
theorem pdX12_sheet : yX12_sheet.cls ≠ "java/lang/invoke/MethodHandle" ∧ yX12_sheet.cls ≠ "java/lang/invoke/VarHandle" ∧ (parseMethodDescriptor yX12_sheet.desc).map (fun d => d.parameters.length) = some 3 := by decide +kernel
set_option maxRecDepth 20000 in
theorem imX12_sheet : Cond.instanceMethod yX12_sheet ∈ lw_tbl := lwc7 (List.mem_of_getElem? (i := 180) rfl)
set_option maxRecDepth 20000 in
theorem slX12_sheet : Cond.selects yX12_sheet.cls yX12_sheet yX12_sheet ∈ lw_tbl := lwc7 (List.mem_of_getElem? (i := 181) rfl)
set_option maxRecDepth 20000 in
theorem coX12_drop : Cond.code yX12_drop cX12_drop 3 (some FieldType.int) ∈ lw_tbl := lwc7 (List.mem_of_getElem? (i := 186) rfl)
theorem pdX12_drop : yX12_drop.cls ≠ "java/lang/invoke/MethodHandle" ∧ yX12_drop.cls ≠ "java/lang/invoke/VarHandle" ∧ (parseMethodDescriptor yX12_drop.desc).map (fun d => d.parameters.length) = some 1 := by decide +kernel
set_option maxRecDepth 20000 in
theorem imX12_drop : Cond.instanceMethod yX12_drop ∈ lw_tbl := lwc7 (List.mem_of_getElem? (i := 184) rfl)
set_option maxRecDepth 20000 in
theorem slX12_drop : Cond.selects yX12_drop.cls yX12_drop yX12_drop ∈ lw_tbl := lwc7 (List.mem_of_getElem? (i := 185) rfl)
set_option maxRecDepth 20000 in
theorem coX12_item : Cond.code yX12_item cX12_item 7 (some FieldType.int) ∈ lw_tbl := lwc7 (List.mem_of_getElem? (i := 190) rfl)
theorem pdX12_item : yX12_item.cls ≠ "java/lang/invoke/MethodHandle" ∧ yX12_item.cls ≠ "java/lang/invoke/VarHandle" ∧ (parseMethodDescriptor yX12_item.desc).map (fun d => d.parameters.length) = some 4 := by decide +kernel
set_option maxRecDepth 20000 in
theorem imX12_item : Cond.instanceMethod yX12_item ∈ lw_tbl := lwc7 (List.mem_of_getElem? (i := 188) rfl)
set_option maxRecDepth 20000 in
theorem slX12_item : Cond.selects yX12_item.cls yX12_item yX12_item ∈ lw_tbl := lwc7 (List.mem_of_getElem? (i := 189) rfl)
set_option maxRecDepth 20000 in
theorem coX12_copy : Cond.code yX12_copy cX12_copy 8 (some FieldType.int) ∈ lw_tbl := lwc7 (List.mem_of_getElem? (i := 197) rfl)
theorem pdX12_copy : yX12_copy.cls ≠ "java/lang/invoke/MethodHandle" ∧ yX12_copy.cls ≠ "java/lang/invoke/VarHandle" ∧ (parseMethodDescriptor yX12_copy.desc).map (fun d => d.parameters.length) = some 5 := by decide +kernel
set_option maxRecDepth 20000 in
theorem imX12_copy : Cond.instanceMethod yX12_copy ∈ lw_tbl := lwc7 (List.mem_of_getElem? (i := 195) rfl)
set_option maxRecDepth 20000 in
theorem slX12_copy : Cond.selects yX12_copy.cls yX12_copy yX12_copy ∈ lw_tbl := lwc7 (List.mem_of_getElem? (i := 196) rfl)
set_option maxRecDepth 20000 in
theorem coJ6_numberOfTrailingZeros_0f7a4 : Cond.code yJ6_numberOfTrailingZeros_0f7a4 cJ6_numberOfTrailingZeros_0f7a4 2 (some FieldType.int) ∈ lw_tbl := lwc4 (List.mem_of_getElem? (i := 67) rfl)
theorem pdJ6_numberOfTrailingZeros_0f7a4 : yJ6_numberOfTrailingZeros_0f7a4.cls ≠ "java/lang/invoke/MethodHandle" ∧ yJ6_numberOfTrailingZeros_0f7a4.cls ≠ "java/lang/invoke/VarHandle" ∧ (parseMethodDescriptor yJ6_numberOfTrailingZeros_0f7a4.desc).map (fun d => d.parameters.length) = some 1 := by decide +kernel
set_option maxRecDepth 20000 in
theorem stJ6_numberOfTrailingZeros_0f7a4 : Cond.static yJ6_numberOfTrailingZeros_0f7a4 ∈ lw_tbl := lwc4 (List.mem_of_getElem? (i := 66) rfl)
set_option maxRecDepth 20000 in
theorem coJ6_bitCount_0f7a4 : Cond.code yJ6_bitCount_0f7a4 cJ6_bitCount_0f7a4 1 (some FieldType.int) ∈ lw_tbl := lwc4 (List.mem_of_getElem? (i := 36) rfl)
theorem pdJ6_bitCount_0f7a4 : yJ6_bitCount_0f7a4.cls ≠ "java/lang/invoke/MethodHandle" ∧ yJ6_bitCount_0f7a4.cls ≠ "java/lang/invoke/VarHandle" ∧ (parseMethodDescriptor yJ6_bitCount_0f7a4.desc).map (fun d => d.parameters.length) = some 1 := by decide +kernel
set_option maxRecDepth 20000 in
theorem stJ6_bitCount_0f7a4 : Cond.static yJ6_bitCount_0f7a4 ∈ lw_tbl := lwc4 (List.mem_of_getElem? (i := 35) rfl)
set_option maxRecDepth 20000 in
theorem coJ9_floorMod_7cf53 : Cond.code yJ9_floorMod_7cf53 cJ9_floorMod_7cf53 3 (some FieldType.int) ∈ lw_tbl := lwc4 (List.mem_of_getElem? (i := 99) rfl)
theorem pdJ9_floorMod_7cf53 : yJ9_floorMod_7cf53.cls ≠ "java/lang/invoke/MethodHandle" ∧ yJ9_floorMod_7cf53.cls ≠ "java/lang/invoke/VarHandle" ∧ (parseMethodDescriptor yJ9_floorMod_7cf53.desc).map (fun d => d.parameters.length) = some 2 := by decide +kernel
set_option maxRecDepth 20000 in
theorem stJ9_floorMod_7cf53 : Cond.static yJ9_floorMod_7cf53 ∈ lw_tbl := lwc4 (List.mem_of_getElem? (i := 98) rfl)
set_option maxRecDepth 20000 in
theorem coJ9_max_7cf53 : Cond.code yJ9_max_7cf53 cJ9_max_7cf53 2 (some FieldType.int) ∈ lw_tbl := lwc2 (List.mem_of_getElem? (i := 239) rfl)
theorem pdJ9_max_7cf53 : yJ9_max_7cf53.cls ≠ "java/lang/invoke/MethodHandle" ∧ yJ9_max_7cf53.cls ≠ "java/lang/invoke/VarHandle" ∧ (parseMethodDescriptor yJ9_max_7cf53.desc).map (fun d => d.parameters.length) = some 2 := by decide +kernel
set_option maxRecDepth 20000 in
theorem stJ9_max_7cf53 : Cond.static yJ9_max_7cf53 ∈ lw_tbl := lwc2 (List.mem_of_getElem? (i := 238) rfl)
set_option maxRecDepth 20000 in
theorem coJ9_min_7cf53 : Cond.code yJ9_min_7cf53 cJ9_min_7cf53 2 (some FieldType.int) ∈ lw_tbl := lwc3 (List.mem_of_getElem? (i := 165) rfl)
theorem pdJ9_min_7cf53 : yJ9_min_7cf53.cls ≠ "java/lang/invoke/MethodHandle" ∧ yJ9_min_7cf53.cls ≠ "java/lang/invoke/VarHandle" ∧ (parseMethodDescriptor yJ9_min_7cf53.desc).map (fun d => d.parameters.length) = some 2 := by decide +kernel
set_option maxRecDepth 20000 in
theorem stJ9_min_7cf53 : Cond.static yJ9_min_7cf53 ∈ lw_tbl := lwc3 (List.mem_of_getElem? (i := 164) rfl)
set_option maxRecDepth 20000 in
theorem coJ7_fill_d0a16 : Cond.code yJ7_fill_d0a16 cJ7_fill_d0a16 5 none ∈ lw_tbl := lwc5 (List.mem_of_getElem? (i := 144) rfl)
theorem pdJ7_fill_d0a16 : yJ7_fill_d0a16.cls ≠ "java/lang/invoke/MethodHandle" ∧ yJ7_fill_d0a16.cls ≠ "java/lang/invoke/VarHandle" ∧ (parseMethodDescriptor yJ7_fill_d0a16.desc).map (fun d => d.parameters.length) = some 2 := by decide +kernel
set_option maxRecDepth 20000 in
theorem stJ7_fill_d0a16 : Cond.static yJ7_fill_d0a16 ∈ lw_tbl := lwc5 (List.mem_of_getElem? (i := 143) rfl)
