theorem FLRX0_9 : FL RX0 9 0 0 := ⟨RX0, TX0, 4, rfl, inX0, by decide, flRX0_9⟩
theorem FPRX0_9 : FP RX0 9 0 0 true (.array .int) := ⟨RX0, TX0, 4, tyX0, rfl, inX0, by decide, flRX0_9, tyX0_ok, nmX0, rfl, rfl, fun _ => rfl⟩
theorem FLRX0_15 : FL RX0 15 0 1 := ⟨RX0, TX0, 4, rfl, inX0, by decide, flRX0_15⟩
theorem FPRX0_15 : FP RX0 15 0 1 true (.array .int) := ⟨RX0, TX0, 4, tyX0, rfl, inX0, by decide, flRX0_15, tyX0_ok, nmX0, rfl, rfl, fun _ => rfl⟩
theorem FLRX0_18 : FL RX0 18 0 2 := ⟨RX0, TX0, 4, rfl, inX0, by decide, flRX0_18⟩
theorem FPRX0_18 : FP RX0 18 0 2 false .int := ⟨RX0, TX0, 4, tyX0, rfl, inX0, by decide, flRX0_18, tyX0_ok, nmX0, rfl, rfl, fun h => by cases h⟩
theorem FLRX4_73 : FL RX4 73 0 2 := ⟨RX0, TX0, 4, rfl, inX0, by decide, flRX4_73⟩
theorem FPRX4_73 : FP RX4 73 0 2 false .int := ⟨RX0, TX0, 4, tyX0, rfl, inX0, by decide, flRX4_73, tyX0_ok, nmX0, rfl, rfl, fun h => by cases h⟩
theorem FLRX11_155 : FL RX11 155 0 2 := ⟨RX0, TX0, 4, rfl, inX0, by decide, flRX11_155⟩
theorem FPRX11_155 : FP RX11 155 0 2 false .int := ⟨RX0, TX0, 4, tyX0, rfl, inX0, by decide, flRX11_155, tyX0_ok, nmX0, rfl, rfl, fun h => by cases h⟩
theorem FLRX0_22 : FL RX0 22 0 3 := ⟨RX0, TX0, 4, rfl, inX0, by decide, flRX0_22⟩
theorem FPRX0_22 : FP RX0 22 0 3 false .int := ⟨RX0, TX0, 4, tyX0, rfl, inX0, by decide, flRX0_22, tyX0_ok, nmX0, rfl, rfl, fun h => by cases h⟩
theorem FLRX11_262 : FL RX11 262 0 3 := ⟨RX0, TX0, 4, rfl, inX0, by decide, flRX11_262⟩
theorem FPRX11_262 : FP RX11 262 0 3 false .int := ⟨RX0, TX0, 4, tyX0, rfl, inX0, by decide, flRX11_262, tyX0_ok, nmX0, rfl, rfl, fun h => by cases h⟩
theorem FLRX2_11 : FL RX2 11 2 0 := ⟨RX2, TX2, 3, rfl, inX2, by decide, flRX2_11⟩
theorem FPRX2_11 : FP RX2 11 2 0 true (.array (.object "FiniteTerms$Board")) := ⟨RX2, TX2, 3, tyX2, rfl, inX2, by decide, flRX2_11, tyX2_ok, nmX2, rfl, rfl, fun _ => rfl⟩
theorem FLRX2_17 : FL RX2 17 2 1 := ⟨RX2, TX2, 3, rfl, inX2, by decide, flRX2_17⟩
theorem FPRX2_17 : FP RX2 17 2 1 false .int := ⟨RX2, TX2, 3, tyX2, rfl, inX2, by decide, flRX2_17, tyX2_ok, nmX2, rfl, rfl, fun h => by cases h⟩
theorem FLRX11_159 : FL RX11 159 2 1 := ⟨RX2, TX2, 3, rfl, inX2, by decide, flRX11_159⟩
theorem FPRX11_159 : FP RX11 159 2 1 false .int := ⟨RX2, TX2, 3, tyX2, rfl, inX2, by decide, flRX11_159, tyX2_ok, nmX2, rfl, rfl, fun h => by cases h⟩
theorem FLRX2_21 : FL RX2 21 2 2 := ⟨RX2, TX2, 3, rfl, inX2, by decide, flRX2_21⟩
theorem FPRX2_21 : FP RX2 21 2 2 false .int := ⟨RX2, TX2, 3, tyX2, rfl, inX2, by decide, flRX2_21, tyX2_ok, nmX2, rfl, rfl, fun h => by cases h⟩
theorem FLRX5_9 : FL RX5 9 5 0 := ⟨RX5, TX5, 2, rfl, inX5, by decide, flRX5_9⟩
theorem FPRX5_9 : FP RX5 9 5 0 true (.array .int) := ⟨RX5, TX5, 2, tyX5, rfl, inX5, by decide, flRX5_9, tyX5_ok, nmX5, rfl, rfl, fun _ => rfl⟩
theorem FLRX1_21 : FL RX1 21 5 0 := ⟨RX5, TX5, 2, rfl, inX5, by decide, flRX1_21⟩
theorem FLRX5_15 : FL RX5 15 5 1 := ⟨RX5, TX5, 2, rfl, inX5, by decide, flRX5_15⟩
theorem FPRX5_15 : FP RX5 15 5 1 false .int := ⟨RX5, TX5, 2, tyX5, rfl, inX5, by decide, flRX5_15, tyX5_ok, nmX5, rfl, rfl, fun h => by cases h⟩
theorem FLRX1_25 : FL RX1 25 5 1 := ⟨RX5, TX5, 2, rfl, inX5, by decide, flRX1_25⟩
theorem FPRX1_25 : FP RX1 25 5 1 false .int := ⟨RX5, TX5, 2, tyX5, rfl, inX5, by decide, flRX1_25, tyX5_ok, nmX5, rfl, rfl, fun h => by cases h⟩
theorem FLRX3_43 : FL RX3 43 5 1 := ⟨RX5, TX5, 2, rfl, inX5, by decide, flRX3_43⟩
theorem FPRX3_43 : FP RX3 43 5 1 false .int := ⟨RX5, TX5, 2, tyX5, rfl, inX5, by decide, flRX3_43, tyX5_ok, nmX5, rfl, rfl, fun h => by cases h⟩
theorem FLRX7_64 : FL RX7 64 5 1 := ⟨RX5, TX5, 2, rfl, inX5, by decide, flRX7_64⟩
theorem FPRX7_64 : FP RX7 64 5 1 false .int := ⟨RX5, TX5, 2, tyX5, rfl, inX5, by decide, flRX7_64, tyX5_ok, nmX5, rfl, rfl, fun h => by cases h⟩
theorem FLRX10_25 : FL RX10 25 5 1 := ⟨RX5, TX5, 2, rfl, inX5, by decide, flRX10_25⟩
theorem FPRX10_25 : FP RX10 25 5 1 false .int := ⟨RX5, TX5, 2, tyX5, rfl, inX5, by decide, flRX10_25, tyX5_ok, nmX5, rfl, rfl, fun h => by cases h⟩
theorem FLRX9_78 : FL RX9 78 5 1 := ⟨RX5, TX5, 2, rfl, inX5, by decide, flRX9_78⟩
theorem FPRX9_78 : FP RX9 78 5 1 false .int := ⟨RX5, TX5, 2, tyX5, rfl, inX5, by decide, flRX9_78, tyX5_ok, nmX5, rfl, rfl, fun h => by cases h⟩
theorem FLRX6_127 : FL RX6 127 5 1 := ⟨RX5, TX5, 2, rfl, inX5, by decide, flRX6_127⟩
theorem FPRX6_127 : FP RX6 127 5 1 false .int := ⟨RX5, TX5, 2, tyX5, rfl, inX5, by decide, flRX6_127, tyX5_ok, nmX5, rfl, rfl, fun h => by cases h⟩
theorem FLRX11_299 : FL RX11 299 5 1 := ⟨RX5, TX5, 2, rfl, inX5, by decide, flRX11_299⟩
theorem FPRX11_299 : FP RX11 299 5 1 false .int := ⟨RX5, TX5, 2, tyX5, rfl, inX5, by decide, flRX11_299, tyX5_ok, nmX5, rfl, rfl, fun h => by cases h⟩
theorem FLRX3_12 : FL RX3 12 3 0 := ⟨RX3, TX3, 8, rfl, inX3, by decide, flRX3_12⟩
theorem FPRX3_12 : FP RX3 12 3 0 true (.object "FiniteTerms$Poly") := ⟨RX3, TX3, 8, tyX3, rfl, inX3, by decide, flRX3_12, tyX3_ok, nmX3, rfl, rfl, fun _ => rfl⟩
theorem FLRX3_18 : FL RX3 18 3 1 := ⟨RX3, TX3, 8, rfl, inX3, by decide, flRX3_18⟩
theorem FPRX3_18 : FP RX3 18 3 1 true (.object "FiniteTerms$Poly") := ⟨RX3, TX3, 8, tyX3, rfl, inX3, by decide, flRX3_18, tyX3_ok, nmX3, rfl, rfl, fun _ => rfl⟩
theorem FLRX3_21 : FL RX3 21 3 2 := ⟨RX3, TX3, 8, rfl, inX3, by decide, flRX3_21⟩
theorem FPRX3_21 : FP RX3 21 3 2 true (.object "FiniteTerms$Poly") := ⟨RX3, TX3, 8, tyX3, rfl, inX3, by decide, flRX3_21, tyX3_ok, nmX3, rfl, rfl, fun _ => rfl⟩
theorem FLRX3_24 : FL RX3 24 3 3 := ⟨RX3, TX3, 8, rfl, inX3, by decide, flRX3_24⟩
theorem FPRX3_24 : FP RX3 24 3 3 true (.object "FiniteTerms$Poly") := ⟨RX3, TX3, 8, tyX3, rfl, inX3, by decide, flRX3_24, tyX3_ok, nmX3, rfl, rfl, fun _ => rfl⟩
theorem FLRX3_27 : FL RX3 27 3 4 := ⟨RX3, TX3, 8, rfl, inX3, by decide, flRX3_27⟩
theorem FPRX3_27 : FP RX3 27 3 4 true (.object "FiniteTerms$Poly") := ⟨RX3, TX3, 8, tyX3, rfl, inX3, by decide, flRX3_27, tyX3_ok, nmX3, rfl, rfl, fun _ => rfl⟩
theorem FLRX3_30 : FL RX3 30 3 5 := ⟨RX3, TX3, 8, rfl, inX3, by decide, flRX3_30⟩
theorem FPRX3_30 : FP RX3 30 3 5 true (.object "FiniteTerms$Poly") := ⟨RX3, TX3, 8, tyX3, rfl, inX3, by decide, flRX3_30, tyX3_ok, nmX3, rfl, rfl, fun _ => rfl⟩
theorem FLRX3_33 : FL RX3 33 3 6 := ⟨RX3, TX3, 8, rfl, inX3, by decide, flRX3_33⟩
theorem FPRX3_33 : FP RX3 33 3 6 true (.object "FiniteTerms$Poly") := ⟨RX3, TX3, 8, tyX3, rfl, inX3, by decide, flRX3_33, tyX3_ok, nmX3, rfl, rfl, fun _ => rfl⟩
theorem FLRX3_36 : FL RX3 36 3 7 := ⟨RX3, TX3, 8, rfl, inX3, by decide, flRX3_36⟩
theorem FPRX3_36 : FP RX3 36 3 7 true (.object "FiniteTerms$Poly") := ⟨RX3, TX3, 8, tyX3, rfl, inX3, by decide, flRX3_36, tyX3_ok, nmX3, rfl, rfl, fun _ => rfl⟩
theorem FLRX9_39 : FL RX9 39 9 0 := ⟨RX9, TX9, 9, rfl, inX9, by decide, flRX9_39⟩
theorem FPRX9_39 : FP RX9 39 9 0 true (.object "FiniteTerms$Kit") := ⟨RX9, TX9, 9, tyX9, rfl, inX9, by decide, flRX9_39, tyX9_ok, nmX9, rfl, rfl, fun _ => rfl⟩
theorem FLRX9_12 : FL RX9 12 9 1 := ⟨RX9, TX9, 9, rfl, inX9, by decide, flRX9_12⟩
theorem FPRX9_12 : FP RX9 12 9 1 true (.object "FiniteTerms$Poly") := ⟨RX9, TX9, 9, tyX9, rfl, inX9, by decide, flRX9_12, tyX9_ok, nmX9, rfl, rfl, fun _ => rfl⟩
theorem FLRX9_18 : FL RX9 18 9 2 := ⟨RX9, TX9, 9, rfl, inX9, by decide, flRX9_18⟩
theorem FPRX9_18 : FP RX9 18 9 2 true (.object "FiniteTerms$Poly") := ⟨RX9, TX9, 9, tyX9, rfl, inX9, by decide, flRX9_18, tyX9_ok, nmX9, rfl, rfl, fun _ => rfl⟩
theorem FLRX9_21 : FL RX9 21 9 3 := ⟨RX9, TX9, 9, rfl, inX9, by decide, flRX9_21⟩
theorem FPRX9_21 : FP RX9 21 9 3 true (.object "FiniteTerms$Poly") := ⟨RX9, TX9, 9, tyX9, rfl, inX9, by decide, flRX9_21, tyX9_ok, nmX9, rfl, rfl, fun _ => rfl⟩
theorem FLRX9_24 : FL RX9 24 9 4 := ⟨RX9, TX9, 9, rfl, inX9, by decide, flRX9_24⟩
theorem FPRX9_24 : FP RX9 24 9 4 true (.object "FiniteTerms$Poly") := ⟨RX9, TX9, 9, tyX9, rfl, inX9, by decide, flRX9_24, tyX9_ok, nmX9, rfl, rfl, fun _ => rfl⟩
theorem FLRX9_27 : FL RX9 27 9 5 := ⟨RX9, TX9, 9, rfl, inX9, by decide, flRX9_27⟩
theorem FPRX9_27 : FP RX9 27 9 5 true (.object "FiniteTerms$Poly") := ⟨RX9, TX9, 9, tyX9, rfl, inX9, by decide, flRX9_27, tyX9_ok, nmX9, rfl, rfl, fun _ => rfl⟩
theorem FLRX9_30 : FL RX9 30 9 6 := ⟨RX9, TX9, 9, rfl, inX9, by decide, flRX9_30⟩
theorem FPRX9_30 : FP RX9 30 9 6 true (.object "FiniteTerms$Poly") := ⟨RX9, TX9, 9, tyX9, rfl, inX9, by decide, flRX9_30, tyX9_ok, nmX9, rfl, rfl, fun _ => rfl⟩
theorem FLRX9_33 : FL RX9 33 9 7 := ⟨RX9, TX9, 9, rfl, inX9, by decide, flRX9_33⟩
theorem FPRX9_33 : FP RX9 33 9 7 true (.object "FiniteTerms$Poly") := ⟨RX9, TX9, 9, tyX9, rfl, inX9, by decide, flRX9_33, tyX9_ok, nmX9, rfl, rfl, fun _ => rfl⟩
theorem FLRX9_36 : FL RX9 36 9 8 := ⟨RX9, TX9, 9, rfl, inX9, by decide, flRX9_36⟩
theorem FPRX9_36 : FP RX9 36 9 8 true (.object "FiniteTerms$Poly") := ⟨RX9, TX9, 9, tyX9, rfl, inX9, by decide, flRX9_36, tyX9_ok, nmX9, rfl, rfl, fun _ => rfl⟩
theorem FLRX1_12 : FL RX1 12 1 0 := ⟨RX1, TX1, 2, rfl, inX1, by decide, flRX1_12⟩
theorem FPRX1_12 : FP RX1 12 1 0 true (.object "FiniteTerms$Poly") := ⟨RX1, TX1, 2, tyX1, rfl, inX1, by decide, flRX1_12, tyX1_ok, nmX1, rfl, rfl, fun _ => rfl⟩
theorem FLRX7_46 : FL RX7 46 1 0 := ⟨RX1, TX1, 2, rfl, inX1, by decide, flRX7_46⟩
theorem FLRX10_34 : FL RX10 34 1 0 := ⟨RX1, TX1, 2, rfl, inX1, by decide, flRX10_34⟩
theorem FLRX9_75 : FL RX9 75 1 0 := ⟨RX1, TX1, 2, rfl, inX1, by decide, flRX9_75⟩
theorem FLRX4_82 : FL RX4 82 1 0 := ⟨RX1, TX1, 2, rfl, inX1, by decide, flRX4_82⟩
theorem FLRX0_41 : FL RX0 41 1 0 := ⟨RX1, TX1, 2, rfl, inX1, by decide, flRX0_41⟩
theorem FLRX3_86 : FL RX3 86 1 0 := ⟨RX1, TX1, 2, rfl, inX1, by decide, flRX3_86⟩
theorem FLRX11_238 : FL RX11 238 1 0 := ⟨RX1, TX1, 2, rfl, inX1, by decide, flRX11_238⟩
theorem FLRX6_93 : FL RX6 93 1 0 := ⟨RX1, TX1, 2, rfl, inX1, by decide, flRX6_93⟩
theorem FLRX1_18 : FL RX1 18 1 1 := ⟨RX1, TX1, 2, rfl, inX1, by decide, flRX1_18⟩
theorem FPRX1_18 : FP RX1 18 1 1 true (.object "FiniteTerms$Poly") := ⟨RX1, TX1, 2, tyX1, rfl, inX1, by decide, flRX1_18, tyX1_ok, nmX1, rfl, rfl, fun _ => rfl⟩
theorem FLRX7_55 : FL RX7 55 1 1 := ⟨RX1, TX1, 2, rfl, inX1, by decide, flRX7_55⟩
theorem FLRX10_19 : FL RX10 19 1 1 := ⟨RX1, TX1, 2, rfl, inX1, by decide, flRX10_19⟩
theorem FLRX9_82 : FL RX9 82 1 1 := ⟨RX1, TX1, 2, rfl, inX1, by decide, flRX9_82⟩
theorem FLRX0_55 : FL RX0 55 1 1 := ⟨RX1, TX1, 2, rfl, inX1, by decide, flRX0_55⟩
theorem FLRX4_99 : FL RX4 99 1 1 := ⟨RX1, TX1, 2, rfl, inX1, by decide, flRX4_99⟩
theorem FLRX3_91 : FL RX3 91 1 1 := ⟨RX1, TX1, 2, rfl, inX1, by decide, flRX3_91⟩
theorem FLRX11_248 : FL RX11 248 1 1 := ⟨RX1, TX1, 2, rfl, inX1, by decide, flRX11_248⟩
theorem FLRX4_65 : FL RX4 65 4 0 := ⟨RX4, TX4, 16, rfl, inX4, by decide, flRX4_65⟩
theorem FPRX4_65 : FP RX4 65 4 0 true (.object "FiniteTerms$Kit") := ⟨RX4, TX4, 16, tyX4, rfl, inX4, by decide, flRX4_65, tyX4_ok, nmX4, rfl, rfl, fun _ => rfl⟩
theorem FLRX4_69 : FL RX4 69 4 1 := ⟨RX4, TX4, 16, rfl, inX4, by decide, flRX4_69⟩
theorem FPRX4_69 : FP RX4 69 4 1 true (.object "FiniteTerms$Splitte\x72") := ⟨RX4, TX4, 16, tyX4, rfl, inX4, by decide, flRX4_69, tyX4_ok, nmX4, rfl, rfl, fun _ => rfl⟩
theorem FLRX4_11 : FL RX4 11 4 2 := ⟨RX4, TX4, 16, rfl, inX4, by decide, flRX4_11⟩
theorem FPRX4_11 : FP RX4 11 4 2 true (.array (.object "FiniteTerms$Frac")) := ⟨RX4, TX4, 16, tyX4, rfl, inX4, by decide, flRX4_11, tyX4_ok, nmX4, rfl, rfl, fun _ => rfl⟩
theorem FLRX4_17 : FL RX4 17 4 3 := ⟨RX4, TX4, 16, rfl, inX4, by decide, flRX4_17⟩
theorem FPRX4_17 : FP RX4 17 4 3 true (.array (.object "FiniteTerms$Frac")) := ⟨RX4, TX4, 16, tyX4, rfl, inX4, by decide, flRX4_17, tyX4_ok, nmX4, rfl, rfl, fun _ => rfl⟩
theorem FLRX4_21 : FL RX4 21 4 4 := ⟨RX4, TX4, 16, rfl, inX4, by decide, flRX4_21⟩
theorem FPRX4_21 : FP RX4 21 4 4 true (.object "FiniteTerms$Frac") := ⟨RX4, TX4, 16, tyX4, rfl, inX4, by decide, flRX4_21, tyX4_ok, nmX4, rfl, rfl, fun _ => rfl⟩
theorem FLRX4_25 : FL RX4 25 4 5 := ⟨RX4, TX4, 16, rfl, inX4, by decide, flRX4_25⟩
theorem FPRX4_25 : FP RX4 25 4 5 true (.object "FiniteTerms$Frac") := ⟨RX4, TX4, 16, tyX4, rfl, inX4, by decide, flRX4_25, tyX4_ok, nmX4, rfl, rfl, fun _ => rfl⟩
theorem FLRX4_31 : FL RX4 31 4 6 := ⟨RX4, TX4, 16, rfl, inX4, by decide, flRX4_31⟩
theorem FPRX4_31 : FP RX4 31 4 6 true (.object "FiniteTerms$Poly") := ⟨RX4, TX4, 16, tyX4, rfl, inX4, by decide, flRX4_31, tyX4_ok, nmX4, rfl, rfl, fun _ => rfl⟩
theorem FLRX4_35 : FL RX4 35 4 7 := ⟨RX4, TX4, 16, rfl, inX4, by decide, flRX4_35⟩
theorem FPRX4_35 : FP RX4 35 4 7 true (.object "FiniteTerms$Poly") := ⟨RX4, TX4, 16, tyX4, rfl, inX4, by decide, flRX4_35, tyX4_ok, nmX4, rfl, rfl, fun _ => rfl⟩
theorem FLRX4_38 : FL RX4 38 4 8 := ⟨RX4, TX4, 16, rfl, inX4, by decide, flRX4_38⟩
theorem FPRX4_38 : FP RX4 38 4 8 true (.object "FiniteTerms$Poly") := ⟨RX4, TX4, 16, tyX4, rfl, inX4, by decide, flRX4_38, tyX4_ok, nmX4, rfl, rfl, fun _ => rfl⟩
theorem FLRX4_41 : FL RX4 41 4 9 := ⟨RX4, TX4, 16, rfl, inX4, by decide, flRX4_41⟩
theorem FPRX4_41 : FP RX4 41 4 9 true (.object "FiniteTerms$Poly") := ⟨RX4, TX4, 16, tyX4, rfl, inX4, by decide, flRX4_41, tyX4_ok, nmX4, rfl, rfl, fun _ => rfl⟩
theorem FLRX4_44 : FL RX4 44 4 10 := ⟨RX4, TX4, 16, rfl, inX4, by decide, flRX4_44⟩
theorem FPRX4_44 : FP RX4 44 4 10 true (.object "FiniteTerms$Poly") := ⟨RX4, TX4, 16, tyX4, rfl, inX4, by decide, flRX4_44, tyX4_ok, nmX4, rfl, rfl, fun _ => rfl⟩
theorem FLRX4_47 : FL RX4 47 4 11 := ⟨RX4, TX4, 16, rfl, inX4, by decide, flRX4_47⟩
theorem FPRX4_47 : FP RX4 47 4 11 true (.object "FiniteTerms$Poly") := ⟨RX4, TX4, 16, tyX4, rfl, inX4, by decide, flRX4_47, tyX4_ok, nmX4, rfl, rfl, fun _ => rfl⟩
theorem FLRX4_50 : FL RX4 50 4 12 := ⟨RX4, TX4, 16, rfl, inX4, by decide, flRX4_50⟩
theorem FPRX4_50 : FP RX4 50 4 12 true (.array .boolean) := ⟨RX4, TX4, 16, tyX4, rfl, inX4, by decide, flRX4_50, tyX4_ok, nmX4, rfl, rfl, fun _ => rfl⟩
theorem FLRX4_54 : FL RX4 54 4 13 := ⟨RX4, TX4, 16, rfl, inX4, by decide, flRX4_54⟩
theorem FPRX4_54 : FP RX4 54 4 13 false .int := ⟨RX4, TX4, 16, tyX4, rfl, inX4, by decide, flRX4_54, tyX4_ok, nmX4, rfl, rfl, fun h => by cases h⟩
theorem FLRX4_58 : FL RX4 58 4 14 := ⟨RX4, TX4, 16, rfl, inX4, by decide, flRX4_58⟩
theorem FPRX4_58 : FP RX4 58 4 14 false .boolean := ⟨RX4, TX4, 16, tyX4, rfl, inX4, by decide, flRX4_58, tyX4_ok, nmX4, rfl, rfl, fun h => by cases h⟩
theorem FLRX11_279 : FL RX11 279 4 14 := ⟨RX4, TX4, 16, rfl, inX4, by decide, flRX11_279⟩
theorem FPRX11_279 : FP RX11 279 4 14 false .boolean := ⟨RX4, TX4, 16, tyX4, rfl, inX4, by decide, flRX11_279, tyX4_ok, nmX4, rfl, rfl, fun h => by cases h⟩
theorem FLRX4_62 : FL RX4 62 4 15 := ⟨RX4, TX4, 16, rfl, inX4, by decide, flRX4_62⟩
theorem FPRX4_62 : FP RX4 62 4 15 false .int := ⟨RX4, TX4, 16, tyX4, rfl, inX4, by decide, flRX4_62, tyX4_ok, nmX4, rfl, rfl, fun h => by cases h⟩
theorem FLRX11_282 : FL RX11 282 4 15 := ⟨RX4, TX4, 16, rfl, inX4, by decide, flRX11_282⟩
theorem FPRX11_282 : FP RX11 282 4 15 false .int := ⟨RX4, TX4, 16, tyX4, rfl, inX4, by decide, flRX11_282, tyX4_ok, nmX4, rfl, rfl, fun h => by cases h⟩
theorem FLRX7_42 : FL RX7 42 7 0 := ⟨RX7, TX7, 10, rfl, inX7, by decide, flRX7_42⟩
theorem FPRX7_42 : FP RX7 42 7 0 true (.object "FiniteTerms$Kit") := ⟨RX7, TX7, 10, tyX7, rfl, inX7, by decide, flRX7_42, tyX7_ok, nmX7, rfl, rfl, fun _ => rfl⟩
theorem FLRX7_12 : FL RX7 12 7 1 := ⟨RX7, TX7, 10, rfl, inX7, by decide, flRX7_12⟩
theorem FPRX7_12 : FP RX7 12 7 1 true (.object "FiniteTerms$Poly") := ⟨RX7, TX7, 10, tyX7, rfl, inX7, by decide, flRX7_12, tyX7_ok, nmX7, rfl, rfl, fun _ => rfl⟩
theorem FLRX7_18 : FL RX7 18 7 2 := ⟨RX7, TX7, 10, rfl, inX7, by decide, flRX7_18⟩
theorem FPRX7_18 : FP RX7 18 7 2 true (.object "FiniteTerms$Poly") := ⟨RX7, TX7, 10, tyX7, rfl, inX7, by decide, flRX7_18, tyX7_ok, nmX7, rfl, rfl, fun _ => rfl⟩
theorem FLRX7_21 : FL RX7 21 7 3 := ⟨RX7, TX7, 10, rfl, inX7, by decide, flRX7_21⟩
theorem FPRX7_21 : FP RX7 21 7 3 true (.object "FiniteTerms$Poly") := ⟨RX7, TX7, 10, tyX7, rfl, inX7, by decide, flRX7_21, tyX7_ok, nmX7, rfl, rfl, fun _ => rfl⟩
theorem FLRX7_24 : FL RX7 24 7 4 := ⟨RX7, TX7, 10, rfl, inX7, by decide, flRX7_24⟩
theorem FPRX7_24 : FP RX7 24 7 4 true (.object "FiniteTerms$Poly") := ⟨RX7, TX7, 10, tyX7, rfl, inX7, by decide, flRX7_24, tyX7_ok, nmX7, rfl, rfl, fun _ => rfl⟩
theorem FLRX7_27 : FL RX7 27 7 5 := ⟨RX7, TX7, 10, rfl, inX7, by decide, flRX7_27⟩
theorem FPRX7_27 : FP RX7 27 7 5 true (.object "FiniteTerms$Poly") := ⟨RX7, TX7, 10, tyX7, rfl, inX7, by decide, flRX7_27, tyX7_ok, nmX7, rfl, rfl, fun _ => rfl⟩
theorem FLRX7_30 : FL RX7 30 7 6 := ⟨RX7, TX7, 10, rfl, inX7, by decide, flRX7_30⟩
theorem FPRX7_30 : FP RX7 30 7 6 true (.object "FiniteTerms$Poly") := ⟨RX7, TX7, 10, tyX7, rfl, inX7, by decide, flRX7_30, tyX7_ok, nmX7, rfl, rfl, fun _ => rfl⟩
theorem FLRX7_33 : FL RX7 33 7 7 := ⟨RX7, TX7, 10, rfl, inX7, by decide, flRX7_33⟩
theorem FPRX7_33 : FP RX7 33 7 7 true (.object "FiniteTerms$Poly") := ⟨RX7, TX7, 10, tyX7, rfl, inX7, by decide, flRX7_33, tyX7_ok, nmX7, rfl, rfl, fun _ => rfl⟩
theorem FLRX7_36 : FL RX7 36 7 8 := ⟨RX7, TX7, 10, rfl, inX7, by decide, flRX7_36⟩
theorem FPRX7_36 : FP RX7 36 7 8 true (.object "FiniteTerms$Poly") := ⟨RX7, TX7, 10, tyX7, rfl, inX7, by decide, flRX7_36, tyX7_ok, nmX7, rfl, rfl, fun _ => rfl⟩
theorem FLRX7_39 : FL RX7 39 7 9 := ⟨RX7, TX7, 10, rfl, inX7, by decide, flRX7_39⟩
theorem FPRX7_39 : FP RX7 39 7 9 true (.object "FiniteTerms$Poly") := ⟨RX7, TX7, 10, tyX7, rfl, inX7, by decide, flRX7_39, tyX7_ok, nmX7, rfl, rfl, fun _ => rfl⟩
theorem FLRX11_296 : FL RX11 296 7 9 := ⟨RX7, TX7, 10, rfl, inX7, by decide, flRX11_296⟩
theorem FLRX6_51 : FL RX6 51 6 0 := ⟨RX6, TX6, 12, rfl, inX6, by decide, flRX6_51⟩
theorem FPRX6_51 : FP RX6 51 6 0 true (.object "FiniteTerms$Kit") := ⟨RX6, TX6, 12, tyX6, rfl, inX6, by decide, flRX6_51, tyX6_ok, nmX6, rfl, rfl, fun _ => rfl⟩
theorem FLRX6_9 : FL RX6 9 6 1 := ⟨RX6, TX6, 12, rfl, inX6, by decide, flRX6_9⟩
theorem FPRX6_9 : FP RX6 9 6 1 true (.array .int) := ⟨RX6, TX6, 12, tyX6, rfl, inX6, by decide, flRX6_9, tyX6_ok, nmX6, rfl, rfl, fun _ => rfl⟩
theorem FLRX6_15 : FL RX6 15 6 2 := ⟨RX6, TX6, 12, rfl, inX6, by decide, flRX6_15⟩
theorem FPRX6_15 : FP RX6 15 6 2 false .int := ⟨RX6, TX6, 12, tyX6, rfl, inX6, by decide, flRX6_15, tyX6_ok, nmX6, rfl, rfl, fun h => by cases h⟩
theorem FLRX11_168 : FL RX11 168 6 2 := ⟨RX6, TX6, 12, rfl, inX6, by decide, flRX11_168⟩
theorem FPRX11_168 : FP RX11 168 6 2 false .int := ⟨RX6, TX6, 12, tyX6, rfl, inX6, by decide, flRX11_168, tyX6_ok, nmX6, rfl, rfl, fun h => by cases h⟩
theorem FLRX6_19 : FL RX6 19 6 3 := ⟨RX6, TX6, 12, rfl, inX6, by decide, flRX6_19⟩
theorem FPRX6_19 : FP RX6 19 6 3 true (.array .int) := ⟨RX6, TX6, 12, tyX6, rfl, inX6, by decide, flRX6_19, tyX6_ok, nmX6, rfl, rfl, fun _ => rfl⟩
theorem FLRX6_22 : FL RX6 22 6 4 := ⟨RX6, TX6, 12, rfl, inX6, by decide, flRX6_22⟩
theorem FPRX6_22 : FP RX6 22 6 4 false .int := ⟨RX6, TX6, 12, tyX6, rfl, inX6, by decide, flRX6_22, tyX6_ok, nmX6, rfl, rfl, fun h => by cases h⟩
theorem FLRX6_25 : FL RX6 25 6 5 := ⟨RX6, TX6, 12, rfl, inX6, by decide, flRX6_25⟩
theorem FPRX6_25 : FP RX6 25 6 5 true (.array .int) := ⟨RX6, TX6, 12, tyX6, rfl, inX6, by decide, flRX6_25, tyX6_ok, nmX6, rfl, rfl, fun _ => rfl⟩
theorem FLRX6_28 : FL RX6 28 6 6 := ⟨RX6, TX6, 12, rfl, inX6, by decide, flRX6_28⟩
theorem FPRX6_28 : FP RX6 28 6 6 false .int := ⟨RX6, TX6, 12, tyX6, rfl, inX6, by decide, flRX6_28, tyX6_ok, nmX6, rfl, rfl, fun h => by cases h⟩
theorem FLRX6_31 : FL RX6 31 6 7 := ⟨RX6, TX6, 12, rfl, inX6, by decide, flRX6_31⟩
theorem FPRX6_31 : FP RX6 31 6 7 false .int := ⟨RX6, TX6, 12, tyX6, rfl, inX6, by decide, flRX6_31, tyX6_ok, nmX6, rfl, rfl, fun h => by cases h⟩
theorem FLRX6_34 : FL RX6 34 6 8 := ⟨RX6, TX6, 12, rfl, inX6, by decide, flRX6_34⟩
theorem FPRX6_34 : FP RX6 34 6 8 false .int := ⟨RX6, TX6, 12, tyX6, rfl, inX6, by decide, flRX6_34, tyX6_ok, nmX6, rfl, rfl, fun h => by cases h⟩
theorem FLRX6_39 : FL RX6 39 6 9 := ⟨RX6, TX6, 12, rfl, inX6, by decide, flRX6_39⟩
theorem FPRX6_39 : FP RX6 39 6 9 true (.array (.object "FiniteTerms$Frac")) := ⟨RX6, TX6, 12, tyX6, rfl, inX6, by decide, flRX6_39, tyX6_ok, nmX6, rfl, rfl, fun _ => rfl⟩
theorem FLRX6_43 : FL RX6 43 6 10 := ⟨RX6, TX6, 12, rfl, inX6, by decide, flRX6_43⟩
theorem FPRX6_43 : FP RX6 43 6 10 false .int := ⟨RX6, TX6, 12, tyX6, rfl, inX6, by decide, flRX6_43, tyX6_ok, nmX6, rfl, rfl, fun h => by cases h⟩
theorem FLRX6_47 : FL RX6 47 6 11 := ⟨RX6, TX6, 12, rfl, inX6, by decide, flRX6_47⟩
theorem FPRX6_47 : FP RX6 47 6 11 true (.object "FiniteTerms$Frac") := ⟨RX6, TX6, 12, tyX6, rfl, inX6, by decide, flRX6_47, tyX6_ok, nmX6, rfl, rfl, fun _ => rfl⟩
theorem FLRX10_9 : FL RX10 9 10 0 := ⟨RX10, TX10, 2, rfl, inX10, by decide, flRX10_9⟩
theorem FPRX10_9 : FP RX10 9 10 0 true (.array .int) := ⟨RX10, TX10, 2, tyX10, rfl, inX10, by decide, flRX10_9, tyX10_ok, nmX10, rfl, rfl, fun _ => rfl⟩
theorem FLRX10_15 : FL RX10 15 10 1 := ⟨RX10, TX10, 2, rfl, inX10, by decide, flRX10_15⟩
theorem FPRX10_15 : FP RX10 15 10 1 false .int := ⟨RX10, TX10, 2, tyX10, rfl, inX10, by decide, flRX10_15, tyX10_ok, nmX10, rfl, rfl, fun h => by cases h⟩
theorem FLRX11_189 : FL RX11 189 10 1 := ⟨RX10, TX10, 2, rfl, inX10, by decide, flRX11_189⟩
theorem FPRX11_189 : FP RX11 189 10 1 false .int := ⟨RX10, TX10, 2, tyX10, rfl, inX10, by decide, flRX11_189, tyX10_ok, nmX10, rfl, rfl, fun h => by cases h⟩
theorem FLRX8_9 : FL RX8 9 8 0 := ⟨RX8, TX8, 3, rfl, inX8, by decide, flRX8_9⟩
theorem FPRX8_9 : FP RX8 9 8 0 true (.array .long) := ⟨RX8, TX8, 3, tyX8, rfl, inX8, by decide, flRX8_9, tyX8_ok, nmX8, rfl, rfl, fun _ => rfl⟩
theorem FLRX11_353 : FL RX11 353 8 0 := ⟨RX8, TX8, 3, rfl, inX8, by decide, flRX11_353⟩
theorem FLRX8_15 : FL RX8 15 8 1 := ⟨RX8, TX8, 3, rfl, inX8, by decide, flRX8_15⟩
theorem FPRX8_15 : FP RX8 15 8 1 false .int := ⟨RX8, TX8, 3, tyX8, rfl, inX8, by decide, flRX8_15, tyX8_ok, nmX8, rfl, rfl, fun h => by cases h⟩
theorem FLRX11_346 : FL RX11 346 8 1 := ⟨RX8, TX8, 3, rfl, inX8, by decide, flRX11_346⟩
theorem FPRX11_346 : FP RX11 346 8 1 false .int := ⟨RX8, TX8, 3, tyX8, rfl, inX8, by decide, flRX11_346, tyX8_ok, nmX8, rfl, rfl, fun h => by cases h⟩
theorem FLRX8_19 : FL RX8 19 8 2 := ⟨RX8, TX8, 3, rfl, inX8, by decide, flRX8_19⟩
theorem FPRX8_19 : FP RX8 19 8 2 false .int := ⟨RX8, TX8, 3, tyX8, rfl, inX8, by decide, flRX8_19, tyX8_ok, nmX8, rfl, rfl, fun h => by cases h⟩
theorem FLRX11_349 : FL RX11 349 8 2 := ⟨RX8, TX8, 3, rfl, inX8, by decide, flRX11_349⟩
theorem FPRX11_349 : FP RX11 349 8 2 false .int := ⟨RX8, TX8, 3, tyX8, rfl, inX8, by decide, flRX11_349, tyX8_ok, nmX8, rfl, rfl, fun h => by cases h⟩
theorem FLRX11_12 : FL RX11 12 11 0 := ⟨RX11, TX11, 18, rfl, inX11, by decide, flRX11_12⟩
theorem FPRX11_12 : FP RX11 12 11 0 true (.object "FiniteTerms$Board") := ⟨RX11, TX11, 18, tyX11, rfl, inX11, by decide, flRX11_12, tyX11_ok, nmX11, rfl, rfl, fun _ => rfl⟩
theorem FLRX11_19 : FL RX11 19 11 1 := ⟨RX11, TX11, 18, rfl, inX11, by decide, flRX11_19⟩
theorem FPRX11_19 : FP RX11 19 11 1 true (.object "FiniteTerms$History") := ⟨RX11, TX11, 18, tyX11, rfl, inX11, by decide, flRX11_19, tyX11_ok, nmX11, rfl, rfl, fun _ => rfl⟩
theorem FLRX11_23 : FL RX11 23 11 2 := ⟨RX11, TX11, 18, rfl, inX11, by decide, flRX11_23⟩
theorem FPRX11_23 : FP RX11 23 11 2 true (.object "FiniteTerms$Board") := ⟨RX11, TX11, 18, tyX11, rfl, inX11, by decide, flRX11_23, tyX11_ok, nmX11, rfl, rfl, fun _ => rfl⟩
theorem FLRX11_26 : FL RX11 26 11 3 := ⟨RX11, TX11, 18, rfl, inX11, by decide, flRX11_26⟩
theorem FPRX11_26 : FP RX11 26 11 3 true (.object "FiniteTerms$History") := ⟨RX11, TX11, 18, tyX11, rfl, inX11, by decide, flRX11_26, tyX11_ok, nmX11, rfl, rfl, fun _ => rfl⟩
theorem FLRX11_29 : FL RX11 29 11 4 := ⟨RX11, TX11, 18, rfl, inX11, by decide, flRX11_29⟩
theorem FPRX11_29 : FP RX11 29 11 4 false .boolean := ⟨RX11, TX11, 18, tyX11, rfl, inX11, by decide, flRX11_29, tyX11_ok, nmX11, rfl, rfl, fun h => by cases h⟩
theorem FLRX11_35 : FL RX11 35 11 5 := ⟨RX11, TX11, 18, rfl, inX11, by decide, flRX11_35⟩
theorem FPRX11_35 : FP RX11 35 11 5 true (.array (.object "FiniteTerms$Sheet")) := ⟨RX11, TX11, 18, tyX11, rfl, inX11, by decide, flRX11_35, tyX11_ok, nmX11, rfl, rfl, fun _ => rfl⟩
theorem FLRX11_42 : FL RX11 42 11 6 := ⟨RX11, TX11, 18, rfl, inX11, by decide, flRX11_42⟩
theorem FPRX11_42 : FP RX11 42 11 6 true (.object "FiniteTerms$Kit") := ⟨RX11, TX11, 18, tyX11, rfl, inX11, by decide, flRX11_42, tyX11_ok, nmX11, rfl, rfl, fun _ => rfl⟩
theorem FLRX11_51 : FL RX11 51 11 7 := ⟨RX11, TX11, 18, rfl, inX11, by decide, flRX11_51⟩
theorem FPRX11_51 : FP RX11 51 11 7 true (.object "FiniteTerms$Splitte\x72") := ⟨RX11, TX11, 18, tyX11, rfl, inX11, by decide, flRX11_51, tyX11_ok, nmX11, rfl, rfl, fun _ => rfl⟩
theorem FLRX11_60 : FL RX11 60 11 8 := ⟨RX11, TX11, 18, rfl, inX11, by decide, flRX11_60⟩
theorem FPRX11_60 : FP RX11 60 11 8 true (.object "FiniteTerms$Parts") := ⟨RX11, TX11, 18, tyX11, rfl, inX11, by decide, flRX11_60, tyX11_ok, nmX11, rfl, rfl, fun _ => rfl⟩
theorem FLRX11_64 : FL RX11 64 11 9 := ⟨RX11, TX11, 18, rfl, inX11, by decide, flRX11_64⟩
theorem FPRX11_64 : FP RX11 64 11 9 true (.object "FiniteTerms$Parts") := ⟨RX11, TX11, 18, tyX11, rfl, inX11, by decide, flRX11_64, tyX11_ok, nmX11, rfl, rfl, fun _ => rfl⟩
theorem FLRX11_70 : FL RX11 70 11 10 := ⟨RX11, TX11, 18, rfl, inX11, by decide, flRX11_70⟩
theorem FPRX11_70 : FP RX11 70 11 10 true (.object "FiniteTerms$Residues") := ⟨RX11, TX11, 18, tyX11, rfl, inX11, by decide, flRX11_70, tyX11_ok, nmX11, rfl, rfl, fun _ => rfl⟩
theorem FLRX11_77 : FL RX11 77 11 11 := ⟨RX11, TX11, 18, rfl, inX11, by decide, flRX11_77⟩
theorem FPRX11_77 : FP RX11 77 11 11 true (.object "FiniteTerms$Reade\x72") := ⟨RX11, TX11, 18, tyX11, rfl, inX11, by decide, flRX11_77, tyX11_ok, nmX11, rfl, rfl, fun _ => rfl⟩
theorem FLRX11_84 : FL RX11 84 11 12 := ⟨RX11, TX11, 18, rfl, inX11, by decide, flRX11_84⟩
theorem FPRX11_84 : FP RX11 84 11 12 true (.object "FiniteTerms$Write\x72") := ⟨RX11, TX11, 18, tyX11, rfl, inX11, by decide, flRX11_84, tyX11_ok, nmX11, rfl, rfl, fun _ => rfl⟩
theorem FLRX11_90 : FL RX11 90 11 13 := ⟨RX11, TX11, 18, rfl, inX11, by decide, flRX11_90⟩
theorem FPRX11_90 : FP RX11 90 11 13 true (.array (.object "FiniteTerms$Frac")) := ⟨RX11, TX11, 18, tyX11, rfl, inX11, by decide, flRX11_90, tyX11_ok, nmX11, rfl, rfl, fun _ => rfl⟩
theorem FLRX11_95 : FL RX11 95 11 14 := ⟨RX11, TX11, 18, rfl, inX11, by decide, flRX11_95⟩
theorem FPRX11_95 : FP RX11 95 11 14 true (.object "FiniteTerms$Frac") := ⟨RX11, TX11, 18, tyX11, rfl, inX11, by decide, flRX11_95, tyX11_ok, nmX11, rfl, rfl, fun _ => rfl⟩
theorem FLRX11_99 : FL RX11 99 11 15 := ⟨RX11, TX11, 18, rfl, inX11, by decide, flRX11_99⟩
theorem FPRX11_99 : FP RX11 99 11 15 true (.object "FiniteTerms$Frac") := ⟨RX11, TX11, 18, tyX11, rfl, inX11, by decide, flRX11_99, tyX11_ok, nmX11, rfl, rfl, fun _ => rfl⟩
theorem FLRX11_102 : FL RX11 102 11 16 := ⟨RX11, TX11, 18, rfl, inX11, by decide, flRX11_102⟩
theorem FPRX11_102 : FP RX11 102 11 16 true (.object "FiniteTerms$Frac") := ⟨RX11, TX11, 18, tyX11, rfl, inX11, by decide, flRX11_102, tyX11_ok, nmX11, rfl, rfl, fun _ => rfl⟩
theorem FLRX11_108 : FL RX11 108 11 17 := ⟨RX11, TX11, 18, rfl, inX11, by decide, flRX11_108⟩
theorem FPRX11_108 : FP RX11 108 11 17 true (.object "FiniteTerms$Poly") := ⟨RX11, TX11, 18, tyX11, rfl, inX11, by decide, flRX11_108, tyX11_ok, nmX11, rfl, rfl, fun _ => rfl⟩
theorem FLRX12_3 : FL RX12 3 12 0 := ⟨RX12, TX12, 31, rfl, inX12, by decide, flRX12_3⟩
theorem FPRX12_3 : FP RX12 3 12 0 true (.array .int) := ⟨RX12, TX12, 31, tyX12, rfl, inX12, by decide, flRX12_3, tyX12_ok, nmX12, rfl, rfl, fun _ => rfl⟩
theorem FLRX12_18 : FL RX12 18 12 1 := ⟨RX12, TX12, 31, rfl, inX12, by decide, flRX12_18⟩
theorem FPRX12_18 : FP RX12 18 12 1 true (.array .int) := ⟨RX12, TX12, 31, tyX12, rfl, inX12, by decide, flRX12_18, tyX12_ok, nmX12, rfl, rfl, fun _ => rfl⟩
theorem FLRX12_125 : FL RX12 125 12 2 := ⟨RX12, TX12, 31, rfl, inX12, by decide, flRX12_125⟩
theorem FPRX12_125 : FP RX12 125 12 2 false .int := ⟨RX12, TX12, 31, tyX12, rfl, inX12, by decide, flRX12_125, tyX12_ok, nmX12, rfl, rfl, fun h => by cases h⟩
theorem FLRX12_68 : FL RX12 68 12 3 := ⟨RX12, TX12, 31, rfl, inX12, by decide, flRX12_68⟩
theorem FPRX12_68 : FP RX12 68 12 3 true (.array .int) := ⟨RX12, TX12, 31, tyX12, rfl, inX12, by decide, flRX12_68, tyX12_ok, nmX12, rfl, rfl, fun _ => rfl⟩
theorem FLRX12_71 : FL RX12 71 12 4 := ⟨RX12, TX12, 31, rfl, inX12, by decide, flRX12_71⟩
theorem FPRX12_71 : FP RX12 71 12 4 false .int := ⟨RX12, TX12, 31, tyX12, rfl, inX12, by decide, flRX12_71, tyX12_ok, nmX12, rfl, rfl, fun h => by cases h⟩
theorem FLRX12_135 : FL RX12 135 12 5 := ⟨RX12, TX12, 31, rfl, inX12, by decide, flRX12_135⟩
theorem FPRX12_135 : FP RX12 135 12 5 false .int := ⟨RX12, TX12, 31, tyX12, rfl, inX12, by decide, flRX12_135, tyX12_ok, nmX12, rfl, rfl, fun h => by cases h⟩
theorem FLRX12_128 : FL RX12 128 12 6 := ⟨RX12, TX12, 31, rfl, inX12, by decide, flRX12_128⟩
theorem FPRX12_128 : FP RX12 128 12 6 false .int := ⟨RX12, TX12, 31, tyX12, rfl, inX12, by decide, flRX12_128, tyX12_ok, nmX12, rfl, rfl, fun h => by cases h⟩
theorem FLRX12_75 : FL RX12 75 12 7 := ⟨RX12, TX12, 31, rfl, inX12, by decide, flRX12_75⟩
theorem FPRX12_75 : FP RX12 75 12 7 true (.array .int) := ⟨RX12, TX12, 31, tyX12, rfl, inX12, by decide, flRX12_75, tyX12_ok, nmX12, rfl, rfl, fun _ => rfl⟩
theorem FLRX12_141 : FL RX12 141 12 8 := ⟨RX12, TX12, 31, rfl, inX12, by decide, flRX12_141⟩
theorem FPRX12_141 : FP RX12 141 12 8 false .boolean := ⟨RX12, TX12, 31, tyX12, rfl, inX12, by decide, flRX12_141, tyX12_ok, nmX12, rfl, rfl, fun h => by cases h⟩
theorem FLRX12_145 : FL RX12 145 12 9 := ⟨RX12, TX12, 31, rfl, inX12, by decide, flRX12_145⟩
theorem FPRX12_145 : FP RX12 145 12 9 false .int := ⟨RX12, TX12, 31, tyX12, rfl, inX12, by decide, flRX12_145, tyX12_ok, nmX12, rfl, rfl, fun h => by cases h⟩
theorem FLRX12_148 : FL RX12 148 12 10 := ⟨RX12, TX12, 31, rfl, inX12, by decide, flRX12_148⟩
theorem FPRX12_148 : FP RX12 148 12 10 false .int := ⟨RX12, TX12, 31, tyX12, rfl, inX12, by decide, flRX12_148, tyX12_ok, nmX12, rfl, rfl, fun h => by cases h⟩
theorem FLRX12_78 : FL RX12 78 12 11 := ⟨RX12, TX12, 31, rfl, inX12, by decide, flRX12_78⟩
theorem FPRX12_78 : FP RX12 78 12 11 true (.array .int) := ⟨RX12, TX12, 31, tyX12, rfl, inX12, by decide, flRX12_78, tyX12_ok, nmX12, rfl, rfl, fun _ => rfl⟩
theorem FLRX12_81 : FL RX12 81 12 12 := ⟨RX12, TX12, 31, rfl, inX12, by decide, flRX12_81⟩
theorem FPRX12_81 : FP RX12 81 12 12 true (.array .int) := ⟨RX12, TX12, 31, tyX12, rfl, inX12, by decide, flRX12_81, tyX12_ok, nmX12, rfl, rfl, fun _ => rfl⟩
theorem FLRX12_162 : FL RX12 162 12 13 := ⟨RX12, TX12, 31, rfl, inX12, by decide, flRX12_162⟩
theorem FPRX12_162 : FP RX12 162 12 13 false .int := ⟨RX12, TX12, 31, tyX12, rfl, inX12, by decide, flRX12_162, tyX12_ok, nmX12, rfl, rfl, fun h => by cases h⟩
theorem FLRX12_84 : FL RX12 84 12 14 := ⟨RX12, TX12, 31, rfl, inX12, by decide, flRX12_84⟩
theorem FPRX12_84 : FP RX12 84 12 14 true (.array .int) := ⟨RX12, TX12, 31, tyX12, rfl, inX12, by decide, flRX12_84, tyX12_ok, nmX12, rfl, rfl, fun _ => rfl⟩
theorem FLRX12_87 : FL RX12 87 12 15 := ⟨RX12, TX12, 31, rfl, inX12, by decide, flRX12_87⟩
theorem FPRX12_87 : FP RX12 87 12 15 true (.array .int) := ⟨RX12, TX12, 31, tyX12, rfl, inX12, by decide, flRX12_87, tyX12_ok, nmX12, rfl, rfl, fun _ => rfl⟩
theorem FLRX12_259 : FL RX12 259 12 16 := ⟨RX12, TX12, 31, rfl, inX12, by decide, flRX12_259⟩
theorem FPRX12_259 : FP RX12 259 12 16 false .int := ⟨RX12, TX12, 31, tyX12, rfl, inX12, by decide, flRX12_259, tyX12_ok, nmX12, rfl, rfl, fun h => by cases h⟩
theorem FLRX12_278 : FL RX12 278 12 17 := ⟨RX12, TX12, 31, rfl, inX12, by decide, flRX12_278⟩
theorem FPRX12_278 : FP RX12 278 12 17 false .boolean := ⟨RX12, TX12, 31, tyX12, rfl, inX12, by decide, flRX12_278, tyX12_ok, nmX12, rfl, rfl, fun h => by cases h⟩
theorem FLRX12_281 : FL RX12 281 12 18 := ⟨RX12, TX12, 31, rfl, inX12, by decide, flRX12_281⟩
theorem FPRX12_281 : FP RX12 281 12 18 false .int := ⟨RX12, TX12, 31, tyX12, rfl, inX12, by decide, flRX12_281, tyX12_ok, nmX12, rfl, rfl, fun h => by cases h⟩
theorem FLRX12_90 : FL RX12 90 12 19 := ⟨RX12, TX12, 31, rfl, inX12, by decide, flRX12_90⟩
theorem FPRX12_90 : FP RX12 90 12 19 true (.array .int) := ⟨RX12, TX12, 31, tyX12, rfl, inX12, by decide, flRX12_90, tyX12_ok, nmX12, rfl, rfl, fun _ => rfl⟩
theorem FLRX12_93 : FL RX12 93 12 20 := ⟨RX12, TX12, 31, rfl, inX12, by decide, flRX12_93⟩
theorem FPRX12_93 : FP RX12 93 12 20 true (.array .int) := ⟨RX12, TX12, 31, tyX12, rfl, inX12, by decide, flRX12_93, tyX12_ok, nmX12, rfl, rfl, fun _ => rfl⟩
theorem FLRX12_96 : FL RX12 96 12 21 := ⟨RX12, TX12, 31, rfl, inX12, by decide, flRX12_96⟩
theorem FPRX12_96 : FP RX12 96 12 21 true (.array .int) := ⟨RX12, TX12, 31, tyX12, rfl, inX12, by decide, flRX12_96, tyX12_ok, nmX12, rfl, rfl, fun _ => rfl⟩
theorem FLRX12_299 : FL RX12 299 12 22 := ⟨RX12, TX12, 31, rfl, inX12, by decide, flRX12_299⟩
theorem FPRX12_299 : FP RX12 299 12 22 false .int := ⟨RX12, TX12, 31, tyX12, rfl, inX12, by decide, flRX12_299, tyX12_ok, nmX12, rfl, rfl, fun h => by cases h⟩
theorem FLRX12_302 : FL RX12 302 12 23 := ⟨RX12, TX12, 31, rfl, inX12, by decide, flRX12_302⟩
theorem FPRX12_302 : FP RX12 302 12 23 false .int := ⟨RX12, TX12, 31, tyX12, rfl, inX12, by decide, flRX12_302, tyX12_ok, nmX12, rfl, rfl, fun h => by cases h⟩
theorem FLRX12_99 : FL RX12 99 12 24 := ⟨RX12, TX12, 31, rfl, inX12, by decide, flRX12_99⟩
theorem FPRX12_99 : FP RX12 99 12 24 true (.array .int) := ⟨RX12, TX12, 31, tyX12, rfl, inX12, by decide, flRX12_99, tyX12_ok, nmX12, rfl, rfl, fun _ => rfl⟩
theorem FLRX12_320 : FL RX12 320 12 25 := ⟨RX12, TX12, 31, rfl, inX12, by decide, flRX12_320⟩
theorem FPRX12_320 : FP RX12 320 12 25 false .int := ⟨RX12, TX12, 31, tyX12, rfl, inX12, by decide, flRX12_320, tyX12_ok, nmX12, rfl, rfl, fun h => by cases h⟩
theorem FLRX12_102 : FL RX12 102 12 26 := ⟨RX12, TX12, 31, rfl, inX12, by decide, flRX12_102⟩
theorem FPRX12_102 : FP RX12 102 12 26 true (.array .int) := ⟨RX12, TX12, 31, tyX12, rfl, inX12, by decide, flRX12_102, tyX12_ok, nmX12, rfl, rfl, fun _ => rfl⟩
theorem FLRX12_105 : FL RX12 105 12 27 := ⟨RX12, TX12, 31, rfl, inX12, by decide, flRX12_105⟩
theorem FPRX12_105 : FP RX12 105 12 27 true (.array .int) := ⟨RX12, TX12, 31, tyX12, rfl, inX12, by decide, flRX12_105, tyX12_ok, nmX12, rfl, rfl, fun _ => rfl⟩
theorem FLRX12_108 : FL RX12 108 12 28 := ⟨RX12, TX12, 31, rfl, inX12, by decide, flRX12_108⟩
theorem FPRX12_108 : FP RX12 108 12 28 true (.array .int) := ⟨RX12, TX12, 31, tyX12, rfl, inX12, by decide, flRX12_108, tyX12_ok, nmX12, rfl, rfl, fun _ => rfl⟩
theorem FLRX12_111 : FL RX12 111 12 29 := ⟨RX12, TX12, 31, rfl, inX12, by decide, flRX12_111⟩
theorem FPRX12_111 : FP RX12 111 12 29 true (.array .int) := ⟨RX12, TX12, 31, tyX12, rfl, inX12, by decide, flRX12_111, tyX12_ok, nmX12, rfl, rfl, fun _ => rfl⟩
theorem FLRX12_114 : FL RX12 114 12 30 := ⟨RX12, TX12, 31, rfl, inX12, by decide, flRX12_114⟩
theorem FPRX12_114 : FP RX12 114 12 30 true (.array .long) := ⟨RX12, TX12, 31, tyX12, rfl, inX12, by decide, flRX12_114, tyX12_ok, nmX12, rfl, rfl, fun _ => rfl⟩
