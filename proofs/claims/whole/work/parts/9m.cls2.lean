theorem c_multiplyBySlope (l : Launch) (G : Gl) (Λ : Lay) (sz : Nat) (μ : Mem) {π : Nat → PS} {p κ σ f : Nat} {v : Int} (hA : AB Λ μ π) (hI : INV G Λ) (hK : kitK Λ κ) (hP : partK Λ p κ σ) (hF : fracK Λ f) (hord : κ + 16 < p ∧ (f + 4 < κ ∨ κ + 16 < f) ∧ (f + 4 < p + 3 ∨ p + 25 < f)) (hv : -16 ≤ v ∧ v < 16) (h1 : (π (f + 1)).size + (π (p + 15)).size ≤ 49) (h2 : (π (f + 3)).size + (π (p + 13)).size ≤ 49) (hD0 : ((π (f + 3)).mul (π (p + 13))) ≠ PS.zero) : Sp l G yX4_multiplyBySlope cX4_multiplyBySlope 3 none 4 [.ref p, .ref f, iv v] Λ sz μ (pV (fun μ' => ∃ π', Chg Λ (fun c => c = p + 3 + 1 ∨ c = p + 3 + 3 ∨ (κ < c ∧ c < κ + 17)) μ μ' π π' ∧ π' (p + 3 + 1) = rdN (((π (f + 1)).mul (π (p + 15))).sm (fi v)) ((π (f + 3)).mul (π (p + 13))) ∧ π' (p + 3 + 3) = rdD (((π (f + 1)).mul (π (p + 15))).sm (fi v)) ((π (f + 3)).mul (π (p + 13))))) := by
  refine Sp.intro (by decide) (Nat.le_of_ble_eq_true rfl) (fun x hx hBD => ?_)
  refine v_lv [(0, .ref p), (1, .ref f), (2, iv v)] rfl ?_
  have hch0 : Chg Λ (fun c => c = p + 3 + 1 ∨ c = p + 3 + 3 ∨ (κ < c ∧ c < κ + 17)) μ μ π π := Chg.rf hA
  refine v_aload hx DX4_multiplyBySlope_0 0 rfl ?_
  refine v_get hx DX4_multiplyBySlope_1 FLRX4_21 hP.1 (v := .ref (p + 3)) rfl ?_
  refine v_get hx DX4_multiplyBySlope_4 FLRX4_82 hP.2.2.2.2.1.1.1 (v := .ref (p + 3 + 1)) rfl ?_
  refine v_aload hx DX4_multiplyBySlope_7 1 rfl ?_
  refine v_get hx DX4_multiplyBySlope_8 FLRX4_82 hF.1 (v := .ref (f + 1)) rfl ?_
  refine v_aload hx DX4_multiplyBySlope_11 0 rfl ?_
  refine v_get hx DX4_multiplyBySlope_12 FLRX4_35 hP.1 (v := .ref (p + 15)) rfl ?_
  refine v_cVv hx DX4_multiplyBySlope_15 CVRX4_85 [.ref (f + 1), .ref (p + 15)] (s_product l G Λ sz μ hP.2.2.2.2.1.1.2.1 hF.2.1 hP.2.2.2.2.2.1.2.1 (by omega) (by omega) (AB.get (A := π (p + 3 + 1)) hA hP.2.2.2.2.1.1.2.1 rfl) (AB.get (A := π (f + 1)) hA hF.2.1 rfl) (AB.get (A := π (p + 15)) hA hP.2.2.2.2.2.1.2.1 rfl) (by omega)) hP.2.2.2.2.1.1.2.1.1 rfl rfl (Nat.le_of_ble_eq_true rfl) (by decide) ⟨Nat.le_refl _, Nat.le_refl _⟩ (fun μ1 hμ1 => ?_)
  obtain ⟨π1, hc1, he1, ho1⟩ := Chg.one (S := fun c => c = p + 3 + 1 ∨ c = p + 3 + 3 ∨ (κ < c ∧ c < κ + 17)) (R := PS.mul (π (f + 1)) (π (p + 15))) hA hP.2.2.2.2.1.1.2.1 (by first | omega | (dsimp only; omega)) hμ1
  have hA1 := hc1.1
  have hch1 := hch0.trans hc1
  have v1_0 : π1 (f + 1) = π (f + 1) := (ho1 (f + 1) (by omega)).trans rfl
  have v1_1 : π1 (f + 3) = π (f + 3) := (ho1 (f + 3) (by omega)).trans rfl
  have v1_2 : π1 (p + 15) = π (p + 15) := (ho1 (p + 15) (by omega)).trans rfl
  have v1_3 : π1 (p + 13) = π (p + 13) := (ho1 (p + 13) (by omega)).trans rfl
  refine v_aload hx DX4_multiplyBySlope_18 0 rfl ?_
  refine v_get hx DX4_multiplyBySlope_19 FLRX4_21 hP.1 (v := .ref (p + 3)) rfl ?_
  refine v_get hx DX4_multiplyBySlope_22 FLRX4_82 hP.2.2.2.2.1.1.1 (v := .ref (p + 3 + 1)) rfl ?_
  refine v_iload hx DX4_multiplyBySlope_25 2 rfl ?_
  refine v_push hx DX4_multiplyBySlope_26 ?_
  refine v_cSp hx DX4_multiplyBySlope_28 CSRX4_89 [iv v, iv 101] (j_fmod l G Λ sz μ1 (by omega)) rfl rfl (Nat.le_of_ble_eq_true rfl) (by decide) ⟨Nat.le_refl _, Nat.le_refl _⟩ ?_
  refine v_cVv hx DX4_multiplyBySlope_31 CVRX4_116 [iv (v % 101)] (s_scale l G Λ sz μ1 hP.2.2.2.2.1.1.2.1 (AB.get (A := PS.mul (π (f + 1)) (π (p + 15))) hA1 hP.2.2.2.2.1.1.2.1 he1) (by omega)) hP.2.2.2.2.1.1.2.1.1 rfl rfl (Nat.le_of_ble_eq_true rfl) (by decide) ⟨Nat.le_refl _, Nat.le_refl _⟩ (fun μ4 hμ4 => ?_)
  obtain ⟨π4, hc4, he4, ho4⟩ := Chg.one (S := fun c => c = p + 3 + 1 ∨ c = p + 3 + 3 ∨ (κ < c ∧ c < κ + 17)) (R := PS.sm (fi (v % 101)) (PS.mul (π (f + 1)) (π (p + 15)))) hA1 hP.2.2.2.2.1.1.2.1 (by first | omega | (dsimp only; omega)) hμ4
  have hA4 := hc4.1
  have hch4 := hch1.trans hc4
  have v4_0 : π4 (f + 1) = π (f + 1) := (ho4 (f + 1) (by omega)).trans v1_0
  have v4_1 : π4 (f + 3) = π (f + 3) := (ho4 (f + 3) (by omega)).trans v1_1
  have v4_2 : π4 (p + 15) = π (p + 15) := (ho4 (p + 15) (by omega)).trans v1_2
  have v4_3 : π4 (p + 13) = π (p + 13) := (ho4 (p + 13) (by omega)).trans v1_3
  have w5 : π4 (p + 3 + 1) = (((π (f + 1)).mul (π (p + 15))).sm (fi v)) := he4.trans (by rw [fi_mod])
  refine v_aload hx DX4_multiplyBySlope_34 0 rfl ?_
  refine v_get hx DX4_multiplyBySlope_35 FLRX4_21 hP.1 (v := .ref (p + 3)) rfl ?_
  refine v_get hx DX4_multiplyBySlope_38 FLRX4_99 hP.2.2.2.2.1.1.1 (v := .ref (p + 3 + 3)) rfl ?_
  refine v_aload hx DX4_multiplyBySlope_41 1 rfl ?_
  refine v_get hx DX4_multiplyBySlope_42 FLRX4_99 hF.1 (v := .ref (f + 3)) rfl ?_
  refine v_aload hx DX4_multiplyBySlope_45 0 rfl ?_
  refine v_get hx DX4_multiplyBySlope_46 FLRX4_31 hP.1 (v := .ref (p + 13)) rfl ?_
  refine v_cVv hx DX4_multiplyBySlope_49 CVRX4_85 [.ref (f + 3), .ref (p + 13)] (s_product l G Λ sz μ4 hP.2.2.2.2.1.1.2.2 hF.2.2 hP.2.2.2.2.2.1.1 (by omega) (by omega) (AB.get (A := π4 (p + 3 + 3)) hA4 hP.2.2.2.2.1.1.2.2 rfl) (AB.get (A := π (f + 3)) hA4 hF.2.2 v4_1) (AB.get (A := π (p + 13)) hA4 hP.2.2.2.2.2.1.1 v4_3) (by omega)) hP.2.2.2.2.1.1.2.2.1 rfl rfl (Nat.le_of_ble_eq_true rfl) (by decide) ⟨Nat.le_refl _, Nat.le_refl _⟩ (fun μ6 hμ6 => ?_)
  obtain ⟨π6, hc6, he6, ho6⟩ := Chg.one (S := fun c => c = p + 3 + 1 ∨ c = p + 3 + 3 ∨ (κ < c ∧ c < κ + 17)) (R := PS.mul (π (f + 3)) (π (p + 13))) hA4 hP.2.2.2.2.1.1.2.2 (by first | omega | (dsimp only; omega)) hμ6
  have hA6 := hc6.1
  have hch6 := hch4.trans hc6
  have v6_0 : π6 (f + 1) = π (f + 1) := (ho6 (f + 1) (by omega)).trans v4_0
  have v6_1 : π6 (f + 3) = π (f + 3) := (ho6 (f + 3) (by omega)).trans v4_1
  have v6_2 : π6 (p + 15) = π (p + 15) := (ho6 (p + 15) (by omega)).trans v4_2
  have v6_3 : π6 (p + 13) = π (p + 13) := (ho6 (p + 13) (by omega)).trans v4_3
  have v6_4 : π6 (p + 3 + 1) = (((π (f + 1)).mul (π (p + 15))).sm (fi v)) := (ho6 (p + 3 + 1) (by omega)).trans w5
  refine v_aload hx DX4_multiplyBySlope_52 0 rfl ?_
  refine v_get hx DX4_multiplyBySlope_53 FLRX4_65 hP.1 (v := .ref κ) rfl ?_
  refine v_aload hx DX4_multiplyBySlope_56 0 rfl ?_
  refine v_get hx DX4_multiplyBySlope_57 FLRX4_21 hP.1 (v := .ref (p + 3)) rfl ?_
  refine v_cVv hx DX4_multiplyBySlope_60 CVRX4_112 [.ref (p + 3)] (q_reduce l G Λ sz μ6 hA6 hI hK hP.2.2.2.2.1.1 (by omega) (by rw [he6]; exact hD0)) hK.1 rfl rfl (Nat.le_of_ble_eq_true rfl) (by decide) ⟨Nat.le_refl _, Nat.le_refl _⟩ (fun μ7 hμ7 => ?_)
  obtain ⟨π7, hc7, he7_0, he7_1⟩ := hμ7
  have hA7 := hc7.1
  have hch7 := hch6.trans (hc7.mono (fun c hc => by first | omega | (dsimp only at hc ⊢; omega)))
  have v7_0 : π7 (f + 1) = π (f + 1) := (hc7.2.1 (f + 1) (by first | omega | (dsimp only; omega))).trans v6_0
  have v7_1 : π7 (f + 3) = π (f + 3) := (hc7.2.1 (f + 3) (by first | omega | (dsimp only; omega))).trans v6_1
  have v7_2 : π7 (p + 15) = π (p + 15) := (hc7.2.1 (p + 15) (by first | omega | (dsimp only; omega))).trans v6_2
  have v7_3 : π7 (p + 13) = π (p + 13) := (hc7.2.1 (p + 13) (by first | omega | (dsimp only; omega))).trans v6_3
  have g7_0 : π7 (p + 3 + 1) = rdN (((π (f + 1)).mul (π (p + 15))).sm (fi v)) ((π (f + 3)).mul (π (p + 13))) := he7_0.trans (by rw [v6_4, he6])
  have g7_1 : π7 (p + 3 + 3) = rdD (((π (f + 1)).mul (π (p + 15))).sm (fi v)) ((π (f + 3)).mul (π (p + 13))) := he7_1.trans (by rw [v6_4, he6])
  exact v_rv hx hBD DX4_multiplyBySlope_63 (⟨π7, hch7, g7_0, g7_1⟩)
