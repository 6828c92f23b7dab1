/-- the number e for which p is e q, or -1 -/
noncomputable def ratI (p q : PS) : Int := @ite Int (p = q.sm (fi (ca p ((q.size : Int) - 1) * ivI (hdI q) % 101))) (Classical.propDecidable _) (ca p ((q.size : Int) - 1) * ivI (hdI q) % 101) (-1)
theorem q_sum (l : Launch) (G : Gl) (Λ : Lay) (sz : Nat) (μ : Mem) {π : Nat → PS} {κ o a b : Nat} {f : Int} (hA : AB Λ μ π) (hI : INV G Λ) (hK : kitK Λ κ) (hO : fracK Λ o) (hFa : fracK Λ a) (hFb : fracK Λ b) (oo : o + 4 < κ ∨ κ + 16 < o) (oa : a + 4 < κ ∨ κ + 16 < a) (ob : b + 4 < κ ∨ κ + 16 < b) (doa : o = a ∨ o + 4 < a ∨ a + 4 < o) (dob : o = b ∨ o + 4 < b ∨ b + 4 < o) (hf : 0 ≤ f ∧ f ≤ 101) (h1 : (π (a + 1)).size + (π (b + 3)).size ≤ 49) (h2 : (π (b + 1)).size + (π (a + 3)).size ≤ 49) (h3 : (π (a + 3)).size + (π (b + 3)).size ≤ 49) (hY : PS.mul (π (a + 3)) (π (b + 3)) ≠ PS.zero) : Sp l G yX3_sum cX3_sum 5 none 4 [.ref κ, .ref o, .ref a, .ref b, iv f] Λ sz μ (pV (fun μ' => ∃ π', Chg Λ (fun c => c = o + 1 ∨ c = o + 3 ∨ (κ < c ∧ c < κ + 17)) μ μ' π π' ∧ π' (o + 1) = rdN (PS.am (PS.mul (π (a + 1)) (π (b + 3))) (PS.mul (π (b + 1)) (π (a + 3))) (fi f) 0) (PS.mul (π (a + 3)) (π (b + 3))) ∧ π' (o + 3) = rdD (PS.am (PS.mul (π (a + 1)) (π (b + 3))) (PS.mul (π (b + 1)) (π (a + 3))) (fi f) 0) (PS.mul (π (a + 3)) (π (b + 3))))) := by
  refine Sp.intro (by decide) (Nat.le_of_ble_eq_true rfl) (fun x hx hB => ?_)
  refine v_lv [(0, .ref κ), (1, .ref o), (2, .ref a), (3, .ref b), (4, iv f)] rfl ?_
  have hch0 : Chg Λ (fun c => c = o + 1 ∨ c = o + 3 ∨ (κ < c ∧ c < κ + 17)) μ μ π π := Chg.rf hA
  refine v_aload hx DX3_sum_0 0 rfl ?_
  refine v_get hx DX3_sum_1 FLRX3_30 hK.1 (v := .ref (κ + 11)) rfl ?_
  refine v_aload hx DX3_sum_4 2 rfl ?_
  refine v_get hx DX3_sum_5 FLRX3_86 hFa.1 (v := .ref (a + 1)) rfl ?_
  refine v_aload hx DX3_sum_8 3 rfl ?_
  refine v_get hx DX3_sum_9 FLRX3_91 hFb.1 (v := .ref (b + 3)) rfl ?_
  refine v_cVv hx DX3_sum_12 CVRX3_79 [.ref (a + 1), .ref (b + 3)] (s_product l G Λ sz μ hK.2.2.2.1 hFa.2.1 hFb.2.2 (by omega) (by omega) (AB.get (A := π (κ + 11)) hA hK.2.2.2.1 rfl) (AB.get (A := π (a + 1)) hA hFa.2.1 rfl) (AB.get (A := π (b + 3)) hA hFb.2.2 rfl) (by omega)) hK.2.2.2.1.1 rfl rfl (Nat.le_of_ble_eq_true rfl) (by decide) ⟨Nat.le_refl _, Nat.le_refl _⟩ (fun μ1 hμ1 => ?_)
  obtain ⟨π1, hc1, he1, ho1⟩ := Chg.one (S := fun c => c = o + 1 ∨ c = o + 3 ∨ (κ < c ∧ c < κ + 17)) (R := PS.mul (π (a + 1)) (π (b + 3))) hA hK.2.2.2.1 (by first | omega | (dsimp only; omega)) hμ1
  have hA1 := hc1.1
  have hch1 := hch0.trans hc1
  have v1_0 : π1 (a + 1) = π (a + 1) := (ho1 (a + 1) (by omega)).trans rfl
  have v1_1 : π1 (a + 3) = π (a + 3) := (ho1 (a + 3) (by omega)).trans rfl
  have v1_2 : π1 (b + 1) = π (b + 1) := (ho1 (b + 1) (by omega)).trans rfl
  have v1_3 : π1 (b + 3) = π (b + 3) := (ho1 (b + 3) (by omega)).trans rfl
  refine v_aload hx DX3_sum_15 0 rfl ?_
  refine v_get hx DX3_sum_16 FLRX3_36 hK.1 (v := .ref (κ + 15)) rfl ?_
  refine v_aload hx DX3_sum_19 3 rfl ?_
  refine v_get hx DX3_sum_20 FLRX3_86 hFb.1 (v := .ref (b + 1)) rfl ?_
  refine v_aload hx DX3_sum_23 2 rfl ?_
  refine v_get hx DX3_sum_24 FLRX3_91 hFa.1 (v := .ref (a + 3)) rfl ?_
  refine v_cVv hx DX3_sum_27 CVRX3_79 [.ref (b + 1), .ref (a + 3)] (s_product l G Λ sz μ1 hK.2.2.2.2.2 hFb.2.1 hFa.2.2 (by omega) (by omega) (AB.get (A := π1 (κ + 15)) hA1 hK.2.2.2.2.2 rfl) (AB.get (A := π (b + 1)) hA1 hFb.2.1 v1_2) (AB.get (A := π (a + 3)) hA1 hFa.2.2 v1_1) (by omega)) hK.2.2.2.2.2.1 rfl rfl (Nat.le_of_ble_eq_true rfl) (by decide) ⟨Nat.le_refl _, Nat.le_refl _⟩ (fun μ2 hμ2 => ?_)
  obtain ⟨π2, hc2, he2, ho2⟩ := Chg.one (S := fun c => c = o + 1 ∨ c = o + 3 ∨ (κ < c ∧ c < κ + 17)) (R := PS.mul (π (b + 1)) (π (a + 3))) hA1 hK.2.2.2.2.2 (by first | omega | (dsimp only; omega)) hμ2
  have hA2 := hc2.1
  have hch2 := hch1.trans hc2
  have v2_0 : π2 (a + 1) = π (a + 1) := (ho2 (a + 1) (by omega)).trans v1_0
  have v2_1 : π2 (a + 3) = π (a + 3) := (ho2 (a + 3) (by omega)).trans v1_1
  have v2_2 : π2 (b + 1) = π (b + 1) := (ho2 (b + 1) (by omega)).trans v1_2
  have v2_3 : π2 (b + 3) = π (b + 3) := (ho2 (b + 3) (by omega)).trans v1_3
  have v2_4 : π2 (κ + 11) = PS.mul (π (a + 1)) (π (b + 3)) := (ho2 (κ + 11) (by omega)).trans he1
  refine v_aload hx DX3_sum_30 0 rfl ?_
  refine v_get hx DX3_sum_31 FLRX3_30 hK.1 (v := .ref (κ + 11)) rfl ?_
  refine v_aload hx DX3_sum_34 0 rfl ?_
  refine v_get hx DX3_sum_35 FLRX3_36 hK.1 (v := .ref (κ + 15)) rfl ?_
  refine v_iload hx DX3_sum_38 4 rfl ?_
  refine v_push hx DX3_sum_40 ?_
  refine v_cVv hx DX3_sum_41 CVRX3_75 [.ref (κ + 15), iv f, iv 0] (s_addMultiple l G Λ sz μ2 hK.2.2.2.1 hK.2.2.2.2.2 (by omega) (AB.get (A := PS.mul (π (a + 1)) (π (b + 3))) hA2 hK.2.2.2.1 v2_4) (AB.get (A := PS.mul (π (b + 1)) (π (a + 3))) hA2 hK.2.2.2.2.2 he2) (by omega) (by omega) (by have := PS.size_le (PS.lt_mul' (N := 48) (PS.lt_size (hA (b + 1) hFb.2.1).1.1) (PS.lt_size (hA (a + 3) hFa.2.2).1.1) (by omega)); omega)) hK.2.2.2.1.1 rfl rfl (Nat.le_of_ble_eq_true rfl) (by decide) ⟨Nat.le_refl _, Nat.le_refl _⟩ (fun μ3 hμ3 => ?_)
  obtain ⟨π3, hc3, he3, ho3⟩ := Chg.one (S := fun c => c = o + 1 ∨ c = o + 3 ∨ (κ < c ∧ c < κ + 17)) (R := PS.am (PS.mul (π (a + 1)) (π (b + 3))) (PS.mul (π (b + 1)) (π (a + 3))) (fi f) (Int.toNat 0)) hA2 hK.2.2.2.1 (by first | omega | (dsimp only; omega)) hμ3
  have hA3 := hc3.1
  have hch3 := hch2.trans hc3
  have v3_0 : π3 (a + 1) = π (a + 1) := (ho3 (a + 1) (by omega)).trans v2_0
  have v3_1 : π3 (a + 3) = π (a + 3) := (ho3 (a + 3) (by omega)).trans v2_1
  have v3_2 : π3 (b + 1) = π (b + 1) := (ho3 (b + 1) (by omega)).trans v2_2
  have v3_3 : π3 (b + 3) = π (b + 3) := (ho3 (b + 3) (by omega)).trans v2_3
  have v3_5 : π3 (κ + 15) = PS.mul (π (b + 1)) (π (a + 3)) := (ho3 (κ + 15) (by omega)).trans he2
  refine v_aload hx DX3_sum_44 0 rfl ?_
  refine v_get hx DX3_sum_45 FLRX3_33 hK.1 (v := .ref (κ + 13)) rfl ?_
  refine v_aload hx DX3_sum_48 2 rfl ?_
  refine v_get hx DX3_sum_49 FLRX3_91 hFa.1 (v := .ref (a + 3)) rfl ?_
  refine v_aload hx DX3_sum_52 3 rfl ?_
  refine v_get hx DX3_sum_53 FLRX3_91 hFb.1 (v := .ref (b + 3)) rfl ?_
  refine v_cVv hx DX3_sum_56 CVRX3_79 [.ref (a + 3), .ref (b + 3)] (s_product l G Λ sz μ3 hK.2.2.2.2.1 hFa.2.2 hFb.2.2 (by omega) (by omega) (AB.get (A := π3 (κ + 13)) hA3 hK.2.2.2.2.1 rfl) (AB.get (A := π (a + 3)) hA3 hFa.2.2 v3_1) (AB.get (A := π (b + 3)) hA3 hFb.2.2 v3_3) (by omega)) hK.2.2.2.2.1.1 rfl rfl (Nat.le_of_ble_eq_true rfl) (by decide) ⟨Nat.le_refl _, Nat.le_refl _⟩ (fun μ4 hμ4 => ?_)
  obtain ⟨π4, hc4, he4, ho4⟩ := Chg.one (S := fun c => c = o + 1 ∨ c = o + 3 ∨ (κ < c ∧ c < κ + 17)) (R := PS.mul (π (a + 3)) (π (b + 3))) hA3 hK.2.2.2.2.1 (by first | omega | (dsimp only; omega)) hμ4
  have hA4 := hc4.1
  have hch4 := hch3.trans hc4
  have v4_0 : π4 (a + 1) = π (a + 1) := (ho4 (a + 1) (by omega)).trans v3_0
  have v4_1 : π4 (a + 3) = π (a + 3) := (ho4 (a + 3) (by omega)).trans v3_1
  have v4_2 : π4 (b + 1) = π (b + 1) := (ho4 (b + 1) (by omega)).trans v3_2
  have v4_3 : π4 (b + 3) = π (b + 3) := (ho4 (b + 3) (by omega)).trans v3_3
  have v4_4 : π4 (κ + 15) = PS.mul (π (b + 1)) (π (a + 3)) := (ho4 (κ + 15) (by omega)).trans v3_5
  have v4_5 : π4 (κ + 11) = PS.am (PS.mul (π (a + 1)) (π (b + 3))) (PS.mul (π (b + 1)) (π (a + 3))) (fi f) (Int.toNat 0) := (ho4 (κ + 11) (by omega)).trans he3
  refine v_aload hx DX3_sum_59 1 rfl ?_
  refine v_aload hx DX3_sum_60 0 rfl ?_
  refine v_get hx DX3_sum_61 FLRX3_30 hK.1 (v := .ref (κ + 11)) rfl ?_
  refine v_aload hx DX3_sum_64 0 rfl ?_
  refine v_get hx DX3_sum_65 FLRX3_33 hK.1 (v := .ref (κ + 13)) rfl ?_
  refine v_cVv hx DX3_sum_68 CVRX3_101 [.ref (κ + 11), .ref (κ + 13)] (q_ftake l G Λ sz μ4 hA4 hO hK.2.2.2.1 hK.2.2.2.2.1 (by omega) (by omega) (by omega) (by omega)) hO.1 rfl rfl (Nat.le_of_ble_eq_true rfl) (by decide) ⟨Nat.le_refl _, Nat.le_refl _⟩ (fun μ5 hμ5 => ?_)
  obtain ⟨π5, hc5, he5_0, he5_1⟩ := hμ5
  have hA5 := hc5.1
  have hch5 := hch4.trans (hc5.mono (fun c hc => by first | omega | (dsimp only at hc ⊢; omega)))
  have v5_4 : π5 (κ + 15) = PS.mul (π (b + 1)) (π (a + 3)) := (hc5.2.1 (κ + 15) (by first | omega | (dsimp only; omega))).trans v4_4
  have v5_5 : π5 (κ + 11) = PS.am (PS.mul (π (a + 1)) (π (b + 3))) (PS.mul (π (b + 1)) (π (a + 3))) (fi f) (Int.toNat 0) := (hc5.2.1 (κ + 11) (by first | omega | (dsimp only; omega))).trans v4_5
  have v5_6 : π5 (κ + 13) = PS.mul (π (a + 3)) (π (b + 3)) := (hc5.2.1 (κ + 13) (by first | omega | (dsimp only; omega))).trans he4
  have g5_0 : π5 (o + 1) = PS.am (PS.mul (π (a + 1)) (π (b + 3))) (PS.mul (π (b + 1)) (π (a + 3))) (fi f) 0 := he5_0.trans v4_5
  have g5_1 : π5 (o + 3) = PS.mul (π (a + 3)) (π (b + 3)) := he5_1.trans he4
  refine v_aload hx DX3_sum_71 0 rfl ?_
  refine v_aload hx DX3_sum_72 1 rfl ?_
  refine v_cVv hx DX3_sum_73 CVRX3_104 [.ref o] (q_reduce l G Λ sz μ5 hA5 hI hK hO (by omega) (by rw [g5_1]; exact hY)) hK.1 rfl rfl (Nat.le_of_ble_eq_true rfl) (by decide) ⟨Nat.le_refl _, Nat.le_refl _⟩ (fun μ6 hμ6 => ?_)
  obtain ⟨π6, hc6, he6_0, he6_1⟩ := hμ6
  have hA6 := hc6.1
  have hch6 := hch5.trans (hc6.mono (fun c hc => by first | omega | (dsimp only at hc ⊢; omega)))
  have g6_0 : π6 (o + 1) = rdN (PS.am (PS.mul (π (a + 1)) (π (b + 3))) (PS.mul (π (b + 1)) (π (a + 3))) (fi f) 0) (PS.mul (π (a + 3)) (π (b + 3))) := he6_0.trans (by rw [g5_0, g5_1])
  have g6_1 : π6 (o + 3) = rdD (PS.am (PS.mul (π (a + 1)) (π (b + 3))) (PS.mul (π (b + 1)) (π (a + 3))) (fi f) 0) (PS.mul (π (a + 3)) (π (b + 3))) := he6_1.trans (by rw [g5_0, g5_1])
  exact v_rv hx hB DX3_sum_76 (⟨π6, hch6, g6_0, g6_1⟩)
theorem q_times (l : Launch) (G : Gl) (Λ : Lay) (sz : Nat) (μ : Mem) {π : Nat → PS} {κ o a b : Nat} (hA : AB Λ μ π) (hI : INV G Λ) (hK : kitK Λ κ) (hO : fracK Λ o) (hFa : fracK Λ a) (hFb : fracK Λ b) (oo : o + 4 < κ ∨ κ + 16 < o) (oa : a + 4 < κ ∨ κ + 16 < a) (ob : b + 4 < κ ∨ κ + 16 < b) (doa : o = a ∨ o + 4 < a ∨ a + 4 < o) (dob : o = b ∨ o + 4 < b ∨ b + 4 < o) (h1 : (π (a + 1)).size + (π (b + 1)).size ≤ 49) (h3 : (π (a + 3)).size + (π (b + 3)).size ≤ 49) (hY : PS.mul (π (a + 3)) (π (b + 3)) ≠ PS.zero) : Sp l G yX3_times cX3_times 4 none 4 [.ref κ, .ref o, .ref a, .ref b] Λ sz μ (pV (fun μ' => ∃ π', Chg Λ (fun c => c = o + 1 ∨ c = o + 3 ∨ (κ < c ∧ c < κ + 17)) μ μ' π π' ∧ π' (o + 1) = rdN (PS.mul (π (a + 1)) (π (b + 1))) (PS.mul (π (a + 3)) (π (b + 3))) ∧ π' (o + 3) = rdD (PS.mul (π (a + 1)) (π (b + 1))) (PS.mul (π (a + 3)) (π (b + 3))))) := by
  refine Sp.intro (by decide) (Nat.le_of_ble_eq_true rfl) (fun x hx hB => ?_)
  refine v_lv [(0, .ref κ), (1, .ref o), (2, .ref a), (3, .ref b)] rfl ?_
  have hch0 : Chg Λ (fun c => c = o + 1 ∨ c = o + 3 ∨ (κ < c ∧ c < κ + 17)) μ μ π π := Chg.rf hA
  refine v_aload hx DX3_times_0 0 rfl ?_
  refine v_get hx DX3_times_1 FLRX3_30 hK.1 (v := .ref (κ + 11)) rfl ?_
  refine v_aload hx DX3_times_4 2 rfl ?_
  refine v_get hx DX3_times_5 FLRX3_86 hFa.1 (v := .ref (a + 1)) rfl ?_
  refine v_aload hx DX3_times_8 3 rfl ?_
  refine v_get hx DX3_times_9 FLRX3_86 hFb.1 (v := .ref (b + 1)) rfl ?_
  refine v_cVv hx DX3_times_12 CVRX3_79 [.ref (a + 1), .ref (b + 1)] (s_product l G Λ sz μ hK.2.2.2.1 hFa.2.1 hFb.2.1 (by omega) (by omega) (AB.get (A := π (κ + 11)) hA hK.2.2.2.1 rfl) (AB.get (A := π (a + 1)) hA hFa.2.1 rfl) (AB.get (A := π (b + 1)) hA hFb.2.1 rfl) (by omega)) hK.2.2.2.1.1 rfl rfl (Nat.le_of_ble_eq_true rfl) (by decide) ⟨Nat.le_refl _, Nat.le_refl _⟩ (fun μ1 hμ1 => ?_)
  obtain ⟨π1, hc1, he1, ho1⟩ := Chg.one (S := fun c => c = o + 1 ∨ c = o + 3 ∨ (κ < c ∧ c < κ + 17)) (R := PS.mul (π (a + 1)) (π (b + 1))) hA hK.2.2.2.1 (by first | omega | (dsimp only; omega)) hμ1
  have hA1 := hc1.1
  have hch1 := hch0.trans hc1
  have v1_0 : π1 (a + 1) = π (a + 1) := (ho1 (a + 1) (by omega)).trans rfl
  have v1_1 : π1 (a + 3) = π (a + 3) := (ho1 (a + 3) (by omega)).trans rfl
  have v1_2 : π1 (b + 1) = π (b + 1) := (ho1 (b + 1) (by omega)).trans rfl
  have v1_3 : π1 (b + 3) = π (b + 3) := (ho1 (b + 3) (by omega)).trans rfl
  refine v_aload hx DX3_times_15 0 rfl ?_
  refine v_get hx DX3_times_16 FLRX3_33 hK.1 (v := .ref (κ + 13)) rfl ?_
  refine v_aload hx DX3_times_19 2 rfl ?_
  refine v_get hx DX3_times_20 FLRX3_91 hFa.1 (v := .ref (a + 3)) rfl ?_
  refine v_aload hx DX3_times_23 3 rfl ?_
  refine v_get hx DX3_times_24 FLRX3_91 hFb.1 (v := .ref (b + 3)) rfl ?_
  refine v_cVv hx DX3_times_27 CVRX3_79 [.ref (a + 3), .ref (b + 3)] (s_product l G Λ sz μ1 hK.2.2.2.2.1 hFa.2.2 hFb.2.2 (by omega) (by omega) (AB.get (A := π1 (κ + 13)) hA1 hK.2.2.2.2.1 rfl) (AB.get (A := π (a + 3)) hA1 hFa.2.2 v1_1) (AB.get (A := π (b + 3)) hA1 hFb.2.2 v1_3) (by omega)) hK.2.2.2.2.1.1 rfl rfl (Nat.le_of_ble_eq_true rfl) (by decide) ⟨Nat.le_refl _, Nat.le_refl _⟩ (fun μ2 hμ2 => ?_)
  obtain ⟨π2, hc2, he2, ho2⟩ := Chg.one (S := fun c => c = o + 1 ∨ c = o + 3 ∨ (κ < c ∧ c < κ + 17)) (R := PS.mul (π (a + 3)) (π (b + 3))) hA1 hK.2.2.2.2.1 (by first | omega | (dsimp only; omega)) hμ2
  have hA2 := hc2.1
  have hch2 := hch1.trans hc2
  have v2_0 : π2 (a + 1) = π (a + 1) := (ho2 (a + 1) (by omega)).trans v1_0
  have v2_1 : π2 (a + 3) = π (a + 3) := (ho2 (a + 3) (by omega)).trans v1_1
  have v2_2 : π2 (b + 1) = π (b + 1) := (ho2 (b + 1) (by omega)).trans v1_2
  have v2_3 : π2 (b + 3) = π (b + 3) := (ho2 (b + 3) (by omega)).trans v1_3
  have v2_4 : π2 (κ + 11) = PS.mul (π (a + 1)) (π (b + 1)) := (ho2 (κ + 11) (by omega)).trans he1
  refine v_aload hx DX3_times_30 1 rfl ?_
  refine v_aload hx DX3_times_31 0 rfl ?_
  refine v_get hx DX3_times_32 FLRX3_30 hK.1 (v := .ref (κ + 11)) rfl ?_
  refine v_aload hx DX3_times_35 0 rfl ?_
  refine v_get hx DX3_times_36 FLRX3_33 hK.1 (v := .ref (κ + 13)) rfl ?_
  refine v_cVv hx DX3_times_39 CVRX3_101 [.ref (κ + 11), .ref (κ + 13)] (q_ftake l G Λ sz μ2 hA2 hO hK.2.2.2.1 hK.2.2.2.2.1 (by omega) (by omega) (by omega) (by omega)) hO.1 rfl rfl (Nat.le_of_ble_eq_true rfl) (by decide) ⟨Nat.le_refl _, Nat.le_refl _⟩ (fun μ3 hμ3 => ?_)
  obtain ⟨π3, hc3, he3_0, he3_1⟩ := hμ3
  have hA3 := hc3.1
  have hch3 := hch2.trans (hc3.mono (fun c hc => by first | omega | (dsimp only at hc ⊢; omega)))
  have v3_4 : π3 (κ + 11) = PS.mul (π (a + 1)) (π (b + 1)) := (hc3.2.1 (κ + 11) (by first | omega | (dsimp only; omega))).trans v2_4
  have v3_5 : π3 (κ + 13) = PS.mul (π (a + 3)) (π (b + 3)) := (hc3.2.1 (κ + 13) (by first | omega | (dsimp only; omega))).trans he2
  have g3_0 : π3 (o + 1) = PS.mul (π (a + 1)) (π (b + 1)) := he3_0.trans v2_4
  have g3_1 : π3 (o + 3) = PS.mul (π (a + 3)) (π (b + 3)) := he3_1.trans he2
  refine v_aload hx DX3_times_42 0 rfl ?_
  refine v_aload hx DX3_times_43 1 rfl ?_
  refine v_cVv hx DX3_times_44 CVRX3_104 [.ref o] (q_reduce l G Λ sz μ3 hA3 hI hK hO (by omega) (by rw [g3_1]; exact hY)) hK.1 rfl rfl (Nat.le_of_ble_eq_true rfl) (by decide) ⟨Nat.le_refl _, Nat.le_refl _⟩ (fun μ4 hμ4 => ?_)
  obtain ⟨π4, hc4, he4_0, he4_1⟩ := hμ4
  have hA4 := hc4.1
  have hch4 := hch3.trans (hc4.mono (fun c hc => by first | omega | (dsimp only at hc ⊢; omega)))
  have g4_0 : π4 (o + 1) = rdN (PS.mul (π (a + 1)) (π (b + 1))) (PS.mul (π (a + 3)) (π (b + 3))) := he4_0.trans (by rw [g3_0, g3_1])
  have g4_1 : π4 (o + 3) = rdD (PS.mul (π (a + 1)) (π (b + 1))) (PS.mul (π (a + 3)) (π (b + 3))) := he4_1.trans (by rw [g3_0, g3_1])
  exact v_rv hx hB DX3_times_47 (⟨π4, hch4, g4_0, g4_1⟩)
theorem q_over (l : Launch) (G : Gl) (Λ : Lay) (sz : Nat) (μ : Mem) {π : Nat → PS} {κ o a b : Nat} (hA : AB Λ μ π) (hI : INV G Λ) (hK : kitK Λ κ) (hO : fracK Λ o) (hFa : fracK Λ a) (hFb : fracK Λ b) (oo : o + 4 < κ ∨ κ + 16 < o) (oa : a + 4 < κ ∨ κ + 16 < a) (ob : b + 4 < κ ∨ κ + 16 < b) (doa : o = a ∨ o + 4 < a ∨ a + 4 < o) (dob : o = b ∨ o + 4 < b ∨ b + 4 < o) (h1 : (π (a + 1)).size + (π (b + 3)).size ≤ 49) (h3 : (π (a + 3)).size + (π (b + 1)).size ≤ 49) (hY : PS.mul (π (a + 3)) (π (b + 1)) ≠ PS.zero) : Sp l G yX3_over cX3_over 4 none 4 [.ref κ, .ref o, .ref a, .ref b] Λ sz μ (pV (fun μ' => ∃ π', Chg Λ (fun c => c = o + 1 ∨ c = o + 3 ∨ (κ < c ∧ c < κ + 17)) μ μ' π π' ∧ π' (o + 1) = rdN (PS.mul (π (a + 1)) (π (b + 3))) (PS.mul (π (a + 3)) (π (b + 1))) ∧ π' (o + 3) = rdD (PS.mul (π (a + 1)) (π (b + 3))) (PS.mul (π (a + 3)) (π (b + 1))))) := by
  refine Sp.intro (by decide) (Nat.le_of_ble_eq_true rfl) (fun x hx hB => ?_)
  refine v_lv [(0, .ref κ), (1, .ref o), (2, .ref a), (3, .ref b)] rfl ?_
  have hch0 : Chg Λ (fun c => c = o + 1 ∨ c = o + 3 ∨ (κ < c ∧ c < κ + 17)) μ μ π π := Chg.rf hA
  refine v_aload hx DX3_over_0 0 rfl ?_
  refine v_get hx DX3_over_1 FLRX3_30 hK.1 (v := .ref (κ + 11)) rfl ?_
  refine v_aload hx DX3_over_4 2 rfl ?_
  refine v_get hx DX3_over_5 FLRX3_86 hFa.1 (v := .ref (a + 1)) rfl ?_
  refine v_aload hx DX3_over_8 3 rfl ?_
  refine v_get hx DX3_over_9 FLRX3_91 hFb.1 (v := .ref (b + 3)) rfl ?_
  refine v_cVv hx DX3_over_12 CVRX3_79 [.ref (a + 1), .ref (b + 3)] (s_product l G Λ sz μ hK.2.2.2.1 hFa.2.1 hFb.2.2 (by omega) (by omega) (AB.get (A := π (κ + 11)) hA hK.2.2.2.1 rfl) (AB.get (A := π (a + 1)) hA hFa.2.1 rfl) (AB.get (A := π (b + 3)) hA hFb.2.2 rfl) (by omega)) hK.2.2.2.1.1 rfl rfl (Nat.le_of_ble_eq_true rfl) (by decide) ⟨Nat.le_refl _, Nat.le_refl _⟩ (fun μ1 hμ1 => ?_)
  obtain ⟨π1, hc1, he1, ho1⟩ := Chg.one (S := fun c => c = o + 1 ∨ c = o + 3 ∨ (κ < c ∧ c < κ + 17)) (R := PS.mul (π (a + 1)) (π (b + 3))) hA hK.2.2.2.1 (by first | omega | (dsimp only; omega)) hμ1
  have hA1 := hc1.1
  have hch1 := hch0.trans hc1
  have v1_0 : π1 (a + 1) = π (a + 1) := (ho1 (a + 1) (by omega)).trans rfl
  have v1_1 : π1 (a + 3) = π (a + 3) := (ho1 (a + 3) (by omega)).trans rfl
  have v1_2 : π1 (b + 1) = π (b + 1) := (ho1 (b + 1) (by omega)).trans rfl
  have v1_3 : π1 (b + 3) = π (b + 3) := (ho1 (b + 3) (by omega)).trans rfl
  refine v_aload hx DX3_over_15 0 rfl ?_
  refine v_get hx DX3_over_16 FLRX3_33 hK.1 (v := .ref (κ + 13)) rfl ?_
  refine v_aload hx DX3_over_19 2 rfl ?_
  refine v_get hx DX3_over_20 FLRX3_91 hFa.1 (v := .ref (a + 3)) rfl ?_
  refine v_aload hx DX3_over_23 3 rfl ?_
  refine v_get hx DX3_over_24 FLRX3_86 hFb.1 (v := .ref (b + 1)) rfl ?_
  refine v_cVv hx DX3_over_27 CVRX3_79 [.ref (a + 3), .ref (b + 1)] (s_product l G Λ sz μ1 hK.2.2.2.2.1 hFa.2.2 hFb.2.1 (by omega) (by omega) (AB.get (A := π1 (κ + 13)) hA1 hK.2.2.2.2.1 rfl) (AB.get (A := π (a + 3)) hA1 hFa.2.2 v1_1) (AB.get (A := π (b + 1)) hA1 hFb.2.1 v1_2) (by omega)) hK.2.2.2.2.1.1 rfl rfl (Nat.le_of_ble_eq_true rfl) (by decide) ⟨Nat.le_refl _, Nat.le_refl _⟩ (fun μ2 hμ2 => ?_)
  obtain ⟨π2, hc2, he2, ho2⟩ := Chg.one (S := fun c => c = o + 1 ∨ c = o + 3 ∨ (κ < c ∧ c < κ + 17)) (R := PS.mul (π (a + 3)) (π (b + 1))) hA1 hK.2.2.2.2.1 (by first | omega | (dsimp only; omega)) hμ2
  have hA2 := hc2.1
  have hch2 := hch1.trans hc2
  have v2_0 : π2 (a + 1) = π (a + 1) := (ho2 (a + 1) (by omega)).trans v1_0
  have v2_1 : π2 (a + 3) = π (a + 3) := (ho2 (a + 3) (by omega)).trans v1_1
  have v2_2 : π2 (b + 1) = π (b + 1) := (ho2 (b + 1) (by omega)).trans v1_2
  have v2_3 : π2 (b + 3) = π (b + 3) := (ho2 (b + 3) (by omega)).trans v1_3
  have v2_4 : π2 (κ + 11) = PS.mul (π (a + 1)) (π (b + 3)) := (ho2 (κ + 11) (by omega)).trans he1
  refine v_aload hx DX3_over_30 1 rfl ?_
  refine v_aload hx DX3_over_31 0 rfl ?_
  refine v_get hx DX3_over_32 FLRX3_30 hK.1 (v := .ref (κ + 11)) rfl ?_
  refine v_aload hx DX3_over_35 0 rfl ?_
  refine v_get hx DX3_over_36 FLRX3_33 hK.1 (v := .ref (κ + 13)) rfl ?_
  refine v_cVv hx DX3_over_39 CVRX3_101 [.ref (κ + 11), .ref (κ + 13)] (q_ftake l G Λ sz μ2 hA2 hO hK.2.2.2.1 hK.2.2.2.2.1 (by omega) (by omega) (by omega) (by omega)) hO.1 rfl rfl (Nat.le_of_ble_eq_true rfl) (by decide) ⟨Nat.le_refl _, Nat.le_refl _⟩ (fun μ3 hμ3 => ?_)
  obtain ⟨π3, hc3, he3_0, he3_1⟩ := hμ3
  have hA3 := hc3.1
  have hch3 := hch2.trans (hc3.mono (fun c hc => by first | omega | (dsimp only at hc ⊢; omega)))
  have v3_4 : π3 (κ + 11) = PS.mul (π (a + 1)) (π (b + 3)) := (hc3.2.1 (κ + 11) (by first | omega | (dsimp only; omega))).trans v2_4
  have v3_5 : π3 (κ + 13) = PS.mul (π (a + 3)) (π (b + 1)) := (hc3.2.1 (κ + 13) (by first | omega | (dsimp only; omega))).trans he2
  have g3_0 : π3 (o + 1) = PS.mul (π (a + 1)) (π (b + 3)) := he3_0.trans v2_4
  have g3_1 : π3 (o + 3) = PS.mul (π (a + 3)) (π (b + 1)) := he3_1.trans he2
  refine v_aload hx DX3_over_42 0 rfl ?_
  refine v_aload hx DX3_over_43 1 rfl ?_
  refine v_cVv hx DX3_over_44 CVRX3_104 [.ref o] (q_reduce l G Λ sz μ3 hA3 hI hK hO (by omega) (by rw [g3_1]; exact hY)) hK.1 rfl rfl (Nat.le_of_ble_eq_true rfl) (by decide) ⟨Nat.le_refl _, Nat.le_refl _⟩ (fun μ4 hμ4 => ?_)
  obtain ⟨π4, hc4, he4_0, he4_1⟩ := hμ4
  have hA4 := hc4.1
  have hch4 := hch3.trans (hc4.mono (fun c hc => by first | omega | (dsimp only at hc ⊢; omega)))
  have g4_0 : π4 (o + 1) = rdN (PS.mul (π (a + 1)) (π (b + 3))) (PS.mul (π (a + 3)) (π (b + 1))) := he4_0.trans (by rw [g3_0, g3_1])
  have g4_1 : π4 (o + 3) = rdD (PS.mul (π (a + 1)) (π (b + 3))) (PS.mul (π (a + 3)) (π (b + 1))) := he4_1.trans (by rw [g3_0, g3_1])
  exact v_rv hx hB DX3_over_47 (⟨π4, hch4, g4_0, g4_1⟩)
theorem q_ratio (l : Launch) (G : Gl) (Λ : Lay) (sz : Nat) (μ : Mem) {κ a b : Nat} {p q : PS} (hI : INV G Λ) (hK : kitK Λ κ) (hka : polyK Λ a) (hkb : polyK Λ b) (hp : PA μ a p) (hq : PA μ b q) : Sp l G yX3_ratio cX3_ratio 5 (some FieldType.int) 1 [.ref κ, .ref a, .ref b] Λ sz μ (pP μ (ratI p q)) := by
  refine Sp.intro (by decide) (Nat.le_of_ble_eq_true rfl) (fun x hx hB => ?_)
  refine v_lv [(0, .ref κ), (1, .ref a), (2, .ref b)] rfl ?_
  have sp := hp.le
  have sq := hq.le
  have hi := ivI_rng (hdI q)
  have hc := ca_rng p ((q.size : Int) - 1)
  have hci := mulb hc.1 hc.2 hi.1 hi.2
  obtain ⟨e, he⟩ : ∃ y, y = ca p ((q.size : Int) - 1) * ivI (hdI q) % 101 := ⟨_, rfl⟩
  have L33 : ∀ (nf : Nat) (k : Int), (k + 1 < (nf : Int)) → (-1 ≤ k ∧ k < 48) → (∀ j : Nat, k < (j : Int) → p j = (q.sm (fi e)) j) → V G x (0, 0) Λ sz μ 33 [(4, iv k), (3, iv e), (0, .ref κ), (1, .ref a), (2, .ref b)] [] := by
    intro nf
    induction nf with
    | zero => intro k hm hk hz; exact absurd hm (by omega)
    | succ nf ih =>
      intro k hm hk hz
      refine v_iload hx DX3_ratio_33 0 rfl ?_
      refine v_if_lt hx DX3_ratio_35 (by omega) (fun c35 => ?_) (fun c35 => ?_)
      · skip
        refine v_iload hx DX3_ratio_66 1 rfl ?_
        exact v_ri hx hB DX3_ratio_67 (⟨rfl, by unfold ratI; rw [if_pos (by rw [← he]; exact PS.ext fun j => hz j (by omega)), ← he]⟩)
      · skip
        refine v_aload hx DX3_ratio_38 3 rfl ?_
        refine v_iload hx DX3_ratio_39 0 rfl ?_
        refine v_cVp hx DX3_ratio_41 CVRX3_72 [iv k] (s_at l G Λ sz μ hka hp (by omega)) hka.1 rfl rfl (Nat.le_of_ble_eq_true rfl) (by decide) ⟨Nat.le_refl _, Nat.le_refl _⟩ ?_
        have hcp := ca_rng p k
        have hcq := ca_rng q k
        have hec := mulb (a := e) (A := 100) (by omega) (by omega) hcq.1 hcq.2
        refine v_iload hx DX3_ratio_44 1 rfl ?_
        refine v_aload hx DX3_ratio_45 4 rfl ?_
        refine v_iload hx DX3_ratio_46 0 rfl ?_
        refine v_cVp hx DX3_ratio_48 CVRX3_72 [iv k] (s_at l G Λ sz μ hkb hq (by omega)) hkb.1 rfl rfl (Nat.le_of_ble_eq_true rfl) (by decide) ⟨Nat.le_refl _, Nat.le_refl _⟩ ?_
        refine v_imul hx DX3_ratio_51 ?_
        refine v_push hx DX3_ratio_52 ?_
        refine v_irem hx (by omega) (by decide) DX3_ratio_54 ?_
        refine v_icmp_eq hx DX3_ratio_55 (by omega) (by omega) (fun c55 => ?_) (fun c55 => ?_)
        · skip
          have hjk : p k.toNat = (q.sm (fi e)) k.toNat := by
            rw [ca_of (by omega), ca_of (by omega)] at c55
            have h := congrArg fi c55
            rw [fi_cf, fi_mod, fi_mul, fi_cf] at h
            exact h
          refine v_iinc hx DX3_ratio_60 0 rfl [(4, iv (k + (-1))), (3, iv e), (0, .ref κ), (1, .ref a), (2, .ref b)] rfl (by decide) ?_
          refine v_goto hx DX3_ratio_63 ?_
          exact v_sub [0, 1, 2, 3, 4] _ rfl (ih (k + (-1)) (by omega) (by omega) (fun j hj => (Int.lt_or_le k j).elim (hz j) (fun hq2 => (show k.toNat = j by omega) ▸ hjk)))
        · skip
          have e0 : (-1 : Int) = ratI p q := by
            unfold ratI
            rw [if_neg (fun h => c55 (by rw [ca_of (by omega), ca_of (by omega)]; exact (congrArg (fun r : PS => cf r k) (he ▸ h)).trans (cf_mod (by rw [fi_mul, fi_cf]; rfl)).symm))]
          refine v_push hx DX3_ratio_58 ?_
          exact v_ri hx hB DX3_ratio_59 (⟨rfl, e0⟩)
  refine v_aload hx DX3_ratio_0 1 rfl ?_
  refine v_aload hx DX3_ratio_1 2 rfl ?_
  refine v_get hx DX3_ratio_2 FLRX3_43 hkb.1 (fv_i rfl hq.2 : _ = iv ((q.size : Int) - 1)) ?_
  refine v_cVp hx DX3_ratio_5 CVRX3_72 [iv ((q.size : Int) - 1)] (s_at l G Λ sz μ hka hp (by omega)) hka.1 rfl rfl (Nat.le_of_ble_eq_true rfl) (by decide) ⟨Nat.le_refl _, Nat.le_refl _⟩ ?_
  refine v_aload hx DX3_ratio_8 2 rfl ?_
  refine v_cVp hx DX3_ratio_9 CVRX3_50 [] (s_head l G Λ sz μ hkb hq) hkb.1 rfl rfl (Nat.le_of_ble_eq_true rfl) (by decide) ⟨Nat.le_refl _, Nat.le_refl _⟩ ?_
  refine v_cNp hx DX3_ratio_12 CSRX3_54 [iv (hdI q)] (s_inverse l G Λ sz μ hI (hdI_rng q)) rfl rfl (Nat.le_of_ble_eq_true rfl) (by decide) ⟨Nat.le_refl _, Nat.le_refl _⟩ ?_
  refine v_imul hx DX3_ratio_15 ?_
  refine v_push hx DX3_ratio_16 ?_
  refine v_irem hx (by omega) (by decide) DX3_ratio_18 ?_
  refine v_top he.symm ?_
  refine v_istore hx DX3_ratio_19 [(3, iv e), (0, .ref κ), (1, .ref a), (2, .ref b)] rfl (by decide) ?_
  refine v_aload hx DX3_ratio_20 2 rfl ?_
  refine v_get hx DX3_ratio_21 FLRX3_43 hka.1 (fv_i rfl hp.2 : _ = iv ((p.size : Int) - 1)) ?_
  refine v_aload hx DX3_ratio_24 3 rfl ?_
  refine v_get hx DX3_ratio_25 FLRX3_43 hkb.1 (fv_i rfl hq.2 : _ = iv ((q.size : Int) - 1)) ?_
  refine v_cSp hx DX3_ratio_28 CSRX3_108 [iv ((p.size : Int) - 1), iv ((q.size : Int) - 1)] (s_max l G Λ sz μ (by omega) (by omega)) rfl rfl (Nat.le_of_ble_eq_true rfl) (by decide) ⟨Nat.le_refl _, Nat.le_refl _⟩ ?_
  refine v_istore hx DX3_ratio_31 [(4, iv (max ((p.size : Int) - 1) ((q.size : Int) - 1))), (3, iv e), (0, .ref κ), (1, .ref a), (2, .ref b)] rfl (by decide) ?_
  exact v_sub [0, 1, 2, 3, 4] _ rfl (L33 100 (max ((p.size : Int) - 1) ((q.size : Int) - 1)) (by omega) (by omega) (fun j hj => by rw [PS.lt_size hp.1.1 j (by omega), PS.lt_sm _ (PS.lt_size hq.1.1) j (by omega)]))
