theorem q_fset (l : Launch) (G : Gl) (Λ : Lay) (sz : Nat) (μ : Mem) {π : Nat → PS} {f : Nat} {v : Int} (hA : AB Λ μ π) (hF : fracK Λ f) (hv : 0 ≤ v ∧ v ≤ 2147483647) : Sp l G yX1_setNumber cX1_setNumber 2 none 2 [.ref f, iv v] Λ sz μ (pV (fun μ' => ∃ π', Chg Λ (fun c => c = f + 1 ∨ c = f + 3) μ μ' π π' ∧ π' (f + 1) = PS.C (fi v) ∧ π' (f + 3) = PS.one)) := by
  refine Sp.intro (by decide) (Nat.le_of_ble_eq_true rfl) (fun x hx hB => ?_)
  refine v_lv [(0, .ref f), (1, iv v)] rfl ?_
  have hch0 : Chg Λ (fun c => c = f + 1 ∨ c = f + 3) μ μ π π := Chg.rf hA
  refine v_aload hx DX1_setNumber_0 0 rfl ?_
  refine v_get hx DX1_setNumber_1 FLRX1_12 hF.1 (v := .ref (f + 1)) rfl ?_
  refine v_iload hx DX1_setNumber_4 1 rfl ?_
  refine v_cVv hx DX1_setNumber_5 CVRX1_29 [iv v] (s_setNumber l G Λ sz μ hF.2.1 (AB.get (A := π (f + 1)) hA hF.2.1 rfl) (by omega)) hF.2.1.1 rfl rfl (Nat.le_of_ble_eq_true rfl) (by decide) ⟨Nat.le_refl _, Nat.le_refl _⟩ (fun μ1 hμ1 => ?_)
  obtain ⟨π1, hc1, he1, ho1⟩ := Chg.one (S := fun c => c = f + 1 ∨ c = f + 3) (R := PS.C (fi v)) hA hF.2.1 (by first | omega | (dsimp only; omega)) hμ1
  have hA1 := hc1.1
  have hch1 := hch0.trans hc1
  refine v_aload hx DX1_setNumber_8 0 rfl ?_
  refine v_get hx DX1_setNumber_9 FLRX1_18 hF.1 (v := .ref (f + 3)) rfl ?_
  refine v_push hx DX1_setNumber_12 ?_
  refine v_cVv hx DX1_setNumber_13 CVRX1_29 [iv 1] (s_setNumber l G Λ sz μ1 hF.2.2 (AB.get (A := π1 (f + 3)) hA1 hF.2.2 rfl) (by omega)) hF.2.2.1 rfl rfl (Nat.le_of_ble_eq_true rfl) (by decide) ⟨Nat.le_refl _, Nat.le_refl _⟩ (fun μ2 hμ2 => ?_)
  obtain ⟨π2, hc2, he2, ho2⟩ := Chg.one (S := fun c => c = f + 1 ∨ c = f + 3) (R := PS.C (fi 1)) hA1 hF.2.2 (by first | omega | (dsimp only; omega)) hμ2
  have hA2 := hc2.1
  have hch2 := hch1.trans hc2
  have v2_0 : π2 (f + 1) = PS.C (fi v) := (ho2 (f + 1) (by omega)).trans he1
  have w3 : π2 (f + 3) = PS.one := he2.trans PS.C1
  exact v_rv hx hB DX1_setNumber_16 (⟨π2, hch2, v2_0, w3⟩)
theorem q_ftake (l : Launch) (G : Gl) (Λ : Lay) (sz : Nat) (μ : Mem) {π : Nat → PS} {f a b : Nat} (hA : AB Λ μ π) (hF : fracK Λ f) (hka : polyK Λ a) (hkb : polyK Λ b) (h1 : a ≠ f + 1) (h2 : b ≠ f + 1) (h3 : b ≠ f + 3) (h4 : a ≠ f + 3) : Sp l G yX1_take cX1_take 3 none 2 [.ref f, .ref a, .ref b] Λ sz μ (pV (fun μ' => ∃ π', Chg Λ (fun c => c = f + 1 ∨ c = f + 3) μ μ' π π' ∧ π' (f + 1) = π a ∧ π' (f + 3) = π b)) := by
  refine Sp.intro (by decide) (Nat.le_of_ble_eq_true rfl) (fun x hx hB => ?_)
  refine v_lv [(0, .ref f), (1, .ref a), (2, .ref b)] rfl ?_
  have hch0 : Chg Λ (fun c => c = f + 1 ∨ c = f + 3) μ μ π π := Chg.rf hA
  refine v_aload hx DX1_take_0 0 rfl ?_
  refine v_get hx DX1_take_1 FLRX1_12 hF.1 (v := .ref (f + 1)) rfl ?_
  refine v_aload hx DX1_take_4 1 rfl ?_
  refine v_cVv hx DX1_take_5 CVRX1_37 [.ref a] (s_become l G Λ sz μ hF.2.1 hka (by omega) (AB.get (A := π (f + 1)) hA hF.2.1 rfl) (AB.get (A := π a) hA hka rfl)) hF.2.1.1 rfl rfl (Nat.le_of_ble_eq_true rfl) (by decide) ⟨Nat.le_refl _, Nat.le_refl _⟩ (fun μ1 hμ1 => ?_)
  obtain ⟨π1, hc1, he1, ho1⟩ := Chg.one (S := fun c => c = f + 1 ∨ c = f + 3) (R := π a) hA hF.2.1 (by first | omega | (dsimp only; omega)) hμ1
  have hA1 := hc1.1
  have hch1 := hch0.trans hc1
  have v1_0 : π1 a = π a := (ho1 a (by omega)).trans rfl
  have v1_1 : π1 b = π b := (ho1 b (by omega)).trans rfl
  refine v_aload hx DX1_take_8 0 rfl ?_
  refine v_get hx DX1_take_9 FLRX1_18 hF.1 (v := .ref (f + 3)) rfl ?_
  refine v_aload hx DX1_take_12 2 rfl ?_
  refine v_cVv hx DX1_take_13 CVRX1_37 [.ref b] (s_become l G Λ sz μ1 hF.2.2 hkb (by omega) (AB.get (A := π1 (f + 3)) hA1 hF.2.2 rfl) (AB.get (A := π b) hA1 hkb v1_1)) hF.2.2.1 rfl rfl (Nat.le_of_ble_eq_true rfl) (by decide) ⟨Nat.le_refl _, Nat.le_refl _⟩ (fun μ2 hμ2 => ?_)
  obtain ⟨π2, hc2, he2, ho2⟩ := Chg.one (S := fun c => c = f + 1 ∨ c = f + 3) (R := π b) hA1 hF.2.2 (by first | omega | (dsimp only; omega)) hμ2
  have hA2 := hc2.1
  have hch2 := hch1.trans hc2
  have v2_0 : π2 a = π a := (ho2 a (by omega)).trans v1_0
  have v2_1 : π2 b = π b := (ho2 b (by omega)).trans v1_1
  have v2_2 : π2 (f + 1) = π a := (ho2 (f + 1) (by omega)).trans he1
  exact v_rv hx hB DX1_take_16 (⟨π2, hch2, v2_2, he2⟩)
theorem q_fbecome (l : Launch) (G : Gl) (Λ : Lay) (sz : Nat) (μ : Mem) {π : Nat → PS} {f g : Nat} (hA : AB Λ μ π) (hF : fracK Λ f) (hG : fracK Λ g) (h1 : g + 4 < f ∨ f + 4 < g) : Sp l G yX1_become cX1_become 2 none 3 [.ref f, .ref g] Λ sz μ (pV (fun μ' => ∃ π', Chg Λ (fun c => c = f + 1 ∨ c = f + 3) μ μ' π π' ∧ π' (f + 1) = π (g + 1) ∧ π' (f + 3) = π (g + 3))) := by
  refine Sp.intro (by decide) (Nat.le_of_ble_eq_true rfl) (fun x hx hB => ?_)
  refine v_lv [(0, .ref f), (1, .ref g)] rfl ?_
  refine v_aload hx DX1_become_0 0 rfl ?_
  refine v_aload hx DX1_become_1 1 rfl ?_
  refine v_get hx DX1_become_2 FLRX1_12 hG.1 (v := .ref (g + 1)) rfl ?_
  refine v_aload hx DX1_become_5 1 rfl ?_
  refine v_get hx DX1_become_6 FLRX1_18 hG.1 (v := .ref (g + 3)) rfl ?_
  refine v_cVv hx DX1_become_9 CVRX1_33 [.ref (g + 1), .ref (g + 3)] (q_ftake l G Λ sz μ hA hF hG.2.1 hG.2.2 (by omega) (by omega) (by omega) (by omega)) hF.1 rfl rfl (Nat.le_of_ble_eq_true rfl) (by decide) ⟨Nat.le_refl _, Nat.le_refl _⟩ (fun μ1 hμ1 => ?_)
  exact v_rv hx hB DX1_become_12 hμ1
theorem q_isTerm (l : Launch) (G : Gl) (Λ : Lay) (sz : Nat) (μ : Mem) {f : Nat} {A B : PS} (hF : fracK Λ f) (h1 : PA μ (f + 1) A) (h2 : PA μ (f + 3) B) : Sp l G yX1_isTerm cX1_isTerm 1 (some FieldType.boolean) 0 [.ref f] Λ sz μ (pP μ (isT A B)) := by
  refine Sp.intro (by decide) (Nat.le_of_ble_eq_true rfl) (fun x hx hB => ?_)
  refine v_lv [(0, .ref f)] rfl ?_
  have ha := h1.le
  have hb := h2.le
  refine v_aload hx DX1_isTerm_0 0 rfl ?_
  refine v_get hx DX1_isTerm_1 FLRX1_12 hF.1 (v := .ref (f + 1)) rfl ?_
  refine v_get hx DX1_isTerm_4 FLRX1_25 hF.2.1.1 (fv_i rfl h1.2 : _ = iv ((A.size : Int) - 1)) ?_
  refine v_push hx DX1_isTerm_7 ?_
  refine v_icmp_gt hx DX1_isTerm_9 (by omega) (by decide) (fun c9 => ?_) (fun c9 => ?_)
  · skip
    have e0 : (0 : Int) = isT A B := by unfold isT; rw [if_neg (by omega)]
    refine v_push hx DX1_isTerm_27 ?_
    exact v_rz hx hB (by omega) DX1_isTerm_28 (⟨rfl, e0⟩)
  · skip
    refine v_aload hx DX1_isTerm_12 0 rfl ?_
    refine v_get hx DX1_isTerm_13 FLRX1_18 hF.1 (v := .ref (f + 3)) rfl ?_
    refine v_get hx DX1_isTerm_16 FLRX1_25 hF.2.2.1 (fv_i rfl h2.2 : _ = iv ((B.size : Int) - 1)) ?_
    refine v_push hx DX1_isTerm_19 ?_
    refine v_icmp_gt hx DX1_isTerm_20 (by omega) (by decide) (fun c20 => ?_) (fun c20 => ?_)
    · skip
      have e0 : (0 : Int) = isT A B := by unfold isT; rw [if_neg (by omega)]
      refine v_push hx DX1_isTerm_27 ?_
      exact v_rz hx hB (by omega) DX1_isTerm_28 (⟨rfl, e0⟩)
    · skip
      have e0 : (1 : Int) = isT A B := by unfold isT; rw [if_pos (by omega)]
      refine v_push hx DX1_isTerm_23 ?_
      refine v_goto hx DX1_isTerm_24 ?_
      exact v_rz hx hB (by omega) DX1_isTerm_28 (⟨rfl, e0⟩)
theorem q_divisor (l : Launch) (G : Gl) (Λ : Lay) (sz : Nat) (μ : Mem) {π : Nat → PS} {κ a b o : Nat} (hA : AB Λ μ π) (hI : INV G Λ) (hK : kitK Λ κ) (hka : polyK Λ a) (hkb : polyK Λ b) (hko : polyK Λ o) (oa : a ≠ κ + 1 ∧ a ≠ κ + 3) (ob : b ≠ κ + 1 ∧ b ≠ κ + 3) (oo : o ≠ κ + 1 ∧ o ≠ κ + 3) : Sp l G yX3_divisor cX3_divisor 8 none 2 [.ref κ, .ref a, .ref b, .ref o] Λ sz μ (pV (fun μ' => ∃ π', Chg Λ (fun c => c = o ∨ c = κ + 1 ∨ c = κ + 3) μ μ' π π' ∧ π' o = (π a).gcd (π b))) := by
  refine Sp.intro (by decide) (Nat.le_of_ble_eq_true rfl) (fun x hx hB => ?_)
  refine v_lv [(0, .ref κ), (1, .ref a), (2, .ref b), (3, .ref o)] rfl ?_
  have la := (hA a hka).1.1
  have lb := (hA b hkb).1.1
  have sb := PS.size_le lb
  have hch0 : Chg Λ (fun c => c = o ∨ c = κ + 1 ∨ c = κ + 3) μ μ π π := Chg.rf hA
  have L27 : ∀ (nf : Nat) (k : Int) (P R : Nat) (A B : PS) (m : Mem) (πk : Nat → PS), (49 - k < (nf : Int)) → (Chg Λ (fun c => c = o ∨ c = κ + 1 ∨ c = κ + 3) μ m π πk) → (πk P = A) → (πk R = B) → ((P = κ + 1 ∧ R = κ + 3) ∨ (P = κ + 3 ∧ R = κ + 1)) → (0 ≤ k ∧ B.size + k ≤ 48) → (A.lt 48 ∧ B.lt 48) → (PS.eu 200 (π a) (π b) = PS.eu 200 A B) → V G x (0, 0) Λ sz m 27 [(6, iv k), (4, .ref P), (5, .ref R), (0, .ref κ), (1, .ref a), (2, .ref b), (3, .ref o)] [] := by
    intro nf
    induction nf with
    | zero => intro k P R A B m πk hm hchπk vπk_0 vπk_1 hPR hk hl hE; exact absurd hm (by omega)
    | succ nf ih =>
      intro k P R A B m πk hm hchπk vπk_0 vπk_1 hPR hk hl hE
      have hAπk := hchπk.1
      have hkP : polyK Λ P := hPR.elim (fun h => by rw [h.1]; exact hK.2.1.1) (fun h => by rw [h.1]; exact hK.2.1.2.1)
      have hkR : polyK Λ R := hPR.elim (fun h => by rw [h.2]; exact hK.2.1.2.1) (fun h => by rw [h.2]; exact hK.2.1.1)
      have hsB := PS.size_le hl.2
      refine v_iload hx DX3_divisor_27 0 rfl ?_
      refine v_push hx DX3_divisor_29 ?_
      refine v_icmp_ge hx DX3_divisor_31 (by omega) (by decide) (fun c31 => ?_) (fun c31 => ?_)
      · exact absurd c31 (by omega)
      · skip
        refine v_aload hx DX3_divisor_34 2 rfl ?_
        refine v_get hx DX3_divisor_36 FLRX3_43 hkR.1 (fv_i rfl ((AB.get hAπk hkR vπk_1).2) : _ = iv ((B.size : Int) - 1)) ?_
        refine v_if_lt hx DX3_divisor_39 (by omega) (fun c39 => ?_) (fun c39 => ?_)
        · skip
          have hBz : B = PS.zero := (PS.size_eq_zero hl.2).mp (by omega)
          have hEA : PS.eu 200 (π a) (π b) = A := by rw [hE, hBz, PS.eu_zero]
          refine v_aload hx DX3_divisor_67 6 rfl ?_
          refine v_aload hx DX3_divisor_68 1 rfl ?_
          refine v_cVv hx DX3_divisor_70 CVRX3_39 [.ref P] (s_become l G Λ sz m hko hkP (by omega) (AB.get (A := πk o) hAπk hko rfl) (AB.get (A := A) hAπk hkP vπk_0)) hko.1 rfl rfl (Nat.le_of_ble_eq_true rfl) (by decide) ⟨Nat.le_refl _, Nat.le_refl _⟩ (fun μ1 hμ1 => ?_)
          obtain ⟨π1, hc1, he1, ho1⟩ := Chg.one (S := fun c => c = o ∨ c = κ + 1 ∨ c = κ + 3) (R := A) hAπk hko (by first | omega | (dsimp only; omega)) hμ1
          have hA1 := hc1.1
          have hch1 := hchπk.trans hc1
          have v1_0 : π1 P = A := (ho1 P (by omega)).trans vπk_0
          have v1_1 : π1 R = B := (ho1 R (by omega)).trans vπk_1
          refine v_aload hx DX3_divisor_73 6 rfl ?_
          refine v_aload hx DX3_divisor_74 1 rfl ?_
          refine v_cVp hx DX3_divisor_76 CVRX3_50 [] (s_head l G Λ sz μ1 hkP (AB.get (A := A) hA1 hkP v1_0)) hkP.1 rfl rfl (Nat.le_of_ble_eq_true rfl) (by decide) ⟨Nat.le_refl _, Nat.le_refl _⟩ ?_
          refine v_cNp hx DX3_divisor_79 CSRX3_54 [iv (hdI A)] (s_inverse l G Λ sz μ1 hI (hdI_rng A)) rfl rfl (Nat.le_of_ble_eq_true rfl) (by decide) ⟨Nat.le_refl _, Nat.le_refl _⟩ ?_
          refine v_cVv hx DX3_divisor_82 CVRX3_58 [iv (ivI (hdI A))] (s_scale l G Λ sz μ1 hko (AB.get (A := A) hA1 hko he1) (by have := ivI_rng (hdI A); omega)) hko.1 rfl rfl (Nat.le_of_ble_eq_true rfl) (by decide) ⟨Nat.le_refl _, Nat.le_refl _⟩ (fun μ5 hμ5 => ?_)
          obtain ⟨π5, hc5, he5, ho5⟩ := Chg.one (S := fun c => c = o ∨ c = κ + 1 ∨ c = κ + 3) (R := PS.sm (fi (ivI (hdI A))) A) hA1 hko (by first | omega | (dsimp only; omega)) hμ5
          have hA5 := hc5.1
          have hch5 := hch1.trans hc5
          have v5_0 : π5 P = A := (ho5 P (by omega)).trans v1_0
          have v5_1 : π5 R = B := (ho5 R (by omega)).trans v1_1
          have w6 : π5 o = (π a).gcd (π b) := he5.trans (by unfold PS.gcd; rw [hEA, PS.mon_eq])
          exact v_rv hx hB DX3_divisor_85 (⟨π5, hch5, w6⟩)
        · skip
          have hB0 : B ≠ PS.zero := fun e => by rw [e, PS.size_zero] at c39; omega
          have hmd := PS.md_size hl.1 hl.2 hB0
          refine v_aload hx DX3_divisor_42 1 rfl ?_
          refine v_aload hx DX3_divisor_44 2 rfl ?_
          refine v_cVv hx DX3_divisor_46 CVRX3_47 [.ref R] (s_reduceBy l G Λ sz m hI hkP hkR (by omega) (AB.get (A := A) hAπk hkP vπk_0) (AB.get (A := B) hAπk hkR vπk_1) hB0) hkP.1 rfl rfl (Nat.le_of_ble_eq_true rfl) (by decide) ⟨Nat.le_refl _, Nat.le_refl _⟩ (fun μ7 hμ7 => ?_)
          obtain ⟨π7, hc7, he7, ho7⟩ := Chg.one (S := fun c => c = o ∨ c = κ + 1 ∨ c = κ + 3) (R := PS.md A B) hAπk hkP (by first | omega | (dsimp only; omega)) hμ7
          have hA7 := hc7.1
          have hch7 := hchπk.trans hc7
          have v7_1 : π7 R = B := (ho7 R (by omega)).trans vπk_1
          refine v_aload hx DX3_divisor_49 1 rfl ?_
          refine v_astore hx DX3_divisor_51 [(7, .ref P), (6, iv k), (4, .ref P), (5, .ref R), (0, .ref κ), (1, .ref a), (2, .ref b), (3, .ref o)] rfl (by decide) ?_
          refine v_aload hx DX3_divisor_53 3 rfl ?_
          refine v_astore hx DX3_divisor_55 [(4, .ref R), (7, .ref P), (6, iv k), (5, .ref R), (0, .ref κ), (1, .ref a), (2, .ref b), (3, .ref o)] rfl (by decide) ?_
          refine v_aload hx DX3_divisor_57 1 rfl ?_
          refine v_astore hx DX3_divisor_59 [(5, .ref P), (4, .ref R), (7, .ref P), (6, iv k), (0, .ref κ), (1, .ref a), (2, .ref b), (3, .ref o)] rfl (by decide) ?_
          refine v_iinc hx DX3_divisor_61 3 rfl [(6, iv (k + 1)), (5, .ref P), (4, .ref R), (7, .ref P), (0, .ref κ), (1, .ref a), (2, .ref b), (3, .ref o)] rfl (by decide) ?_
          refine v_goto hx DX3_divisor_64 ?_
          exact v_sub [0, 2, 1, 4, 5, 6, 7] _ rfl (ih (k + 1) R P B (PS.md A B) μ7 π7 (by omega) hch7 v7_1 he7 (by omega) (by omega) ⟨hl.2, hmd.2.1⟩ (by rw [hE, PS.eu_succ (n := 199) hB0]; exact PS.eu_fuel 199 200 _ _ 48 hl.2 hmd.2.1 (by omega) (by omega)))
  refine v_aload hx DX3_divisor_0 0 rfl ?_
  refine v_get hx DX3_divisor_1 FLRX3_12 hK.1 (v := .ref (κ + 1)) rfl ?_
  refine v_astore hx DX3_divisor_4 [(4, .ref (κ + 1)), (0, .ref κ), (1, .ref a), (2, .ref b), (3, .ref o)] rfl (by decide) ?_
  refine v_aload hx DX3_divisor_6 1 rfl ?_
  refine v_get hx DX3_divisor_7 FLRX3_18 hK.1 (v := .ref (κ + 3)) rfl ?_
  refine v_astore hx DX3_divisor_10 [(5, .ref (κ + 3)), (4, .ref (κ + 1)), (0, .ref κ), (1, .ref a), (2, .ref b), (3, .ref o)] rfl (by decide) ?_
  refine v_aload hx DX3_divisor_12 1 rfl ?_
  refine v_aload hx DX3_divisor_14 3 rfl ?_
  refine v_cVv hx DX3_divisor_15 CVRX3_39 [.ref a] (s_become l G Λ sz μ hK.2.1.1 hka (by omega) (AB.get (A := π (κ + 1)) hA hK.2.1.1 rfl) (AB.get (A := π a) hA hka rfl)) hK.2.1.1.1 rfl rfl (Nat.le_of_ble_eq_true rfl) (by decide) ⟨Nat.le_refl _, Nat.le_refl _⟩ (fun μ8 hμ8 => ?_)
  obtain ⟨π8, hc8, he8, ho8⟩ := Chg.one (S := fun c => c = o ∨ c = κ + 1 ∨ c = κ + 3) (R := π a) hA hK.2.1.1 (by first | omega | (dsimp only; omega)) hμ8
  have hA8 := hc8.1
  have hch8 := hch0.trans hc8
  have v8_0 : π8 a = π a := (ho8 a (by omega)).trans rfl
  have v8_1 : π8 b = π b := (ho8 b (by omega)).trans rfl
  refine v_aload hx DX3_divisor_18 0 rfl ?_
  refine v_aload hx DX3_divisor_20 4 rfl ?_
  refine v_cVv hx DX3_divisor_21 CVRX3_39 [.ref b] (s_become l G Λ sz μ8 hK.2.1.2.1 hkb (by omega) (AB.get (A := π8 (κ + 3)) hA8 hK.2.1.2.1 rfl) (AB.get (A := π b) hA8 hkb v8_1)) hK.2.1.2.1.1 rfl rfl (Nat.le_of_ble_eq_true rfl) (by decide) ⟨Nat.le_refl _, Nat.le_refl _⟩ (fun μ9 hμ9 => ?_)
  obtain ⟨π9, hc9, he9, ho9⟩ := Chg.one (S := fun c => c = o ∨ c = κ + 1 ∨ c = κ + 3) (R := π b) hA8 hK.2.1.2.1 (by first | omega | (dsimp only; omega)) hμ9
  have hA9 := hc9.1
  have hch9 := hch8.trans hc9
  have v9_0 : π9 a = π a := (ho9 a (by omega)).trans v8_0
  have v9_1 : π9 b = π b := (ho9 b (by omega)).trans v8_1
  have v9_2 : π9 (κ + 1) = π a := (ho9 (κ + 1) (by omega)).trans he8
  refine v_push hx DX3_divisor_24 ?_
  refine v_istore hx DX3_divisor_25 [(6, iv 0), (5, .ref (κ + 3)), (4, .ref (κ + 1)), (0, .ref κ), (1, .ref a), (2, .ref b), (3, .ref o)] rfl (by decide) ?_
  exact v_sub [0, 2, 1, 3, 4, 5, 6] _ rfl (L27 100 0 (κ + 1) (κ + 3) (π a) (π b) μ9 π9 (by omega) hch9 v9_2 he9 (by omega) (by omega) ⟨la, lb⟩ rfl)
