theorem r_derived (l : Launch) (G : Gl) (Λ : Lay) (sz : Nat) (μ : Mem) {ν : Nat} {ρ : Nat → PS} {o a : Nat} (hR : refK Λ ν) (hw : RW μ ν ρ) (ho : o < 70) (ha : a < 70) (hl1 : ((ρ (2 * a)).der.mul (ρ (2 * a + 1))).lt 96) (hl3 : ((ρ (2 * a + 1)).der.mul (ρ (2 * a))).lt 96) (hl2 : ((ρ (2 * a + 1)).mul (ρ (2 * a + 1))).lt 96) (hD0 : ((ρ (2 * a + 1)).mul (ρ (2 * a + 1))) ≠ PS.zero) : Sp l G yX12_derived cX12_derived 3 none 5 [.ref ν, iv (o : Int), iv (a : Int)] Λ sz μ (pV (fun μ' => ∃ ρ', RW μ' ν ρ' ∧ ρ' (2 * o) = rdN (((ρ (2 * a)).der.mul (ρ (2 * a + 1))).add (((ρ (2 * a + 1)).der.mul (ρ (2 * a))).sm (fi (-1)))) ((ρ (2 * a + 1)).mul (ρ (2 * a + 1))) ∧ ρ' (2 * o + 1) = rdD (((ρ (2 * a)).der.mul (ρ (2 * a + 1))).add (((ρ (2 * a + 1)).der.mul (ρ (2 * a))).sm (fi (-1)))) ((ρ (2 * a + 1)).mul (ρ (2 * a + 1))) ∧ (∀ r, (r < 140 ∨ 147 < r ∧ r < 151) → r ≠ 2 * o → r ≠ 2 * o + 1 → ρ' r = ρ r) ∧ Fr [ν + 1, ν + 2] μ μ')) := by
  refine Sp.intro (by decide) (Nat.le_of_ble_eq_true rfl) (fun x hx hBD => ?_)
  refine v_lv [(0, .ref ν), (1, iv (o : Int)), (2, iv (a : Int))] rfl ?_
  refine v_aload hx DX12_derived_0 0 rfl ?_
  refine v_push hx DX12_derived_1 ?_
  refine v_iload hx DX12_derived_4 2 rfl ?_
  refine v_cSp hx DX12_derived_5 CSRX12_38 [iv (a : Int)] (r_above l G Λ sz μ) rfl rfl (Nat.le_of_ble_eq_true rfl) (by decide) ⟨Nat.le_refl _, Nat.le_refl _⟩ ?_
  refine v_cVv hx DX12_derived_8 CVRX12_59 [iv 140, iv ((2 * a : Nat) : Int)] (r_derives (s := 140) (t := 2 * a) l G Λ sz μ hR hw (by decide) (by omega)) hR.o rfl rfl (Nat.le_of_ble_eq_true rfl) (by decide) ⟨Nat.le_refl _, Nat.le_refl _⟩ (fun μ3 hμ3 => ?_)
  have h8 := hμ3
  refine v_aload hx DX12_derived_11 0 rfl ?_
  refine v_push hx DX12_derived_12 ?_
  refine v_push hx DX12_derived_15 ?_
  refine v_iload hx DX12_derived_18 2 rfl ?_
  refine v_cSp hx DX12_derived_19 CSRX12_41 [iv (a : Int)] (r_below l G Λ sz μ3) rfl rfl (Nat.le_of_ble_eq_true rfl) (by decide) ⟨Nat.le_refl _, Nat.le_refl _⟩ ?_
  refine v_cVv hx DX12_derived_22 CVRX12_50 [iv 140, iv 140, iv ((2 * a + 1 : Nat) : Int)] (r_times (s := 140) (a := 140) (b := 2 * a + 1) l G Λ sz μ3 hR h8.1 (by decide) (by omega) (by omega)) hR.o rfl rfl (Nat.le_of_ble_eq_true rfl) (by decide) ⟨Nat.le_refl _, Nat.le_refl _⟩ (fun μ7 hμ7 => ?_)
  have h22 := hμ7
  refine v_aload hx DX12_derived_25 0 rfl ?_
  refine v_push hx DX12_derived_26 ?_
  refine v_iload hx DX12_derived_29 2 rfl ?_
  refine v_cSp hx DX12_derived_30 CSRX12_41 [iv (a : Int)] (r_below l G Λ sz μ7) rfl rfl (Nat.le_of_ble_eq_true rfl) (by decide) ⟨Nat.le_refl _, Nat.le_refl _⟩ ?_
  refine v_cVv hx DX12_derived_33 CVRX12_59 [iv 141, iv ((2 * a + 1 : Nat) : Int)] (r_derives (s := 141) (t := 2 * a + 1) l G Λ sz μ7 hR h22.1 (by decide) (by omega)) hR.o rfl rfl (Nat.le_of_ble_eq_true rfl) (by decide) ⟨Nat.le_refl _, Nat.le_refl _⟩ (fun μ11 hμ11 => ?_)
  have h33 := hμ11
  refine v_aload hx DX12_derived_36 0 rfl ?_
  refine v_push hx DX12_derived_37 ?_
  refine v_push hx DX12_derived_40 ?_
  refine v_iload hx DX12_derived_43 2 rfl ?_
  refine v_cSp hx DX12_derived_44 CSRX12_38 [iv (a : Int)] (r_above l G Λ sz μ11) rfl rfl (Nat.le_of_ble_eq_true rfl) (by decide) ⟨Nat.le_refl _, Nat.le_refl _⟩ ?_
  refine v_cVv hx DX12_derived_47 CVRX12_50 [iv 141, iv 141, iv ((2 * a : Nat) : Int)] (r_times (s := 141) (a := 141) (b := 2 * a) l G Λ sz μ11 hR h33.1 (by decide) (by omega) (by omega)) hR.o rfl rfl (Nat.le_of_ble_eq_true rfl) (by decide) ⟨Nat.le_refl _, Nat.le_refl _⟩ (fun μ15 hμ15 => ?_)
  have h47 := hμ15
  refine v_aload hx DX12_derived_50 0 rfl ?_
  refine v_push hx DX12_derived_51 ?_
  refine v_push hx DX12_derived_54 ?_
  refine v_push hx DX12_derived_57 ?_
  refine v_cVv hx DX12_derived_58 CVRX12_53 [iv 140, iv 141, iv (-1)] (r_adds (s := 140) (t := 141) l G Λ sz μ15 hR h47.1 (by decide) (by decide) (by decide)) hR.o rfl rfl (Nat.le_of_ble_eq_true rfl) (by decide) ⟨Nat.le_refl _, Nat.le_refl _⟩ (fun μ17 hμ17 => ?_)
  have h58 := hμ17
  refine v_aload hx DX12_derived_61 0 rfl ?_
  refine v_push hx DX12_derived_62 ?_
  refine v_iload hx DX12_derived_65 2 rfl ?_
  refine v_cSp hx DX12_derived_66 CSRX12_41 [iv (a : Int)] (r_below l G Λ sz μ17) rfl rfl (Nat.le_of_ble_eq_true rfl) (by decide) ⟨Nat.le_refl _, Nat.le_refl _⟩ ?_
  refine v_iload hx DX12_derived_69 2 rfl ?_
  refine v_cSp hx DX12_derived_70 CSRX12_41 [iv (a : Int)] (r_below l G Λ sz μ17) rfl rfl (Nat.le_of_ble_eq_true rfl) (by decide) ⟨Nat.le_refl _, Nat.le_refl _⟩ ?_
  refine v_cVv hx DX12_derived_73 CVRX12_50 [iv 141, iv ((2 * a + 1 : Nat) : Int), iv ((2 * a + 1 : Nat) : Int)] (r_times (s := 141) (a := 2 * a + 1) (b := 2 * a + 1) l G Λ sz μ17 hR h58.1 (by decide) (by omega) (by omega)) hR.o rfl rfl (Nat.le_of_ble_eq_true rfl) (by decide) ⟨Nat.le_refl _, Nat.le_refl _⟩ (fun μ23 hμ23 => ?_)
  have h73 := hμ23
  refine v_aload hx DX12_derived_76 0 rfl ?_
  refine v_iload hx DX12_derived_77 1 rfl ?_
  refine v_cSp hx DX12_derived_78 CSRX12_38 [iv (o : Int)] (r_above l G Λ sz μ23) rfl rfl (Nat.le_of_ble_eq_true rfl) (by decide) ⟨Nat.le_refl _, Nat.le_refl _⟩ ?_
  refine v_push hx DX12_derived_81 ?_
  refine v_cVv hx DX12_derived_84 CVRX12_27 [iv ((2 * o : Nat) : Int), iv 140] (r_lays (s := 2 * o) (t := 140) l G Λ sz μ23 hR h73.1 (by omega) (by decide)) hR.o rfl rfl (Nat.le_of_ble_eq_true rfl) (by decide) ⟨Nat.le_refl _, Nat.le_refl _⟩ (fun μ27 hμ27 => ?_)
  have h84 := hμ27
  refine v_aload hx DX12_derived_87 0 rfl ?_
  refine v_iload hx DX12_derived_88 1 rfl ?_
  refine v_cSp hx DX12_derived_89 CSRX12_41 [iv (o : Int)] (r_below l G Λ sz μ27) rfl rfl (Nat.le_of_ble_eq_true rfl) (by decide) ⟨Nat.le_refl _, Nat.le_refl _⟩ ?_
  refine v_push hx DX12_derived_92 ?_
  refine v_cVv hx DX12_derived_95 CVRX12_27 [iv ((2 * o + 1 : Nat) : Int), iv 141] (r_lays (s := 2 * o + 1) (t := 141) l G Λ sz μ27 hR h84.1 (by omega) (by decide)) hR.o rfl rfl (Nat.le_of_ble_eq_true rfl) (by decide) ⟨Nat.le_refl _, Nat.le_refl _⟩ (fun μ31 hμ31 => ?_)
  have h95 := hμ31
  obtain ⟨σ, wσ, e1, e2, e3⟩ : ∃ σ, RW μ31 ν σ ∧ σ (2 * o) = (((ρ (2 * a)).der.mul (ρ (2 * a + 1))).add (((ρ (2 * a + 1)).der.mul (ρ (2 * a))).sm (fi (-1)))) ∧ σ (2 * o + 1) = ((ρ (2 * a + 1)).mul (ρ (2 * a + 1))) ∧ (∀ r, (r < 140 ∨ 147 < r ∧ r < 151) → r ≠ 2 * o → r ≠ 2 * o + 1 → σ r = ρ r) := by
    refine ⟨_, h95.1, ?_, ?_, fun r h1 h2 h3 => ?_⟩
    · simp only [up, show ¬ 2 * o = 2 * o + 1 by omega, show ¬ (140 : Nat) = 141 by omega, show ¬ (141 : Nat) = 140 by omega, show ¬ 2 * a = 140 by omega, show ¬ 2 * a + 1 = 140 by omega, show ¬ 2 * a = 141 by omega, show ¬ 2 * a + 1 = 141 by omega, show ¬ (141 : Nat) = 2 * o by omega, show ¬ (140 : Nat) = 2 * o by omega, if_false, if_true]; rw [PS.tr_end hl1, PS.tr_end hl3]
    · simp only [up, show ¬ 2 * o = 2 * o + 1 by omega, show ¬ (140 : Nat) = 141 by omega, show ¬ (141 : Nat) = 140 by omega, show ¬ 2 * a = 140 by omega, show ¬ 2 * a + 1 = 140 by omega, show ¬ 2 * a = 141 by omega, show ¬ 2 * a + 1 = 141 by omega, show ¬ (141 : Nat) = 2 * o by omega, show ¬ (140 : Nat) = 2 * o by omega, if_false, if_true]; exact PS.tr_end hl2
    · simp only [up, h2, h3, show ¬ r = 140 by omega, show ¬ r = 141 by omega, if_false]
  refine v_aload hx DX12_derived_98 0 rfl ?_
  refine v_iload hx DX12_derived_99 1 rfl ?_
  refine v_cVv hx DX12_derived_100 CVRX12_56 [iv (o : Int)] (r_shortens (f := o) l G Λ sz μ31 hR wσ (by omega) (by rw [e2]; exact hD0)) hR.o rfl rfl (Nat.le_of_ble_eq_true rfl) (by decide) ⟨Nat.le_refl _, Nat.le_refl _⟩ (fun μ33 hμ33 => ?_)
  exact v_rv hx hBD DX12_derived_103 (by obtain ⟨σ2, g1, g2, g3, g4, g5⟩ := hμ33; rw [e1, e2] at g2 g3; exact ⟨σ2, g1, g2, g3, fun r h1 h2 h3 => (g4 r (by omega) h2 h3).trans (e3 r h1 h2 h3), ((((((((h8.2.mono (by simp)).trans h22.2).trans (h33.2.mono (by simp))).trans h47.2).trans (h58.2.mono (by simp))).trans h73.2).trans (h84.2.mono (by simp))).trans (h95.2.mono (by simp))).trans (g5.mono (by simp))⟩)
