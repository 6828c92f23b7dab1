theorem r_above (l : Launch) (G : Gl) (Λ : Lay) (sz : Nat) (μ : Mem) {f : Nat}  : Sp l G yX12_above cX12_above 1 (some FieldType.int) 0 [iv (f : Int)] Λ sz μ (pP μ (((2 * f : Nat) : Int))) := by
  refine Sp.intro (by decide) (Nat.le_of_ble_eq_true rfl) (fun x hx hBD => ?_)
  refine v_lv [(0, iv (f : Int))] rfl ?_
  refine v_push hx DX12_above_0 ?_
  refine v_iload hx DX12_above_1 0 rfl ?_
  refine v_imul hx DX12_above_2 ?_
  exact v_ri hx hBD DX12_above_3 (⟨rfl, by omega⟩)
theorem r_below (l : Launch) (G : Gl) (Λ : Lay) (sz : Nat) (μ : Mem) {f : Nat}  : Sp l G yX12_below cX12_below 1 (some FieldType.int) 0 [iv (f : Int)] Λ sz μ (pP μ (((2 * f + 1 : Nat) : Int))) := by
  refine Sp.intro (by decide) (Nat.le_of_ble_eq_true rfl) (fun x hx hBD => ?_)
  refine v_lv [(0, iv (f : Int))] rfl ?_
  refine v_push hx DX12_below_0 ?_
  refine v_iload hx DX12_below_1 0 rfl ?_
  refine v_imul hx DX12_below_2 ?_
  refine v_push hx DX12_below_3 ?_
  refine v_iadd hx DX12_below_4 ?_
  exact v_ri hx hBD DX12_below_5 (⟨rfl, by omega⟩)
theorem r_nought (l : Launch) (G : Gl) (Λ : Lay) (sz : Nat) (μ : Mem) {ν : Nat} {ρ : Nat → PS} {f : Nat} (hR : refK Λ ν) (hw : RW μ ν ρ) (hf : f < 77) : Sp l G yX12_nought cX12_nought 2 none 2 [.ref ν, iv (f : Int)] Λ sz μ (pV (fun μ' => RW μ' ν (up (up ρ (2 * f) PS.zero) (2 * f + 1) PS.one) ∧ Fr [ν + 1] μ μ')) := by
  refine Sp.intro (by decide) (Nat.le_of_ble_eq_true rfl) (fun x hx hBD => ?_)
  refine v_lv [(0, .ref ν), (1, iv (f : Int))] rfl ?_
  refine v_aload hx DX12_nought_0 0 rfl ?_
  refine v_iload hx DX12_nought_1 1 rfl ?_
  refine v_cSp hx DX12_nought_2 CSRX12_38 [iv (f : Int)] (r_above l G Λ sz μ) rfl rfl (Nat.le_of_ble_eq_true rfl) (by decide) ⟨Nat.le_refl _, Nat.le_refl _⟩ ?_
  refine v_cVv hx DX12_nought_5 CVRX12_7 [iv ((2 * f : Nat) : Int)] (r_zero (s := 2 * f) l G Λ sz μ hR hw (by omega)) hR.o rfl rfl (Nat.le_of_ble_eq_true rfl) (by decide) ⟨Nat.le_refl _, Nat.le_refl _⟩ (fun μ3 hμ3 => ?_)
  have h5 := hμ3
  refine v_aload hx DX12_nought_8 0 rfl ?_
  refine v_iload hx DX12_nought_9 1 rfl ?_
  refine v_cSp hx DX12_nought_10 CSRX12_41 [iv (f : Int)] (r_below l G Λ sz μ3) rfl rfl (Nat.le_of_ble_eq_true rfl) (by decide) ⟨Nat.le_refl _, Nat.le_refl _⟩ ?_
  refine v_push hx DX12_nought_13 ?_
  refine v_cVv hx DX12_nought_14 CVRX12_47 [iv ((2 * f + 1 : Nat) : Int), iv 1] (r_number (s := 2 * f + 1) l G Λ sz μ3 hR h5.1 (by omega) (by decide)) hR.o rfl rfl (Nat.le_of_ble_eq_true rfl) (by decide) ⟨Nat.le_refl _, Nat.le_refl _⟩ (fun μ7 hμ7 => ?_)
  exact v_rv hx hBD DX12_nought_17 (⟨by rw [← PS.C1]; exact hμ7.1, h5.2.trans hμ7.2⟩)
theorem r_takes (l : Launch) (G : Gl) (Λ : Lay) (sz : Nat) (μ : Mem) {ν : Nat} {ρ : Nat → PS} {f g : Nat} (hR : refK Λ ν) (hw : RW μ ν ρ) (hf : f < 77) (hg : g < 77) : Sp l G yX12_takes cX12_takes 3 none 1 [.ref ν, iv (f : Int), iv (g : Int)] Λ sz μ (pV (fun μ' => RW μ' ν (up (up ρ (2 * f) (ρ (2 * g))) (2 * f + 1) (ρ (2 * g + 1))) ∧ Fr [ν + 1] μ μ')) := by
  refine Sp.intro (by decide) (Nat.le_of_ble_eq_true rfl) (fun x hx hBD => ?_)
  refine v_lv [(0, .ref ν), (1, iv (f : Int)), (2, iv (g : Int))] rfl ?_
  refine v_aload hx DX12_takes_0 0 rfl ?_
  refine v_iload hx DX12_takes_1 1 rfl ?_
  refine v_cSp hx DX12_takes_2 CSRX12_38 [iv (f : Int)] (r_above l G Λ sz μ) rfl rfl (Nat.le_of_ble_eq_true rfl) (by decide) ⟨Nat.le_refl _, Nat.le_refl _⟩ ?_
  refine v_iload hx DX12_takes_5 2 rfl ?_
  refine v_cSp hx DX12_takes_6 CSRX12_38 [iv (g : Int)] (r_above l G Λ sz μ) rfl rfl (Nat.le_of_ble_eq_true rfl) (by decide) ⟨Nat.le_refl _, Nat.le_refl _⟩ ?_
  refine v_cVv hx DX12_takes_9 CVRX12_27 [iv ((2 * f : Nat) : Int), iv ((2 * g : Nat) : Int)] (r_lays (s := 2 * f) (t := 2 * g) l G Λ sz μ hR hw (by omega) (by omega)) hR.o rfl rfl (Nat.le_of_ble_eq_true rfl) (by decide) ⟨Nat.le_refl _, Nat.le_refl _⟩ (fun μ5 hμ5 => ?_)
  have h9 := hμ5
  refine v_aload hx DX12_takes_12 0 rfl ?_
  refine v_iload hx DX12_takes_13 1 rfl ?_
  refine v_cSp hx DX12_takes_14 CSRX12_41 [iv (f : Int)] (r_below l G Λ sz μ5) rfl rfl (Nat.le_of_ble_eq_true rfl) (by decide) ⟨Nat.le_refl _, Nat.le_refl _⟩ ?_
  refine v_iload hx DX12_takes_17 2 rfl ?_
  refine v_cSp hx DX12_takes_18 CSRX12_41 [iv (g : Int)] (r_below l G Λ sz μ5) rfl rfl (Nat.le_of_ble_eq_true rfl) (by decide) ⟨Nat.le_refl _, Nat.le_refl _⟩ ?_
  refine v_cVv hx DX12_takes_21 CVRX12_27 [iv ((2 * f + 1 : Nat) : Int), iv ((2 * g + 1 : Nat) : Int)] (r_lays (s := 2 * f + 1) (t := 2 * g + 1) l G Λ sz μ5 hR h9.1 (by omega) (by omega)) hR.o rfl rfl (Nat.le_of_ble_eq_true rfl) (by decide) ⟨Nat.le_refl _, Nat.le_refl _⟩ (fun μ11 hμ11 => ?_)
  exact v_rv hx hBD DX12_takes_24 (⟨by have h2 := hμ11.1; rw [up_ne (show 2 * g + 1 ≠ 2 * f by omega)] at h2; exact h2, h9.2.trans hμ11.2⟩)
