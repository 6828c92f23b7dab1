theorem r_isNought (l : Launch) (G : Gl) (Λ : Lay) (sz : Nat) (μ : Mem) {ν : Nat} {ρ : Nat → PS} {f : Nat} (hR : refK Λ ν) (hw : RW μ ν ρ) (hf : f < 77) : Sp l G yX12_isNought cX12_isNought 2 (some FieldType.boolean) 1 [.ref ν, iv (f : Int)] Λ sz μ (pP μ (bz ((ρ (2 * f)) = PS.zero))) := by
  refine Sp.intro (by decide) (Nat.le_of_ble_eq_true rfl) (fun x hx hBD => ?_)
  refine v_lv [(0, .ref ν), (1, iv (f : Int))] rfl ?_
  have l1 := (hw (2 * f) (by omega)).1
  have z1 := PS.size_le l1
  have q1 := PS.size_eq_zero l1
  refine v_aload hx DX12_isNought_0 0 rfl ?_
  refine v_iload hx DX12_isNought_1 1 rfl ?_
  refine v_cSp hx DX12_isNought_2 CSRX12_38 [iv (f : Int)] (r_above l G Λ sz μ) rfl rfl (Nat.le_of_ble_eq_true rfl) (by decide) ⟨Nat.le_refl _, Nat.le_refl _⟩ ?_
  refine v_cVp hx DX12_isNought_5 CVRX12_15 [iv ((2 * f : Nat) : Int)] (r_degree (s := 2 * f) l G Λ sz μ hR hw (by omega)) hR.o rfl rfl (Nat.le_of_ble_eq_true rfl) (by decide) ⟨Nat.le_refl _, Nat.le_refl _⟩ ?_
  refine v_if_ge hx DX12_isNought_8 (by omega) (fun c8 => ?_) (fun c8 => ?_)
  · skip
    have e0 : (0 : Int) = bz ((ρ (2 * f)) = PS.zero) := (bz_neg (fun q => by have := q1.mpr q; omega)).symm
    refine v_push hx DX12_isNought_15 ?_
    exact v_rz hx hBD (by omega) DX12_isNought_16 (⟨rfl, e0⟩)
  · skip
    have e0 : (1 : Int) = bz ((ρ (2 * f)) = PS.zero) := (bz_pos (q1.mp (by omega))).symm
    refine v_push hx DX12_isNought_11 ?_
    refine v_goto hx DX12_isNought_12 ?_
    exact v_rz hx hBD (by omega) DX12_isNought_16 (⟨rfl, e0⟩)
theorem r_isTerm (l : Launch) (G : Gl) (Λ : Lay) (sz : Nat) (μ : Mem) {ν : Nat} {ρ : Nat → PS} {f : Nat} (hR : refK Λ ν) (hw : RW μ ν ρ) (hf : f < 77) : Sp l G yX12_isTerm cX12_isTerm 2 (some FieldType.boolean) 1 [.ref ν, iv (f : Int)] Λ sz μ (pP μ (isT (ρ (2 * f)) (ρ (2 * f + 1)))) := by
  refine Sp.intro (by decide) (Nat.le_of_ble_eq_true rfl) (fun x hx hBD => ?_)
  refine v_lv [(0, .ref ν), (1, iv (f : Int))] rfl ?_
  have z1 := PS.size_le (hw (2 * f) (by omega)).1
  have z2 := PS.size_le (hw (2 * f + 1) (by omega)).1
  refine v_aload hx DX12_isTerm_0 0 rfl ?_
  refine v_iload hx DX12_isTerm_1 1 rfl ?_
  refine v_cSp hx DX12_isTerm_2 CSRX12_38 [iv (f : Int)] (r_above l G Λ sz μ) rfl rfl (Nat.le_of_ble_eq_true rfl) (by decide) ⟨Nat.le_refl _, Nat.le_refl _⟩ ?_
  refine v_cVp hx DX12_isTerm_5 CVRX12_15 [iv ((2 * f : Nat) : Int)] (r_degree (s := 2 * f) l G Λ sz μ hR hw (by omega)) hR.o rfl rfl (Nat.le_of_ble_eq_true rfl) (by decide) ⟨Nat.le_refl _, Nat.le_refl _⟩ ?_
  refine v_push hx DX12_isTerm_8 ?_
  refine v_icmp_gt hx DX12_isTerm_10 (by omega) (by decide) (fun c10 => ?_) (fun c10 => ?_)
  · skip
    have e0 : (0 : Int) = isT (ρ (2 * f)) (ρ (2 * f + 1)) := by unfold isT; rw [if_neg (by omega)]
    refine v_push hx DX12_isTerm_29 ?_
    exact v_rz hx hBD (by omega) DX12_isTerm_30 (⟨rfl, e0⟩)
  · skip
    refine v_aload hx DX12_isTerm_13 0 rfl ?_
    refine v_iload hx DX12_isTerm_14 1 rfl ?_
    refine v_cSp hx DX12_isTerm_15 CSRX12_41 [iv (f : Int)] (r_below l G Λ sz μ) rfl rfl (Nat.le_of_ble_eq_true rfl) (by decide) ⟨Nat.le_refl _, Nat.le_refl _⟩ ?_
    refine v_cVp hx DX12_isTerm_18 CVRX12_15 [iv ((2 * f + 1 : Nat) : Int)] (r_degree (s := 2 * f + 1) l G Λ sz μ hR hw (by omega)) hR.o rfl rfl (Nat.le_of_ble_eq_true rfl) (by decide) ⟨Nat.le_refl _, Nat.le_refl _⟩ ?_
    refine v_push hx DX12_isTerm_21 ?_
    refine v_icmp_gt hx DX12_isTerm_22 (by omega) (by decide) (fun c22 => ?_) (fun c22 => ?_)
    · skip
      have e0 : (0 : Int) = isT (ρ (2 * f)) (ρ (2 * f + 1)) := by unfold isT; rw [if_neg (by omega)]
      refine v_push hx DX12_isTerm_29 ?_
      exact v_rz hx hBD (by omega) DX12_isTerm_30 (⟨rfl, e0⟩)
    · skip
      have e0 : (1 : Int) = isT (ρ (2 * f)) (ρ (2 * f + 1)) := by unfold isT; rw [if_pos (by omega)]
      refine v_push hx DX12_isTerm_25 ?_
      refine v_goto hx DX12_isTerm_26 ?_
      exact v_rz hx hBD (by omega) DX12_isTerm_30 (⟨rfl, e0⟩)
