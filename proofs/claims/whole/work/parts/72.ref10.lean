theorem r_plus (l : Launch) (G : Gl) (Λ : Lay) (sz : Nat) (μ : Mem) {ν : Nat} {ρ : Nat → PS} {o a b : Nat} {v : Int} (hR : refK Λ ν) (hw : RW μ ν ρ) (ho : o < 70) (ha : a < 70) (hb : b < 70) (hv : inR v) (hl1 : ((ρ (2 * a)).mul (ρ (2 * b + 1))).lt 96) (hl3 : ((ρ (2 * b)).mul (ρ (2 * a + 1))).lt 96) (hl2 : ((ρ (2 * a + 1)).mul (ρ (2 * b + 1))).lt 96) (hD0 : ((ρ (2 * a + 1)).mul (ρ (2 * b + 1))) ≠ PS.zero) : Sp l G yX12_plus cX12_plus 5 none 5 [.ref ν, iv (o : Int), iv (a : Int), iv (b : Int), iv v] Λ sz μ (pV (fun μ' => ∃ ρ', RW μ' ν ρ' ∧ ρ' (2 * o) = rdN (((ρ (2 * a)).mul (ρ (2 * b + 1))).add (((ρ (2 * b)).mul (ρ (2 * a + 1))).sm (fi v))) ((ρ (2 * a + 1)).mul (ρ (2 * b + 1))) ∧ ρ' (2 * o + 1) = rdD (((ρ (2 * a)).mul (ρ (2 * b + 1))).add (((ρ (2 * b)).mul (ρ (2 * a + 1))).sm (fi v))) ((ρ (2 * a + 1)).mul (ρ (2 * b + 1))) ∧ (∀ r, (r < 140 ∨ 147 < r ∧ r < 151) → r ≠ 2 * o → r ≠ 2 * o + 1 → ρ' r = ρ r) ∧ Fr [ν + 1, ν + 2] μ μ')) := by
  refine Sp.intro (by decide) (Nat.le_of_ble_eq_true rfl) (fun x hx hBD => ?_)
  refine v_lv [(0, .ref ν), (1, iv (o : Int)), (2, iv (a : Int)), (3, iv (b : Int)), (4, iv v)] rfl ?_
  refine v_aload hx DX12_plus_0 0 rfl ?_
  refine v_push hx DX12_plus_1 ?_
  refine v_iload hx DX12_plus_4 2 rfl ?_
  refine v_cSp hx DX12_plus_5 CSRX12_38 [iv (a : Int)] (r_above l G Λ sz μ) rfl rfl (Nat.le_of_ble_eq_true rfl) (by decide) ⟨Nat.le_refl _, Nat.le_refl _⟩ ?_
  refine v_iload hx DX12_plus_8 3 rfl ?_
  refine v_cSp hx DX12_plus_9 CSRX12_41 [iv (b : Int)] (r_below l G Λ sz μ) rfl rfl (Nat.le_of_ble_eq_true rfl) (by decide) ⟨Nat.le_refl _, Nat.le_refl _⟩ ?_
  refine v_cVv hx DX12_plus_12 CVRX12_50 [iv 140, iv ((2 * a : Nat) : Int), iv ((2 * b + 1 : Nat) : Int)] (r_times (s := 140) (a := 2 * a) (b := 2 * b + 1) l G Λ sz μ hR hw (by decide) (by omega) (by omega)) hR.o rfl rfl (Nat.le_of_ble_eq_true rfl) (by decide) ⟨Nat.le_refl _, Nat.le_refl _⟩ (fun μ5 hμ5 => ?_)
  have h12 := hμ5
  refine v_aload hx DX12_plus_15 0 rfl ?_
  refine v_push hx DX12_plus_16 ?_
  refine v_iload hx DX12_plus_19 3 rfl ?_
  refine v_cSp hx DX12_plus_20 CSRX12_38 [iv (b : Int)] (r_above l G Λ sz μ5) rfl rfl (Nat.le_of_ble_eq_true rfl) (by decide) ⟨Nat.le_refl _, Nat.le_refl _⟩ ?_
  refine v_iload hx DX12_plus_23 2 rfl ?_
  refine v_cSp hx DX12_plus_24 CSRX12_41 [iv (a : Int)] (r_below l G Λ sz μ5) rfl rfl (Nat.le_of_ble_eq_true rfl) (by decide) ⟨Nat.le_refl _, Nat.le_refl _⟩ ?_
  refine v_cVv hx DX12_plus_27 CVRX12_50 [iv 141, iv ((2 * b : Nat) : Int), iv ((2 * a + 1 : Nat) : Int)] (r_times (s := 141) (a := 2 * b) (b := 2 * a + 1) l G Λ sz μ5 hR h12.1 (by decide) (by omega) (by omega)) hR.o rfl rfl (Nat.le_of_ble_eq_true rfl) (by decide) ⟨Nat.le_refl _, Nat.le_refl _⟩ (fun μ11 hμ11 => ?_)
  have h27 := hμ11
  refine v_aload hx DX12_plus_30 0 rfl ?_
  refine v_push hx DX12_plus_31 ?_
  refine v_push hx DX12_plus_34 ?_
  refine v_iload hx DX12_plus_37 4 rfl ?_
  refine v_cVv hx DX12_plus_39 CVRX12_53 [iv 140, iv 141, iv v] (r_adds (s := 140) (t := 141) l G Λ sz μ11 hR h27.1 (by decide) (by decide) hv) hR.o rfl rfl (Nat.le_of_ble_eq_true rfl) (by decide) ⟨Nat.le_refl _, Nat.le_refl _⟩ (fun μ13 hμ13 => ?_)
  have h39 := hμ13
  refine v_aload hx DX12_plus_42 0 rfl ?_
  refine v_push hx DX12_plus_43 ?_
  refine v_iload hx DX12_plus_46 2 rfl ?_
  refine v_cSp hx DX12_plus_47 CSRX12_41 [iv (a : Int)] (r_below l G Λ sz μ13) rfl rfl (Nat.le_of_ble_eq_true rfl) (by decide) ⟨Nat.le_refl _, Nat.le_refl _⟩ ?_
  refine v_iload hx DX12_plus_50 3 rfl ?_
  refine v_cSp hx DX12_plus_51 CSRX12_41 [iv (b : Int)] (r_below l G Λ sz μ13) rfl rfl (Nat.le_of_ble_eq_true rfl) (by decide) ⟨Nat.le_refl _, Nat.le_refl _⟩ ?_
  refine v_cVv hx DX12_plus_54 CVRX12_50 [iv 141, iv ((2 * a + 1 : Nat) : Int), iv ((2 * b + 1 : Nat) : Int)] (r_times (s := 141) (a := 2 * a + 1) (b := 2 * b + 1) l G Λ sz μ13 hR h39.1 (by decide) (by omega) (by omega)) hR.o rfl rfl (Nat.le_of_ble_eq_true rfl) (by decide) ⟨Nat.le_refl _, Nat.le_refl _⟩ (fun μ19 hμ19 => ?_)
  have h54 := hμ19
  refine v_aload hx DX12_plus_57 0 rfl ?_
  refine v_iload hx DX12_plus_58 1 rfl ?_
  refine v_cSp hx DX12_plus_59 CSRX12_38 [iv (o : Int)] (r_above l G Λ sz μ19) rfl rfl (Nat.le_of_ble_eq_true rfl) (by decide) ⟨Nat.le_refl _, Nat.le_refl _⟩ ?_
  refine v_push hx DX12_plus_62 ?_
  refine v_cVv hx DX12_plus_65 CVRX12_27 [iv ((2 * o : Nat) : Int), iv 140] (r_lays (s := 2 * o) (t := 140) l G Λ sz μ19 hR h54.1 (by omega) (by decide)) hR.o rfl rfl (Nat.le_of_ble_eq_true rfl) (by decide) ⟨Nat.le_refl _, Nat.le_refl _⟩ (fun μ23 hμ23 => ?_)
  have h65 := hμ23
  refine v_aload hx DX12_plus_68 0 rfl ?_
  refine v_iload hx DX12_plus_69 1 rfl ?_
  refine v_cSp hx DX12_plus_70 CSRX12_41 [iv (o : Int)] (r_below l G Λ sz μ23) rfl rfl (Nat.le_of_ble_eq_true rfl) (by decide) ⟨Nat.le_refl _, Nat.le_refl _⟩ ?_
  refine v_push hx DX12_plus_73 ?_
  refine v_cVv hx DX12_plus_76 CVRX12_27 [iv ((2 * o + 1 : Nat) : Int), iv 141] (r_lays (s := 2 * o + 1) (t := 141) l G Λ sz μ23 hR h65.1 (by omega) (by decide)) hR.o rfl rfl (Nat.le_of_ble_eq_true rfl) (by decide) ⟨Nat.le_refl _, Nat.le_refl _⟩ (fun μ27 hμ27 => ?_)
  have h76 := hμ27
  obtain ⟨σ, wσ, e1, e2, e3⟩ : ∃ σ, RW μ27 ν σ ∧ σ (2 * o) = (((ρ (2 * a)).mul (ρ (2 * b + 1))).add (((ρ (2 * b)).mul (ρ (2 * a + 1))).sm (fi v))) ∧ σ (2 * o + 1) = ((ρ (2 * a + 1)).mul (ρ (2 * b + 1))) ∧ (∀ r, (r < 140 ∨ 147 < r ∧ r < 151) → r ≠ 2 * o → r ≠ 2 * o + 1 → σ r = ρ r) := by
    refine ⟨_, h76.1, ?_, ?_, fun r h1 h2 h3 => ?_⟩
    · simp only [up, show ¬ 2 * o = 2 * o + 1 by omega, show ¬ (140 : Nat) = 141 by omega, show ¬ (141 : Nat) = 140 by omega, show ¬ 2 * b = 140 by omega, show ¬ 2 * a + 1 = 140 by omega, show ¬ 2 * b + 1 = 140 by omega, show ¬ 2 * a + 1 = 141 by omega, show ¬ 2 * b + 1 = 141 by omega, show ¬ (141 : Nat) = 2 * o by omega, show ¬ (140 : Nat) = 2 * o by omega, if_false, if_true]; rw [PS.tr_end hl1, PS.tr_end hl3]
    · simp only [up, show ¬ 2 * o = 2 * o + 1 by omega, show ¬ (140 : Nat) = 141 by omega, show ¬ (141 : Nat) = 140 by omega, show ¬ 2 * b = 140 by omega, show ¬ 2 * a + 1 = 140 by omega, show ¬ 2 * b + 1 = 140 by omega, show ¬ 2 * a + 1 = 141 by omega, show ¬ 2 * b + 1 = 141 by omega, show ¬ (141 : Nat) = 2 * o by omega, show ¬ (140 : Nat) = 2 * o by omega, if_false, if_true]; exact PS.tr_end hl2
    · simp only [up, h2, h3, show ¬ r = 140 by omega, show ¬ r = 141 by omega, if_false]
  refine v_aload hx DX12_plus_79 0 rfl ?_
  refine v_iload hx DX12_plus_80 1 rfl ?_
  refine v_cVv hx DX12_plus_81 CVRX12_56 [iv (o : Int)] (r_shortens (f := o) l G Λ sz μ27 hR wσ (by omega) (by rw [e2]; exact hD0)) hR.o rfl rfl (Nat.le_of_ble_eq_true rfl) (by decide) ⟨Nat.le_refl _, Nat.le_refl _⟩ (fun μ29 hμ29 => ?_)
  exact v_rv hx hBD DX12_plus_84 (by obtain ⟨σ2, g1, g2, g3, g4, g5⟩ := hμ29; rw [e1, e2] at g2 g3; exact ⟨σ2, g1, g2, g3, fun r h1 h2 h3 => (g4 r (by omega) h2 h3).trans (e3 r h1 h2 h3), (((((h12.2.trans h27.2).trans (h39.2.mono (by simp))).trans h54.2).trans (h65.2.mono (by simp))).trans (h76.2.mono (by simp))).trans (g5.mono (by simp))⟩)
