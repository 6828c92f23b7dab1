theorem r_multiplies (l : Launch) (G : Gl) (Λ : Lay) (sz : Nat) (μ : Mem) {ν : Nat} {ρ : Nat → PS} {o a b : Nat} (hR : refK Λ ν) (hw : RW μ ν ρ) (ho : o < 70) (ha : a < 70) (hb : b < 70) (hl1 : ((ρ (2 * a)).mul (ρ (2 * b))).lt 96) (hl2 : ((ρ (2 * a + 1)).mul (ρ (2 * b + 1))).lt 96) (hD0 : ((ρ (2 * a + 1)).mul (ρ (2 * b + 1))) ≠ PS.zero) : Sp l G yX12_multiplies cX12_multiplies 4 none 5 [.ref ν, iv (o : Int), iv (a : Int), iv (b : Int)] Λ sz μ (pV (fun μ' => ∃ ρ', RW μ' ν ρ' ∧ ρ' (2 * o) = rdN ((ρ (2 * a)).mul (ρ (2 * b))) ((ρ (2 * a + 1)).mul (ρ (2 * b + 1))) ∧ ρ' (2 * o + 1) = rdD ((ρ (2 * a)).mul (ρ (2 * b))) ((ρ (2 * a + 1)).mul (ρ (2 * b + 1))) ∧ (∀ r, (r < 140 ∨ 147 < r ∧ r < 151) → r ≠ 2 * o → r ≠ 2 * o + 1 → ρ' r = ρ r) ∧ Fr [ν + 1, ν + 2] μ μ')) := by
  refine Sp.intro (by decide) (Nat.le_of_ble_eq_true rfl) (fun x hx hBD => ?_)
  refine v_lv [(0, .ref ν), (1, iv (o : Int)), (2, iv (a : Int)), (3, iv (b : Int))] rfl ?_
  refine v_aload hx DX12_multiplies_0 0 rfl ?_
  refine v_push hx DX12_multiplies_1 ?_
  refine v_iload hx DX12_multiplies_4 2 rfl ?_
  refine v_cSp hx DX12_multiplies_5 CSRX12_38 [iv (a : Int)] (r_above l G Λ sz μ) rfl rfl (Nat.le_of_ble_eq_true rfl) (by decide) ⟨Nat.le_refl _, Nat.le_refl _⟩ ?_
  refine v_iload hx DX12_multiplies_8 3 rfl ?_
  refine v_cSp hx DX12_multiplies_9 CSRX12_38 [iv (b : Int)] (r_above l G Λ sz μ) rfl rfl (Nat.le_of_ble_eq_true rfl) (by decide) ⟨Nat.le_refl _, Nat.le_refl _⟩ ?_
  refine v_cVv hx DX12_multiplies_12 CVRX12_50 [iv 140, iv ((2 * a : Nat) : Int), iv ((2 * b : Nat) : Int)] (r_times (s := 140) (a := 2 * a) (b := 2 * b) l G Λ sz μ hR hw (by decide) (by omega) (by omega)) hR.o rfl rfl (Nat.le_of_ble_eq_true rfl) (by decide) ⟨Nat.le_refl _, Nat.le_refl _⟩ (fun μ5 hμ5 => ?_)
  have h12 := hμ5
  refine v_aload hx DX12_multiplies_15 0 rfl ?_
  refine v_push hx DX12_multiplies_16 ?_
  refine v_iload hx DX12_multiplies_19 2 rfl ?_
  refine v_cSp hx DX12_multiplies_20 CSRX12_41 [iv (a : Int)] (r_below l G Λ sz μ5) rfl rfl (Nat.le_of_ble_eq_true rfl) (by decide) ⟨Nat.le_refl _, Nat.le_refl _⟩ ?_
  refine v_iload hx DX12_multiplies_23 3 rfl ?_
  refine v_cSp hx DX12_multiplies_24 CSRX12_41 [iv (b : Int)] (r_below l G Λ sz μ5) rfl rfl (Nat.le_of_ble_eq_true rfl) (by decide) ⟨Nat.le_refl _, Nat.le_refl _⟩ ?_
  refine v_cVv hx DX12_multiplies_27 CVRX12_50 [iv 141, iv ((2 * a + 1 : Nat) : Int), iv ((2 * b + 1 : Nat) : Int)] (r_times (s := 141) (a := 2 * a + 1) (b := 2 * b + 1) l G Λ sz μ5 hR h12.1 (by decide) (by omega) (by omega)) hR.o rfl rfl (Nat.le_of_ble_eq_true rfl) (by decide) ⟨Nat.le_refl _, Nat.le_refl _⟩ (fun μ11 hμ11 => ?_)
  have h27 := hμ11
  refine v_aload hx DX12_multiplies_30 0 rfl ?_
  refine v_iload hx DX12_multiplies_31 1 rfl ?_
  refine v_cSp hx DX12_multiplies_32 CSRX12_38 [iv (o : Int)] (r_above l G Λ sz μ11) rfl rfl (Nat.le_of_ble_eq_true rfl) (by decide) ⟨Nat.le_refl _, Nat.le_refl _⟩ ?_
  refine v_push hx DX12_multiplies_35 ?_
  refine v_cVv hx DX12_multiplies_38 CVRX12_27 [iv ((2 * o : Nat) : Int), iv 140] (r_lays (s := 2 * o) (t := 140) l G Λ sz μ11 hR h27.1 (by omega) (by decide)) hR.o rfl rfl (Nat.le_of_ble_eq_true rfl) (by decide) ⟨Nat.le_refl _, Nat.le_refl _⟩ (fun μ15 hμ15 => ?_)
  have h38 := hμ15
  refine v_aload hx DX12_multiplies_41 0 rfl ?_
  refine v_iload hx DX12_multiplies_42 1 rfl ?_
  refine v_cSp hx DX12_multiplies_43 CSRX12_41 [iv (o : Int)] (r_below l G Λ sz μ15) rfl rfl (Nat.le_of_ble_eq_true rfl) (by decide) ⟨Nat.le_refl _, Nat.le_refl _⟩ ?_
  refine v_push hx DX12_multiplies_46 ?_
  refine v_cVv hx DX12_multiplies_49 CVRX12_27 [iv ((2 * o + 1 : Nat) : Int), iv 141] (r_lays (s := 2 * o + 1) (t := 141) l G Λ sz μ15 hR h38.1 (by omega) (by decide)) hR.o rfl rfl (Nat.le_of_ble_eq_true rfl) (by decide) ⟨Nat.le_refl _, Nat.le_refl _⟩ (fun μ19 hμ19 => ?_)
  have h49 := hμ19
  obtain ⟨σ, wσ, e1, e2, e3⟩ : ∃ σ, RW μ19 ν σ ∧ σ (2 * o) = ((ρ (2 * a)).mul (ρ (2 * b))) ∧ σ (2 * o + 1) = ((ρ (2 * a + 1)).mul (ρ (2 * b + 1))) ∧ (∀ r, (r < 140 ∨ 147 < r ∧ r < 151) → r ≠ 2 * o → r ≠ 2 * o + 1 → σ r = ρ r) := by
    refine ⟨_, h49.1, ?_, ?_, fun r h1 h2 h3 => ?_⟩
    · simp only [up, show ¬ 2 * o = 2 * o + 1 by omega, show ¬ (140 : Nat) = 141 by omega, if_false, if_true]; exact PS.tr_end hl1
    · simp only [up, show ¬ (141 : Nat) = 2 * o by omega, if_false, if_true, show ¬ 2 * a + 1 = 140 by omega, show ¬ 2 * b + 1 = 140 by omega]; exact PS.tr_end hl2
    · simp only [up, h2, h3, show ¬ r = 140 by omega, show ¬ r = 141 by omega, if_false]
  refine v_aload hx DX12_multiplies_52 0 rfl ?_
  refine v_iload hx DX12_multiplies_53 1 rfl ?_
  refine v_cVv hx DX12_multiplies_54 CVRX12_56 [iv (o : Int)] (r_shortens (f := o) l G Λ sz μ19 hR wσ (by omega) (by rw [e2]; exact hD0)) hR.o rfl rfl (Nat.le_of_ble_eq_true rfl) (by decide) ⟨Nat.le_refl _, Nat.le_refl _⟩ (fun μ21 hμ21 => ?_)
  exact v_rv hx hBD DX12_multiplies_57 (by obtain ⟨σ2, g1, g2, g3, g4, g5⟩ := hμ21; rw [e1, e2] at g2 g3; exact ⟨σ2, g1, g2, g3, fun r h1 h2 h3 => (g4 r (by omega) h2 h3).trans (e3 r h1 h2 h3), (((h12.2.trans h27.2).trans (h38.2.mono (by simp))).trans (h49.2.mono (by simp))).trans (g5.mono (by simp))⟩)
theorem r_quotient (l : Launch) (G : Gl) (Λ : Lay) (sz : Nat) (μ : Mem) {ν : Nat} {ρ : Nat → PS} {o a b : Nat} (hR : refK Λ ν) (hw : RW μ ν ρ) (ho : o < 70) (ha : a < 70) (hb : b < 70) (hl1 : ((ρ (2 * a)).mul (ρ (2 * b + 1))).lt 96) (hl2 : ((ρ (2 * a + 1)).mul (ρ (2 * b))).lt 96) (hD0 : ((ρ (2 * a + 1)).mul (ρ (2 * b))) ≠ PS.zero) : Sp l G yX12_quotient cX12_quotient 4 none 5 [.ref ν, iv (o : Int), iv (a : Int), iv (b : Int)] Λ sz μ (pV (fun μ' => ∃ ρ', RW μ' ν ρ' ∧ ρ' (2 * o) = rdN ((ρ (2 * a)).mul (ρ (2 * b + 1))) ((ρ (2 * a + 1)).mul (ρ (2 * b))) ∧ ρ' (2 * o + 1) = rdD ((ρ (2 * a)).mul (ρ (2 * b + 1))) ((ρ (2 * a + 1)).mul (ρ (2 * b))) ∧ (∀ r, (r < 140 ∨ 147 < r ∧ r < 151) → r ≠ 2 * o → r ≠ 2 * o + 1 → ρ' r = ρ r) ∧ Fr [ν + 1, ν + 2] μ μ')) := by
  refine Sp.intro (by decide) (Nat.le_of_ble_eq_true rfl) (fun x hx hBD => ?_)
  refine v_lv [(0, .ref ν), (1, iv (o : Int)), (2, iv (a : Int)), (3, iv (b : Int))] rfl ?_
  refine v_aload hx DX12_quotient_0 0 rfl ?_
  refine v_push hx DX12_quotient_1 ?_
  refine v_iload hx DX12_quotient_4 2 rfl ?_
  refine v_cSp hx DX12_quotient_5 CSRX12_38 [iv (a : Int)] (r_above l G Λ sz μ) rfl rfl (Nat.le_of_ble_eq_true rfl) (by decide) ⟨Nat.le_refl _, Nat.le_refl _⟩ ?_
  refine v_iload hx DX12_quotient_8 3 rfl ?_
  refine v_cSp hx DX12_quotient_9 CSRX12_41 [iv (b : Int)] (r_below l G Λ sz μ) rfl rfl (Nat.le_of_ble_eq_true rfl) (by decide) ⟨Nat.le_refl _, Nat.le_refl _⟩ ?_
  refine v_cVv hx DX12_quotient_12 CVRX12_50 [iv 140, iv ((2 * a : Nat) : Int), iv ((2 * b + 1 : Nat) : Int)] (r_times (s := 140) (a := 2 * a) (b := 2 * b + 1) l G Λ sz μ hR hw (by decide) (by omega) (by omega)) hR.o rfl rfl (Nat.le_of_ble_eq_true rfl) (by decide) ⟨Nat.le_refl _, Nat.le_refl _⟩ (fun μ5 hμ5 => ?_)
  have h12 := hμ5
  refine v_aload hx DX12_quotient_15 0 rfl ?_
  refine v_push hx DX12_quotient_16 ?_
  refine v_iload hx DX12_quotient_19 2 rfl ?_
  refine v_cSp hx DX12_quotient_20 CSRX12_41 [iv (a : Int)] (r_below l G Λ sz μ5) rfl rfl (Nat.le_of_ble_eq_true rfl) (by decide) ⟨Nat.le_refl _, Nat.le_refl _⟩ ?_
  refine v_iload hx DX12_quotient_23 3 rfl ?_
  refine v_cSp hx DX12_quotient_24 CSRX12_38 [iv (b : Int)] (r_above l G Λ sz μ5) rfl rfl (Nat.le_of_ble_eq_true rfl) (by decide) ⟨Nat.le_refl _, Nat.le_refl _⟩ ?_
  refine v_cVv hx DX12_quotient_27 CVRX12_50 [iv 141, iv ((2 * a + 1 : Nat) : Int), iv ((2 * b : Nat) : Int)] (r_times (s := 141) (a := 2 * a + 1) (b := 2 * b) l G Λ sz μ5 hR h12.1 (by decide) (by omega) (by omega)) hR.o rfl rfl (Nat.le_of_ble_eq_true rfl) (by decide) ⟨Nat.le_refl _, Nat.le_refl _⟩ (fun μ11 hμ11 => ?_)
  have h27 := hμ11
  refine v_aload hx DX12_quotient_30 0 rfl ?_
  refine v_iload hx DX12_quotient_31 1 rfl ?_
  refine v_cSp hx DX12_quotient_32 CSRX12_38 [iv (o : Int)] (r_above l G Λ sz μ11) rfl rfl (Nat.le_of_ble_eq_true rfl) (by decide) ⟨Nat.le_refl _, Nat.le_refl _⟩ ?_
  refine v_push hx DX12_quotient_35 ?_
  refine v_cVv hx DX12_quotient_38 CVRX12_27 [iv ((2 * o : Nat) : Int), iv 140] (r_lays (s := 2 * o) (t := 140) l G Λ sz μ11 hR h27.1 (by omega) (by decide)) hR.o rfl rfl (Nat.le_of_ble_eq_true rfl) (by decide) ⟨Nat.le_refl _, Nat.le_refl _⟩ (fun μ15 hμ15 => ?_)
  have h38 := hμ15
  refine v_aload hx DX12_quotient_41 0 rfl ?_
  refine v_iload hx DX12_quotient_42 1 rfl ?_
  refine v_cSp hx DX12_quotient_43 CSRX12_41 [iv (o : Int)] (r_below l G Λ sz μ15) rfl rfl (Nat.le_of_ble_eq_true rfl) (by decide) ⟨Nat.le_refl _, Nat.le_refl _⟩ ?_
  refine v_push hx DX12_quotient_46 ?_
  refine v_cVv hx DX12_quotient_49 CVRX12_27 [iv ((2 * o + 1 : Nat) : Int), iv 141] (r_lays (s := 2 * o + 1) (t := 141) l G Λ sz μ15 hR h38.1 (by omega) (by decide)) hR.o rfl rfl (Nat.le_of_ble_eq_true rfl) (by decide) ⟨Nat.le_refl _, Nat.le_refl _⟩ (fun μ19 hμ19 => ?_)
  have h49 := hμ19
  obtain ⟨σ, wσ, e1, e2, e3⟩ : ∃ σ, RW μ19 ν σ ∧ σ (2 * o) = ((ρ (2 * a)).mul (ρ (2 * b + 1))) ∧ σ (2 * o + 1) = ((ρ (2 * a + 1)).mul (ρ (2 * b))) ∧ (∀ r, (r < 140 ∨ 147 < r ∧ r < 151) → r ≠ 2 * o → r ≠ 2 * o + 1 → σ r = ρ r) := by
    refine ⟨_, h49.1, ?_, ?_, fun r h1 h2 h3 => ?_⟩
    · simp only [up, show ¬ 2 * o = 2 * o + 1 by omega, show ¬ (140 : Nat) = 141 by omega, if_false, if_true]; exact PS.tr_end hl1
    · simp only [up, show ¬ (141 : Nat) = 2 * o by omega, if_false, if_true, show ¬ 2 * a + 1 = 140 by omega, show ¬ 2 * b = 140 by omega]; exact PS.tr_end hl2
    · simp only [up, h2, h3, show ¬ r = 140 by omega, show ¬ r = 141 by omega, if_false]
  refine v_aload hx DX12_quotient_52 0 rfl ?_
  refine v_iload hx DX12_quotient_53 1 rfl ?_
  refine v_cVv hx DX12_quotient_54 CVRX12_56 [iv (o : Int)] (r_shortens (f := o) l G Λ sz μ19 hR wσ (by omega) (by rw [e2]; exact hD0)) hR.o rfl rfl (Nat.le_of_ble_eq_true rfl) (by decide) ⟨Nat.le_refl _, Nat.le_refl _⟩ (fun μ21 hμ21 => ?_)
  exact v_rv hx hBD DX12_quotient_57 (by obtain ⟨σ2, g1, g2, g3, g4, g5⟩ := hμ21; rw [e1, e2] at g2 g3; exact ⟨σ2, g1, g2, g3, fun r h1 h2 h3 => (g4 r (by omega) h2 h3).trans (e3 r h1 h2 h3), (((h12.2.trans h27.2).trans (h38.2.mono (by simp))).trans (h49.2.mono (by simp))).trans (g5.mono (by simp))⟩)
