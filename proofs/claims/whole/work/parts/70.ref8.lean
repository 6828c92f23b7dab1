theorem sh_any {N D : PS} (hN : N.lt 96) (hD : D.lt 96) (hD0 : D ≠ PS.zero) : (shA N D).sm (finv (fi (hdI (shB N D)))) = rdN N D ∧ (shB N D).sm (finv (fi (hdI (shB N D)))) = rdD N D := by
  by_cases e : N = PS.zero
  · obtain ⟨m, -, -, hz⟩ := PS.ne_zero_isz hD hD0
    rw [e]; exact sh_zero hz
  · exact sh_ne hN hD (by omega) e hD0
theorem r_shortens (l : Launch) (G : Gl) (Λ : Lay) (sz : Nat) (μ : Mem) {ν : Nat} {ρ : Nat → PS} {f : Nat} (hR : refK Λ ν) (hw : RW μ ν ρ) (hf : f < 70) (hD0 : (ρ (2 * f + 1)) ≠ PS.zero) : Sp l G yX12_shortens cX12_shortens 3 none 4 [.ref ν, iv (f : Int)] Λ sz μ (pV (fun μ' => ∃ ρ', RW μ' ν ρ' ∧ ρ' (2 * f) = rdN (ρ (2 * f)) (ρ (2 * f + 1)) ∧ ρ' (2 * f + 1) = rdD (ρ (2 * f)) (ρ (2 * f + 1)) ∧ (∀ r, (r < 146 ∨ 147 < r ∧ r < 151) → r ≠ 2 * f → r ≠ 2 * f + 1 → ρ' r = ρ r) ∧ Fr [ν + 1] μ μ')) := by
  refine Sp.intro (by decide) (Nat.le_of_ble_eq_true rfl) (fun x hx hBD => ?_)
  refine v_lv [(0, .ref ν), (1, iv (f : Int))] rfl ?_
  have l1 := (hw (2 * f) (by omega)).1
  have l2 := (hw (2 * f + 1) (by omega)).1
  have L75 : ∀ (ρk : Nat → PS) (m : Mem), (RW m ν ρk) → (ρk (2 * f) = shA (ρ (2 * f)) (ρ (2 * f + 1))) → (ρk (2 * f + 1) = shB (ρ (2 * f)) (ρ (2 * f + 1))) → (∀ r, (r < 146 ∨ 147 < r ∧ r < 151) → r ≠ 2 * f → r ≠ 2 * f + 1 → ρk r = ρ r) → (Fr [ν + 1] μ m) → V G x (0, 0) Λ sz m 75 [(0, .ref ν), (1, iv (f : Int))] [] := by
    intro ρk m hm eA eB hr hfr
    refine v_aload hx DX12_shortens_75 0 rfl ?_
    refine v_iload hx DX12_shortens_76 1 rfl ?_
    refine v_cSp hx DX12_shortens_77 CSRX12_41 [iv (f : Int)] (r_below l G Λ sz m) rfl rfl (Nat.le_of_ble_eq_true rfl) (by decide) ⟨Nat.le_refl _, Nat.le_refl _⟩ ?_
    refine v_cVp hx DX12_shortens_80 CVRX12_21 [iv ((2 * f + 1 : Nat) : Int)] (r_head (s := 2 * f + 1) l G Λ sz m hR hm (by omega)) hR.o rfl rfl (Nat.le_of_ble_eq_true rfl) (by decide) ⟨Nat.le_refl _, Nat.le_refl _⟩ ?_
    refine v_cSp hx DX12_shortens_83 CSRX12_24 [iv (hdI (ρk (2 * f + 1)))] (r_over l G Λ sz m (hdI_rng _)) rfl rfl (Nat.le_of_ble_eq_true rfl) (by decide) ⟨Nat.le_refl _, Nat.le_refl _⟩ ?_
    have hiv := ivI_rng (hdI (ρk (2 * f + 1)))
    refine v_istore hx DX12_shortens_86 [(2, iv (ivI (hdI (ρk (2 * f + 1))))), (0, .ref ν), (1, iv (f : Int))] rfl (by decide) ?_
    refine v_aload hx DX12_shortens_87 1 rfl ?_
    refine v_iload hx DX12_shortens_88 2 rfl ?_
    refine v_cSp hx DX12_shortens_89 CSRX12_38 [iv (f : Int)] (r_above l G Λ sz m) rfl rfl (Nat.le_of_ble_eq_true rfl) (by decide) ⟨Nat.le_refl _, Nat.le_refl _⟩ ?_
    refine v_iload hx DX12_shortens_92 0 rfl ?_
    refine v_cVv hx DX12_shortens_93 CVRX12_35 [iv ((2 * f : Nat) : Int), iv (ivI (hdI (ρk (2 * f + 1))))] (r_scale (s := 2 * f) l G Λ sz m hR hm (by omega) (by omega)) hR.o rfl rfl (Nat.le_of_ble_eq_true rfl) (by decide) ⟨Nat.le_refl _, Nat.le_refl _⟩ (fun μ9 hμ9 => ?_)
    have h93 := hμ9
    refine v_aload hx DX12_shortens_96 1 rfl ?_
    refine v_iload hx DX12_shortens_97 2 rfl ?_
    refine v_cSp hx DX12_shortens_98 CSRX12_41 [iv (f : Int)] (r_below l G Λ sz μ9) rfl rfl (Nat.le_of_ble_eq_true rfl) (by decide) ⟨Nat.le_refl _, Nat.le_refl _⟩ ?_
    refine v_iload hx DX12_shortens_101 0 rfl ?_
    refine v_cVv hx DX12_shortens_102 CVRX12_35 [iv ((2 * f + 1 : Nat) : Int), iv (ivI (hdI (ρk (2 * f + 1))))] (r_scale (s := 2 * f + 1) l G Λ sz μ9 hR h93.1 (by omega) (by omega)) hR.o rfl rfl (Nat.le_of_ble_eq_true rfl) (by decide) ⟨Nat.le_refl _, Nat.le_refl _⟩ (fun μ13 hμ13 => ?_)
    have h102 := hμ13
    exact v_rv hx hBD DX12_shortens_105 (⟨_, h102.1, by rw [up_ne (by omega), up_at, eA, eB, fi_ivI]; exact (sh_any l1 l2 hD0).1, by rw [up_at, up_ne (show 2 * f + 1 ≠ 2 * f by omega), eB, fi_ivI]; exact (sh_any l1 l2 hD0).2, fun r h1 h2 h3 => by rw [up_ne h3, up_ne h2]; exact hr r h1 h2 h3, (hfr.trans h93.2).trans h102.2⟩)
  refine v_aload hx DX12_shortens_0 0 rfl ?_
  refine v_push hx DX12_shortens_1 ?_
  refine v_iload hx DX12_shortens_4 1 rfl ?_
  refine v_cSp hx DX12_shortens_5 CSRX12_38 [iv (f : Int)] (r_above l G Λ sz μ) rfl rfl (Nat.le_of_ble_eq_true rfl) (by decide) ⟨Nat.le_refl _, Nat.le_refl _⟩ ?_
  refine v_iload hx DX12_shortens_8 1 rfl ?_
  refine v_cSp hx DX12_shortens_9 CSRX12_41 [iv (f : Int)] (r_below l G Λ sz μ) rfl rfl (Nat.le_of_ble_eq_true rfl) (by decide) ⟨Nat.le_refl _, Nat.le_refl _⟩ ?_
  refine v_cVv hx DX12_shortens_12 CVRX12_44 [iv 147, iv ((2 * f : Nat) : Int), iv ((2 * f + 1 : Nat) : Int)] (r_common (o := 147) (a := 2 * f) (b := 2 * f + 1) l G Λ sz μ hR hw (by decide) (by omega) (by omega)) hR.o rfl rfl (Nat.le_of_ble_eq_true rfl) (by decide) ⟨Nat.le_refl _, Nat.le_refl _⟩ (fun μ19 hμ19 => ?_)
  obtain ⟨ρ1, w1, k1, k2, f1⟩ := hμ19
  have zg := PS.size_le (w1 147 (by decide)).1
  refine v_aload hx DX12_shortens_15 0 rfl ?_
  refine v_push hx DX12_shortens_16 ?_
  refine v_cVp hx DX12_shortens_19 CVRX12_15 [iv 147] (r_degree (s := 147) l G Λ sz μ19 hR w1 (by decide)) hR.o rfl rfl (Nat.le_of_ble_eq_true rfl) (by decide) ⟨Nat.le_refl _, Nat.le_refl _⟩ ?_
  refine v_if_le hx DX12_shortens_22 (by omega) (fun c22 => ?_) (fun c22 => ?_)
  · skip
    exact v_sub [0, 1] _ rfl (L75 ρ1 μ19 w1 (by rw [k2 _ (by omega) (by omega)]; unfold shA; rw [if_neg (by rw [← k1]; omega)]) (by rw [k2 _ (by omega) (by omega)]; unfold shB; rw [if_neg (by rw [← k1]; omega)]) (fun r h1 h2 h3 => k2 r (by omega) (by omega)) f1)
  · skip
    have hg0 : ρ1 147 ≠ PS.zero := fun e => by rw [e, PS.size_zero] at c22; omega
    refine v_aload hx DX12_shortens_25 0 rfl ?_
    refine v_push hx DX12_shortens_26 ?_
    refine v_iload hx DX12_shortens_29 1 rfl ?_
    refine v_cSp hx DX12_shortens_30 CSRX12_38 [iv (f : Int)] (r_above l G Λ sz μ19) rfl rfl (Nat.le_of_ble_eq_true rfl) (by decide) ⟨Nat.le_refl _, Nat.le_refl _⟩ ?_
    refine v_push hx DX12_shortens_33 ?_
    refine v_cVv hx DX12_shortens_36 CVRX12_31 [iv 146, iv ((2 * f : Nat) : Int), iv 147] (r_divides (o := 146) (s := 2 * f) (y := 147) l G Λ sz μ19 hR w1 (by decide) (by omega) (by decide) (by omega) (by decide) (by omega) hg0) hR.o rfl rfl (Nat.le_of_ble_eq_true rfl) (by decide) ⟨Nat.le_refl _, Nat.le_refl _⟩ (fun μ25 hμ25 => ?_)
    have h36 := hμ25
    refine v_aload hx DX12_shortens_39 0 rfl ?_
    refine v_iload hx DX12_shortens_40 1 rfl ?_
    refine v_cSp hx DX12_shortens_41 CSRX12_38 [iv (f : Int)] (r_above l G Λ sz μ25) rfl rfl (Nat.le_of_ble_eq_true rfl) (by decide) ⟨Nat.le_refl _, Nat.le_refl _⟩ ?_
    refine v_push hx DX12_shortens_44 ?_
    refine v_cVv hx DX12_shortens_47 CVRX12_27 [iv ((2 * f : Nat) : Int), iv 146] (r_lays (s := 2 * f) (t := 146) l G Λ sz μ25 hR h36.1 (by omega) (by decide)) hR.o rfl rfl (Nat.le_of_ble_eq_true rfl) (by decide) ⟨Nat.le_refl _, Nat.le_refl _⟩ (fun μ29 hμ29 => ?_)
    have h47 := hμ29
    refine v_aload hx DX12_shortens_50 0 rfl ?_
    refine v_push hx DX12_shortens_51 ?_
    refine v_iload hx DX12_shortens_54 1 rfl ?_
    refine v_cSp hx DX12_shortens_55 CSRX12_41 [iv (f : Int)] (r_below l G Λ sz μ29) rfl rfl (Nat.le_of_ble_eq_true rfl) (by decide) ⟨Nat.le_refl _, Nat.le_refl _⟩ ?_
    refine v_push hx DX12_shortens_58 ?_
    refine v_cVv hx DX12_shortens_61 CVRX12_31 [iv 146, iv ((2 * f + 1 : Nat) : Int), iv 147] (r_divides (o := 146) (s := 2 * f + 1) (y := 147) l G Λ sz μ29 hR h47.1 (by decide) (by omega) (by decide) (by omega) (by decide) (by omega) (by simp only [up, show ¬ (147 : Nat) = 2 * f by omega, show ¬ (147 : Nat) = 146 by omega, if_false]; exact hg0)) hR.o rfl rfl (Nat.le_of_ble_eq_true rfl) (by decide) ⟨Nat.le_refl _, Nat.le_refl _⟩ (fun μ33 hμ33 => ?_)
    have h61 := hμ33
    refine v_aload hx DX12_shortens_64 0 rfl ?_
    refine v_iload hx DX12_shortens_65 1 rfl ?_
    refine v_cSp hx DX12_shortens_66 CSRX12_41 [iv (f : Int)] (r_below l G Λ sz μ33) rfl rfl (Nat.le_of_ble_eq_true rfl) (by decide) ⟨Nat.le_refl _, Nat.le_refl _⟩ ?_
    refine v_push hx DX12_shortens_69 ?_
    refine v_cVv hx DX12_shortens_72 CVRX12_27 [iv ((2 * f + 1 : Nat) : Int), iv 146] (r_lays (s := 2 * f + 1) (t := 146) l G Λ sz μ33 hR h61.1 (by omega) (by decide)) hR.o rfl rfl (Nat.le_of_ble_eq_true rfl) (by decide) ⟨Nat.le_refl _, Nat.le_refl _⟩ (fun μ37 hμ37 => ?_)
    have h72 := hμ37
    exact v_sub [0, 1] _ rfl (L75 _ μ37 h72.1 (by rw [up_ne (show 2 * f ≠ 2 * f + 1 by omega), up_ne (show 2 * f ≠ 2 * f + 1 by omega), up_ne (show 2 * f ≠ 146 by omega), up_at, up_ne (show 146 ≠ 2 * f by omega), up_at, k1, k2 _ (by omega) (by omega)]; unfold shA; rw [if_pos (by rw [← k1]; omega)]) (by rw [up_at, up_ne (show 146 ≠ 2 * f + 1 by omega), up_at]; simp only [up, show ¬ (147 : Nat) = 2 * f by omega, show ¬ (147 : Nat) = 146 by omega, show ¬ 2 * f + 1 = 2 * f by omega, show ¬ 2 * f + 1 = 146 by omega, if_false]; rw [k1, k2 _ (by omega) (by omega)]; unfold shB; rw [if_pos (by rw [← k1]; omega)]) (fun r h1 h2 h3 => by simp only [up, h2, h3, show ¬ r = 146 by omega, if_false]; exact k2 r (by omega) (by omega)) ((((f1.trans h36.2).trans h47.2).trans h61.2).trans h72.2))
