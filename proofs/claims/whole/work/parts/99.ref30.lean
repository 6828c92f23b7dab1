/-! ===== the reference: nothing over nothing; multiples ===== -/
theorem gcd00 : PS.zero.gcd PS.zero = PS.zero := by
  unfold PS.gcd
  rw [PS.eu_zero]
  unfold PS.mon
  exact PS.ext fun k => by show _ * (0 : F) = 0; grind
/-- of so many u' over u -/
noncomputable def mulI (a d : FP2) : Int := @ite Int (a.1 = PS.zero) (Classical.propDecidable _) 0 (@ite Int (d.1.sm (fi (hdI a.1 * ivI (hdI d.1) % 101)) = a.1 ∧ d.2 = a.2) (Classical.propDecidable _) (hdI a.1 * ivI (hdI d.1) % 101) (-1))
theorem mulI_rng (a d : FP2) : -1 ≤ mulI a d ∧ mulI a d ≤ 100 := by
  unfold mulI
  split
  · omega
  · split <;> omega
theorem r_shortensZ (l : Launch) (G : Gl) (Λ : Lay) (sz : Nat) (μ : Mem) {ν : Nat} {ρ : Nat → PS} {f : Nat} (hR : refK Λ ν) (hw : RW μ ν ρ) (hf : f < 70) (hN0 : ρ (2 * f) = PS.zero) (hD0 : ρ (2 * f + 1) = PS.zero) : Sp l G yX12_shortens cX12_shortens 3 none 4 [.ref ν, iv (f : Int)] Λ sz μ (pV (fun μ' => ∃ ρ', RW μ' ν ρ' ∧ (∀ r, (r < 146 ∨ 147 < r ∧ r < 151) → r ≠ 2 * f → r ≠ 2 * f + 1 → ρ' r = ρ r) ∧ Fr [ν + 1] μ μ')) := by
  refine Sp.intro (by decide) (Nat.le_of_ble_eq_true rfl) (fun x hx hBD => ?_)
  refine v_lv [(0, .ref ν), (1, iv (f : Int))] rfl ?_
  refine v_aload hx DX12_shortens_0 0 rfl ?_
  refine v_push hx DX12_shortens_1 ?_
  refine v_iload hx DX12_shortens_4 1 rfl ?_
  refine v_cSp hx DX12_shortens_5 CSRX12_38 [iv (f : Int)] (r_above (f := f) l G Λ sz μ) rfl rfl (Nat.le_of_ble_eq_true rfl) (by decide) ⟨Nat.le_refl _, Nat.le_refl _⟩ ?_
  refine v_iload hx DX12_shortens_8 1 rfl ?_
  refine v_cSp hx DX12_shortens_9 CSRX12_41 [iv (f : Int)] (r_below (f := f) l G Λ sz μ) rfl rfl (Nat.le_of_ble_eq_true rfl) (by decide) ⟨Nat.le_refl _, Nat.le_refl _⟩ ?_
  refine v_cVv hx DX12_shortens_12 CVRX12_44 [iv 147, iv ((2 * f : Nat) : Int), iv ((2 * f + 1 : Nat) : Int)] (r_common (o := 147) (a := 2 * f) (b := 2 * f + 1) l G Λ sz μ hR hw (by decide) (by omega) (by omega)) hR.o rfl rfl (Nat.le_of_ble_eq_true rfl) (by decide) ⟨Nat.le_refl _, Nat.le_refl _⟩ (fun μ5 hμ5 => ?_)
  obtain ⟨ρ1, w1, k1, k2, f1⟩ := hμ5
  rw [hN0, hD0, gcd00] at k1
  have z0 : (ρ1 147).size = 0 := by rw [k1, PS.zero_sz]
  refine v_aload hx DX12_shortens_15 0 rfl ?_
  refine v_push hx DX12_shortens_16 ?_
  refine v_cVp hx DX12_shortens_19 CVRX12_15 [iv 147] (r_degree (s := 147) l G Λ sz μ5 hR w1 (by decide)) hR.o rfl rfl (Nat.le_of_ble_eq_true rfl) (by decide) ⟨Nat.le_refl _, Nat.le_refl _⟩ ?_
  refine v_if_le hx DX12_shortens_22 (by omega) (fun c22 => ?_) (fun c22 => ?_)
  · skip
    refine v_aload hx DX12_shortens_75 0 rfl ?_
    refine v_iload hx DX12_shortens_76 1 rfl ?_
    refine v_cSp hx DX12_shortens_77 CSRX12_41 [iv (f : Int)] (r_below (f := f) l G Λ sz μ5) rfl rfl (Nat.le_of_ble_eq_true rfl) (by decide) ⟨Nat.le_refl _, Nat.le_refl _⟩ ?_
    refine v_cVp hx DX12_shortens_80 CVRX12_21 [iv ((2 * f + 1 : Nat) : Int)] (r_head (s := 2 * f + 1) l G Λ sz μ5 hR w1 (by omega)) hR.o rfl rfl (Nat.le_of_ble_eq_true rfl) (by decide) ⟨Nat.le_refl _, Nat.le_refl _⟩ ?_
    refine v_cSp hx DX12_shortens_83 CSRX12_24 [iv (hdI (ρ1 (2 * f + 1)))] (r_over l G Λ sz μ5 (hdI_rng _)) rfl rfl (Nat.le_of_ble_eq_true rfl) (by decide) ⟨Nat.le_refl _, Nat.le_refl _⟩ ?_
    have hiv := ivI_rng (hdI (ρ1 (2 * f + 1)))
    refine v_istore hx DX12_shortens_86 [(2, iv (ivI (hdI (ρ1 (2 * f + 1))))), (0, .ref ν), (1, iv (f : Int))] rfl (by decide) ?_
    refine v_aload hx DX12_shortens_87 1 rfl ?_
    refine v_iload hx DX12_shortens_88 2 rfl ?_
    refine v_cSp hx DX12_shortens_89 CSRX12_38 [iv (f : Int)] (r_above (f := f) l G Λ sz μ5) rfl rfl (Nat.le_of_ble_eq_true rfl) (by decide) ⟨Nat.le_refl _, Nat.le_refl _⟩ ?_
    refine v_iload hx DX12_shortens_92 0 rfl ?_
    refine v_cVv hx DX12_shortens_93 CVRX12_35 [iv ((2 * f : Nat) : Int), iv (ivI (hdI (ρ1 (2 * f + 1))))] (r_scale (s := 2 * f) l G Λ sz μ5 hR w1 (by omega) (by omega)) hR.o rfl rfl (Nat.le_of_ble_eq_true rfl) (by decide) ⟨Nat.le_refl _, Nat.le_refl _⟩ (fun μ17 hμ17 => ?_)
    have h93 := hμ17
    refine v_aload hx DX12_shortens_96 1 rfl ?_
    refine v_iload hx DX12_shortens_97 2 rfl ?_
    refine v_cSp hx DX12_shortens_98 CSRX12_41 [iv (f : Int)] (r_below (f := f) l G Λ sz μ17) rfl rfl (Nat.le_of_ble_eq_true rfl) (by decide) ⟨Nat.le_refl _, Nat.le_refl _⟩ ?_
    refine v_iload hx DX12_shortens_101 0 rfl ?_
    refine v_cVv hx DX12_shortens_102 CVRX12_35 [iv ((2 * f + 1 : Nat) : Int), iv (ivI (hdI (ρ1 (2 * f + 1))))] (r_scale (s := 2 * f + 1) l G Λ sz μ17 hR h93.1 (by omega) (by omega)) hR.o rfl rfl (Nat.le_of_ble_eq_true rfl) (by decide) ⟨Nat.le_refl _, Nat.le_refl _⟩ (fun μ21 hμ21 => ?_)
    have h102 := hμ21
    exact v_rv hx hBD DX12_shortens_105 (⟨_, h102.1, fun r h1 h2 h3 => by rw [up_ne h3, up_ne h2]; exact k2 r (by omega) (by omega), (f1.trans h93.2).trans h102.2⟩)
  · exact absurd c22 (by omega)
theorem r_shortensZI (l : Launch) (G : Gl) (Λ : Lay) (sz : Nat) (μ : Mem) {ν : Nat} {ρ : Nat → PS} {t : Int} (hR : refK Λ ν) (hw : RW μ ν ρ) (ht : 0 ≤ t ∧ t < 70) (hN0 : ρ (2 * t.toNat) = PS.zero) (hD0 : ρ (2 * t.toNat + 1) = PS.zero) : Sp l G yX12_shortens cX12_shortens 3 none 4 [.ref ν, iv t] Λ sz μ (pV (fun μ' => ∃ ρ', RW μ' ν ρ' ∧ (∀ r, (r < 146 ∨ 147 < r ∧ r < 151) → r ≠ 2 * t.toNat → r ≠ 2 * t.toNat + 1 → ρ' r = ρ r) ∧ Fr [ν + 1] μ μ')) := by
  have q := r_shortensZ (f := t.toNat) l G Λ sz μ hR hw (by omega) hN0 hD0
  rwa [Int.toNat_of_nonneg ht.1] at q
theorem r_multipliesZ (l : Launch) (G : Gl) (Λ : Lay) (sz : Nat) (μ : Mem) {ν : Nat} {ρ : Nat → PS} {o a b : Int} (hR : refK Λ ν) (hw : RW μ ν ρ) (ho : 0 ≤ o ∧ o < 70) (ha : 0 ≤ a ∧ a < 70) (hb : 0 ≤ b ∧ b < 70) (z1 : ρ (2 * b.toNat) = PS.zero) (z2 : ρ (2 * b.toNat + 1) = PS.zero) : Sp l G yX12_multiplies cX12_multiplies 4 none 5 [.ref ν, iv o, iv a, iv b] Λ sz μ (pV (fun μ' => ∃ ρ', RW μ' ν ρ' ∧ (∀ r : Nat, (r < 140 ∨ 147 < r ∧ r < 151) → r ≠ 2 * o.toNat → r ≠ 2 * o.toNat + 1 → ρ' r = ρ r) ∧ Fr [ν + 1, ν + 2] μ μ')) := by
  refine Sp.intro (by decide) (Nat.le_of_ble_eq_true rfl) (fun x hx hBD => ?_)
  refine v_lv [(0, .ref ν), (1, iv o), (2, iv a), (3, iv b)] rfl ?_
  refine v_aload hx DX12_multiplies_0 0 rfl ?_
  refine v_push hx DX12_multiplies_1 ?_
  refine v_iload hx DX12_multiplies_4 2 rfl ?_
  refine v_cSp hx DX12_multiplies_5 CSRX12_38 [iv a] (r_aboveI (t := a) l G Λ sz μ (by omega)) rfl rfl (Nat.le_of_ble_eq_true rfl) (by decide) ⟨Nat.le_refl _, Nat.le_refl _⟩ ?_
  refine v_iload hx DX12_multiplies_8 3 rfl ?_
  refine v_cSp hx DX12_multiplies_9 CSRX12_38 [iv b] (r_aboveI (t := b) l G Λ sz μ (by omega)) rfl rfl (Nat.le_of_ble_eq_true rfl) (by decide) ⟨Nat.le_refl _, Nat.le_refl _⟩ ?_
  refine v_cVv hx DX12_multiplies_12 CVRX12_50 [iv 140, iv ((2 * a.toNat : Nat) : Int), iv ((2 * b.toNat : Nat) : Int)] (r_times (s := 140) (a := 2 * a.toNat) (b := 2 * b.toNat) l G Λ sz μ hR hw (by decide) (by omega) (by omega)) hR.o rfl rfl (Nat.le_of_ble_eq_true rfl) (by decide) ⟨Nat.le_refl _, Nat.le_refl _⟩ (fun μ5 hμ5 => ?_)
  obtain ⟨σ1, w1, a1, k1⟩ := RW.abs2 (B := PS.zero) hμ5.1 (by rw [z1, PS.mul_comm, PS.zero_mul]) (PS.zero_lt _)
  have f1 := hμ5.2
  refine v_aload hx DX12_multiplies_15 0 rfl ?_
  refine v_push hx DX12_multiplies_16 ?_
  refine v_iload hx DX12_multiplies_19 2 rfl ?_
  refine v_cSp hx DX12_multiplies_20 CSRX12_41 [iv a] (r_belowI (t := a) l G Λ sz μ5 (by omega)) rfl rfl (Nat.le_of_ble_eq_true rfl) (by decide) ⟨Nat.le_refl _, Nat.le_refl _⟩ ?_
  refine v_iload hx DX12_multiplies_23 3 rfl ?_
  refine v_cSp hx DX12_multiplies_24 CSRX12_41 [iv b] (r_belowI (t := b) l G Λ sz μ5 (by omega)) rfl rfl (Nat.le_of_ble_eq_true rfl) (by decide) ⟨Nat.le_refl _, Nat.le_refl _⟩ ?_
  refine v_cVv hx DX12_multiplies_27 CVRX12_50 [iv 141, iv ((2 * a.toNat + 1 : Nat) : Int), iv ((2 * b.toNat + 1 : Nat) : Int)] (r_times (s := 141) (a := 2 * a.toNat + 1) (b := 2 * b.toNat + 1) l G Λ sz μ5 hR w1 (by decide) (by omega) (by omega)) hR.o rfl rfl (Nat.le_of_ble_eq_true rfl) (by decide) ⟨Nat.le_refl _, Nat.le_refl _⟩ (fun μ11 hμ11 => ?_)
  obtain ⟨σ2, w2, a2, k2⟩ := RW.abs2 (B := PS.zero) hμ11.1 (by rw [k1 (2 * b.toNat + 1) (by omega), z2, PS.mul_comm, PS.zero_mul]) (PS.zero_lt _)
  have f2 := hμ11.2
  refine v_aload hx DX12_multiplies_30 0 rfl ?_
  refine v_iload hx DX12_multiplies_31 1 rfl ?_
  refine v_cSp hx DX12_multiplies_32 CSRX12_38 [iv o] (r_aboveI (t := o) l G Λ sz μ11 (by omega)) rfl rfl (Nat.le_of_ble_eq_true rfl) (by decide) ⟨Nat.le_refl _, Nat.le_refl _⟩ ?_
  refine v_push hx DX12_multiplies_35 ?_
  refine v_cVv hx DX12_multiplies_38 CVRX12_27 [iv ((2 * o.toNat : Nat) : Int), iv 140] (r_lays (s := 2 * o.toNat) (t := 140) l G Λ sz μ11 hR w2 (by omega) (by decide)) hR.o rfl rfl (Nat.le_of_ble_eq_true rfl) (by decide) ⟨Nat.le_refl _, Nat.le_refl _⟩ (fun μ15 hμ15 => ?_)
  obtain ⟨σ3, w3, a3, k3⟩ := RW.abs hμ15.1
  have f3 := hμ15.2
  refine v_aload hx DX12_multiplies_41 0 rfl ?_
  refine v_iload hx DX12_multiplies_42 1 rfl ?_
  refine v_cSp hx DX12_multiplies_43 CSRX12_41 [iv o] (r_belowI (t := o) l G Λ sz μ15 (by omega)) rfl rfl (Nat.le_of_ble_eq_true rfl) (by decide) ⟨Nat.le_refl _, Nat.le_refl _⟩ ?_
  refine v_push hx DX12_multiplies_46 ?_
  refine v_cVv hx DX12_multiplies_49 CVRX12_27 [iv ((2 * o.toNat + 1 : Nat) : Int), iv 141] (r_lays (s := 2 * o.toNat + 1) (t := 141) l G Λ sz μ15 hR w3 (by omega) (by decide)) hR.o rfl rfl (Nat.le_of_ble_eq_true rfl) (by decide) ⟨Nat.le_refl _, Nat.le_refl _⟩ (fun μ19 hμ19 => ?_)
  obtain ⟨σ4, w4, a4, k4⟩ := RW.abs hμ19.1
  have f4 := hμ19.2
  refine v_aload hx DX12_multiplies_52 0 rfl ?_
  refine v_iload hx DX12_multiplies_53 1 rfl ?_
  refine v_cVv hx DX12_multiplies_54 CVRX12_56 [iv o] (r_shortensZI (t := o) l G Λ sz μ19 hR w4 (by omega) (by rw [k4 _ (by omega), a3, k2 140 (by omega), a1]) (by rw [a4, k3 141 (by omega), a2])) hR.o rfl rfl (Nat.le_of_ble_eq_true rfl) (by decide) ⟨Nat.le_refl _, Nat.le_refl _⟩ (fun μ21 hμ21 => ?_)
  obtain ⟨σ5, w5, k5, f5⟩ := hμ21
  exact v_rv hx hBD DX12_multiplies_57 (⟨σ5, w5, fun r h1 h2 h3 => (k5 r (by omega) h2 h3).trans ((k4 r h3).trans ((k3 r h2).trans ((k2 r (by omega)).trans (k1 r (by omega))))), (((f1.trans f2).trans (f3.mono (by simp))).trans (f4.mono (by simp))).trans (f5.mono (by simp))⟩)
theorem r_isSameF (l : Launch) (G : Gl) (Λ : Lay) (sz : Nat) (μ : Mem) {ν : Nat} {ρ : Nat → PS} {t : Int} {A B : FP2} (hR : refK Λ ν) (hw : RW μ ν ρ) (ht : 0 ≤ t ∧ t < 77) (hB : RFI ρ 60 B) (hA : RFI ρ t A) : Sp l G yX12_isSame cX12_isSame 5 (some FieldType.boolean) 1 [.ref ν, iv 60, iv t] Λ sz μ (pP μ (bz (B.1 = A.1 ∧ B.2 = A.2))) := by
  have q := r_isSame (f := 60) (g := t.toNat) l G Λ sz μ hR hw (by decide) (by omega)
  rw [Int.toNat_of_nonneg ht.1, hA.1, hA.2, show ρ (2 * 60) = B.1 from hB.1, show ρ (2 * 60 + 1) = B.2 from hB.2] at q
  exact q
theorem r_multiple (l : Launch) (G : Gl) (Λ : Lay) (sz : Nat) (μ : Mem) {ν : Nat} {ρ : Nat → PS} {t : Int} {A B : FP2} (hR : refK Λ ν) (hw : RW μ ν ρ) (ht : 0 ≤ t ∧ t < 60) (hA : RFI ρ t A) (hB : RFI ρ 15 B) : Sp l G yX12_multiple cX12_multiple 3 (some FieldType.int) 2 [.ref ν, iv t] Λ sz μ (pI (fun z μ' => z = mulI A B ∧ ∃ σ, RW μ' ν σ ∧ (∀ r : Nat, r ≠ 120 → r ≠ 121 → σ r = ρ r) ∧ Fr [ν + 1] μ μ')) := by
  refine Sp.intro (by decide) (Nat.le_of_ble_eq_true rfl) (fun x hx hBD => ?_)
  refine v_lv [(0, .ref ν), (1, iv t)] rfl ?_
  have h1 := hdI_rng A.1
  have h2 := hdI_rng B.1
  have h3 := ivI_rng (hdI B.1)
  have mb := mulb (a := hdI A.1) (b := ivI (hdI B.1)) (B := 100) h1.1 h1.2 h3.1 h3.2
  refine v_aload hx DX12_multiple_0 0 rfl ?_
  refine v_iload hx DX12_multiple_1 1 rfl ?_
  refine v_cVp hx DX12_multiple_2 CVRX12_186 [iv t] (r_isNoughtF l G Λ sz μ hR hw (by omega) hA) hR.o rfl rfl (Nat.le_of_ble_eq_true rfl) (by decide) ⟨Nat.le_refl _, Nat.le_refl _⟩ ?_
  have br2 := bz_rng (A.1 = PS.zero)
  refine v_if_eq hx DX12_multiple_5 (by omega) (fun c5 => ?_) (fun c5 => ?_)
  · skip
    have d5 := bzf c5
    refine v_aload hx DX12_multiple_10 0 rfl ?_
    refine v_iload hx DX12_multiple_11 1 rfl ?_
    refine v_cSp hx DX12_multiple_12 CSRX12_38 [iv t] (r_aboveI (t := t) l G Λ sz μ (by omega)) rfl rfl (Nat.le_of_ble_eq_true rfl) (by decide) ⟨Nat.le_refl _, Nat.le_refl _⟩ ?_
    refine v_cVp hx DX12_multiple_15 CVRX12_21 [iv ((2 * t.toNat : Nat) : Int)] (r_head (s := 2 * t.toNat) l G Λ sz μ hR hw (by omega)) hR.o rfl rfl (Nat.le_of_ble_eq_true rfl) (by decide) ⟨Nat.le_refl _, Nat.le_refl _⟩ ?_
    rw [hA.1]
    refine v_aload hx DX12_multiple_18 0 rfl ?_
    refine v_push hx DX12_multiple_19 ?_
    refine v_cSp hx DX12_multiple_21 CSRX12_38 [iv 15] (r_above (f := 15) l G Λ sz μ) rfl rfl (Nat.le_of_ble_eq_true rfl) (by decide) ⟨Nat.le_refl _, Nat.le_refl _⟩ ?_
    refine v_cVp hx DX12_multiple_24 CVRX12_21 [iv ((2 * 15 : Nat) : Int)] (r_head (s := 30) l G Λ sz μ hR hw (by decide)) hR.o rfl rfl (Nat.le_of_ble_eq_true rfl) (by decide) ⟨Nat.le_refl _, Nat.le_refl _⟩ ?_
    rw [show ρ 30 = B.1 from hB.1]
    refine v_cSp hx DX12_multiple_27 CSRX12_24 [iv (hdI B.1)] (r_over l G Λ sz μ h2) rfl rfl (Nat.le_of_ble_eq_true rfl) (by decide) ⟨Nat.le_refl _, Nat.le_refl _⟩ ?_
    refine v_imul hx DX12_multiple_30 ?_
    refine v_push hx DX12_multiple_31 ?_
    refine v_irem hx (by omega) (by decide) DX12_multiple_33 ?_
    refine v_istore hx DX12_multiple_34 [(2, iv (((hdI A.1) * (ivI (hdI B.1))) % 101)), (0, .ref ν), (1, iv t)] rfl (by decide) ?_
    refine v_aload hx DX12_multiple_35 1 rfl ?_
    refine v_push hx DX12_multiple_36 ?_
    refine v_push hx DX12_multiple_38 ?_
    refine v_cVv hx DX12_multiple_40 CVRX12_217 [iv 60, iv 15] (r_takesF (o := 60) (a := 15) (A := B) l G Λ sz μ hR hw (by omega) (by omega) hB) hR.o rfl rfl (Nat.le_of_ble_eq_true rfl) (by decide) ⟨Nat.le_refl _, Nat.le_refl _⟩ (fun μ13 hμ13 => ?_)
    have h40 := hμ13
    refine v_aload hx DX12_multiple_43 1 rfl ?_
    refine v_push hx DX12_multiple_44 ?_
    refine v_cSp hx DX12_multiple_46 CSRX12_38 [iv 60] (r_above (f := 60) l G Λ sz μ13) rfl rfl (Nat.le_of_ble_eq_true rfl) (by decide) ⟨Nat.le_refl _, Nat.le_refl _⟩ ?_
    refine v_iload hx DX12_multiple_49 0 rfl ?_
    refine v_cVv hx DX12_multiple_50 CVRX12_35 [iv ((2 * 60 : Nat) : Int), iv (((hdI A.1) * (ivI (hdI B.1))) % 101)] (r_scale (s := 120) l G Λ sz μ13 hR h40.1 (by decide) (by omega)) hR.o rfl rfl (Nat.le_of_ble_eq_true rfl) (by decide) ⟨Nat.le_refl _, Nat.le_refl _⟩ (fun μ17 hμ17 => ?_)
    have h50 := hμ17
    obtain ⟨σ, wσ, x1, x2, x3⟩ : ∃ σ, RW μ17 ν σ ∧ σ 120 = B.1.sm (fi (hdI A.1 * ivI (hdI B.1) % 101)) ∧ σ 121 = B.2 ∧ (∀ r : Nat, r ≠ 120 → r ≠ 121 → σ r = ρ r) := by
      refine ⟨_, h50.1, ?_, ?_, fun r g1 g2 => ?_⟩
      · rw [up_at]; show (up (up ρ 120 B.1) 121 B.2 120).sm _ = _; rw [up_ne (by omega), up_at]
      · rw [up_ne (by omega)]; exact up_at
      · rw [up_ne g1]; show up (up ρ 120 B.1) 121 B.2 r = _; rw [up_ne g2, up_ne g1]
    refine v_aload hx DX12_multiple_53 1 rfl ?_
    refine v_push hx DX12_multiple_54 ?_
    refine v_iload hx DX12_multiple_56 2 rfl ?_
    refine v_cVp hx DX12_multiple_57 CVRX12_190 [iv 60, iv t] (r_isSameF (t := t) (A := A) (B := (B.1.sm (fi (hdI A.1 * ivI (hdI B.1) % 101)), B.2)) l G Λ sz μ17 hR wσ (by omega) ⟨x1, x2⟩ ⟨(x3 _ (by omega) (by omega)).trans hA.1, (x3 _ (by omega) (by omega)).trans hA.2⟩) hR.o rfl rfl (Nat.le_of_ble_eq_true rfl) (by decide) ⟨Nat.le_refl _, Nat.le_refl _⟩ ?_
    dsimp only
    have br57 := bz_rng (B.1.sm (fi (hdI A.1 * ivI (hdI B.1) % 101)) = A.1 ∧ B.2 = A.2)
    refine v_if_eq hx DX12_multiple_60 (by omega) (fun c60 => ?_) (fun c60 => ?_)
    · skip
      have d60 := bzf c60
      have e0 : (-1 : Int) = mulI A B := by unfold mulI; rw [if_neg d5, if_neg d60]
      refine v_push hx DX12_multiple_67 ?_
      exact v_ri hx hBD DX12_multiple_68 (⟨e0, σ, wσ, x3, h40.2.trans h50.2⟩)
    · skip
      have d60 := bzt c60
      have e0 : hdI A.1 * ivI (hdI B.1) % 101 = mulI A B := by unfold mulI; rw [if_neg d5, if_pos d60]
      refine v_iload hx DX12_multiple_63 0 rfl ?_
      refine v_goto hx DX12_multiple_64 ?_
      exact v_ri hx hBD DX12_multiple_68 (⟨e0, σ, wσ, x3, h40.2.trans h50.2⟩)
  · skip
    have d5 := bzt c5
    have e0 : (0 : Int) = mulI A B := by unfold mulI; rw [if_pos d5]
    refine v_push hx DX12_multiple_8 ?_
    exact v_ri hx hBD DX12_multiple_9 (⟨e0, ρ, hw, fun r _ _ => rfl, Fr.rf⟩)
