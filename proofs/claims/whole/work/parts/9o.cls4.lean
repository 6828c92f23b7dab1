noncomputable def cstI (kd : Int) (N D u s : PS) : Int := if kd = 2 then ratI (N.mul u) (D.mul s) else ratI N PS.zero
theorem c_constant (l : Launch) (G : Gl) (Λ : Lay) (sz : Nat) (μ : Mem) {π : Nat → PS} {p κ σ : Nat} {i kd : Int} (hA : AB Λ μ π) (hI : INV G Λ) (hK : kitK Λ κ) (hP : partK Λ p κ σ) (hi : -2 ≤ i ∧ i ≤ 2) (hkd : μ.1 p 13 = kd ∧ 0 ≤ kd ∧ kd ≤ 2) (hord : κ + 16 < p) (h1 : kd = 2 → (π ((p + 56 + 5 * (i + 2).toNat) + 1)).size + (π (p + 13)).size ≤ 49) (h2 : kd = 2 → (π ((p + 56 + 5 * (i + 2).toNat) + 3)).size + (π (p + 15)).size ≤ 49) : Sp l G yX4_constant cX4_constant 2 (some FieldType.int) 3 [.ref p, iv i] Λ sz μ (pI (fun z μ' => z = cstI kd (π ((p + 56 + 5 * (i + 2).toNat) + 1)) (π ((p + 56 + 5 * (i + 2).toNat) + 3)) (π (p + 13)) (π (p + 15)) ∧ ∃ π', Chg Λ (fun c => c = p + 17 ∨ c = p + 21) μ μ' π π')) := by
  refine Sp.intro (by decide) (Nat.le_of_ble_eq_true rfl) (fun x hx hBD => ?_)
  refine v_lv [(0, .ref p), (1, iv i)] rfl ?_
  have hRt := hP.2.2.2.2.2.2.2 (i + 2).toNat (by omega)
  have hoff := hP.off
  have hch0 : Chg Λ (fun c => c = p + 17 ∨ c = p + 21) μ μ π π := Chg.rf hA
  refine v_aload hx DX4_constant_0 0 rfl ?_
  refine v_get hx DX4_constant_1 FLRX4_38 hP.1 (v := .ref (p + 17)) rfl ?_
  refine v_aload hx DX4_constant_4 0 rfl ?_
  refine v_iload hx DX4_constant_5 1 rfl ?_
  refine v_cVr hx DX4_constant_6 CVRX4_144 [iv i] (c_rest l G Λ sz μ hP hi) hP.1 rfl rfl (Nat.le_of_ble_eq_true rfl) (by decide) ⟨Nat.le_refl _, Nat.le_refl _⟩ (fun z2 μ1 hμ1 => ?_)
  obtain ⟨ea, em⟩ := hμ1
  rw [ea, em]
  refine v_get hx DX4_constant_9 FLRX4_82 hRt.1 (v := .ref ((p + 56 + 5 * (i + 2).toNat) + 1)) rfl ?_
  refine v_cVv hx DX4_constant_12 CVRX4_138 [.ref ((p + 56 + 5 * (i + 2).toNat) + 1)] (s_become l G Λ sz μ hP.2.2.2.2.2.1.2.2.1 hRt.2.1 (by omega) (AB.get (A := π (p + 17)) hA hP.2.2.2.2.2.1.2.2.1 rfl) (AB.get (A := π ((p + 56 + 5 * (i + 2).toNat) + 1)) hA hRt.2.1 rfl)) hP.2.2.2.2.2.1.2.2.1.1 rfl rfl (Nat.le_of_ble_eq_true rfl) (by decide) ⟨Nat.le_refl _, Nat.le_refl _⟩ (fun μ3 hμ3 => ?_)
  obtain ⟨π3, hc3, he3, ho3⟩ := Chg.one (S := fun c => c = p + 17 ∨ c = p + 21) (R := π ((p + 56 + 5 * (i + 2).toNat) + 1)) hA hP.2.2.2.2.2.1.2.2.1 (by first | omega | (dsimp only; omega)) hμ3
  have hA3 := hc3.1
  have hch3 := hch0.trans hc3
  have v3_0 : π3 ((p + 56 + 5 * (i + 2).toNat) + 1) = π ((p + 56 + 5 * (i + 2).toNat) + 1) := (ho3 ((p + 56 + 5 * (i + 2).toNat) + 1) (by omega)).trans rfl
  have v3_1 : π3 ((p + 56 + 5 * (i + 2).toNat) + 3) = π ((p + 56 + 5 * (i + 2).toNat) + 3) := (ho3 ((p + 56 + 5 * (i + 2).toNat) + 3) (by omega)).trans rfl
  have v3_2 : π3 (p + 15) = π (p + 15) := (ho3 (p + 15) (by omega)).trans rfl
  have v3_3 : π3 (p + 13) = π (p + 13) := (ho3 (p + 13) (by omega)).trans rfl
  refine v_aload hx DX4_constant_15 0 rfl ?_
  refine v_get hx DX4_constant_16 FLRX4_44 hP.1 (v := .ref (p + 21)) rfl ?_
  refine v_cVv hx DX4_constant_19 CVRX4_141 [] (s_clear l G Λ sz μ3 hP.2.2.2.2.2.1.2.2.2.2.1 (AB.get (A := π3 (p + 21)) hA3 hP.2.2.2.2.2.1.2.2.2.2.1 rfl)) hP.2.2.2.2.2.1.2.2.2.2.1.1 rfl rfl (Nat.le_of_ble_eq_true rfl) (by decide) ⟨Nat.le_refl _, Nat.le_refl _⟩ (fun μ4 hμ4 => ?_)
  obtain ⟨π4, hc4, he4, ho4⟩ := Chg.one (S := fun c => c = p + 17 ∨ c = p + 21) (R := PS.zero) hA3 hP.2.2.2.2.2.1.2.2.2.2.1 (by first | omega | (dsimp only; omega)) hμ4
  have hA4 := hc4.1
  have hch4 := hch3.trans hc4
  have v4_0 : π4 ((p + 56 + 5 * (i + 2).toNat) + 1) = π ((p + 56 + 5 * (i + 2).toNat) + 1) := (ho4 ((p + 56 + 5 * (i + 2).toNat) + 1) (by omega)).trans v3_0
  have v4_1 : π4 ((p + 56 + 5 * (i + 2).toNat) + 3) = π ((p + 56 + 5 * (i + 2).toNat) + 3) := (ho4 ((p + 56 + 5 * (i + 2).toNat) + 3) (by omega)).trans v3_1
  have v4_2 : π4 (p + 15) = π (p + 15) := (ho4 (p + 15) (by omega)).trans v3_2
  have v4_3 : π4 (p + 13) = π (p + 13) := (ho4 (p + 13) (by omega)).trans v3_3
  have v4_4 : π4 (p + 17) = π ((p + 56 + 5 * (i + 2).toNat) + 1) := (ho4 (p + 17) (by omega)).trans he3
  refine v_aload hx DX4_constant_22 0 rfl ?_
  refine v_get hx DX4_constant_23 FLRX4_54 hP.1 (fv_i rfl (by rw [hch4.2.2.1 p hoff]; exact hkd.1) : _ = iv kd) ?_
  refine v_push hx DX4_constant_26 ?_
  refine v_icmp_ne hx DX4_constant_27 (by omega) (by decide) (fun c27 => ?_) (fun c27 => ?_)
  · skip
    refine v_aload hx DX4_constant_68 0 rfl ?_
    refine v_get hx DX4_constant_69 FLRX4_65 hP.1 (v := .ref κ) rfl ?_
    refine v_aload hx DX4_constant_72 0 rfl ?_
    refine v_get hx DX4_constant_73 FLRX4_38 hP.1 (v := .ref (p + 17)) rfl ?_
    refine v_aload hx DX4_constant_76 0 rfl ?_
    refine v_get hx DX4_constant_77 FLRX4_44 hP.1 (v := .ref (p + 21)) rfl ?_
    refine v_cVp hx DX4_constant_80 CVRX4_163 [.ref (p + 17), .ref (p + 21)] (q_ratio l G Λ sz μ4 hI hK hP.2.2.2.2.2.1.2.2.1 hP.2.2.2.2.2.1.2.2.2.2.1 (AB.get (A := π ((p + 56 + 5 * (i + 2).toNat) + 1)) hA4 hP.2.2.2.2.2.1.2.2.1 v4_4) (AB.get (A := PS.zero) hA4 hP.2.2.2.2.2.1.2.2.2.2.1 he4)) hK.1 rfl rfl (Nat.le_of_ble_eq_true rfl) (by decide) ⟨Nat.le_refl _, Nat.le_refl _⟩ ?_
    exact v_ri hx hBD DX4_constant_83 (⟨by unfold cstI; rw [if_neg (by omega)], π4, hch4⟩)
  · skip
    refine v_aload hx DX4_constant_30 0 rfl ?_
    refine v_get hx DX4_constant_31 FLRX4_38 hP.1 (v := .ref (p + 17)) rfl ?_
    refine v_aload hx DX4_constant_34 0 rfl ?_
    refine v_iload hx DX4_constant_35 1 rfl ?_
    refine v_cVr hx DX4_constant_36 CVRX4_144 [iv i] (c_rest l G Λ sz μ4 hP hi) hP.1 rfl rfl (Nat.le_of_ble_eq_true rfl) (by decide) ⟨Nat.le_refl _, Nat.le_refl _⟩ (fun z8 μ7 hμ7 => ?_)
    obtain ⟨ea, em⟩ := hμ7
    rw [ea, em]
    refine v_get hx DX4_constant_39 FLRX4_82 hRt.1 (v := .ref ((p + 56 + 5 * (i + 2).toNat) + 1)) rfl ?_
    refine v_aload hx DX4_constant_42 0 rfl ?_
    refine v_get hx DX4_constant_43 FLRX4_31 hP.1 (v := .ref (p + 13)) rfl ?_
    refine v_cVv hx DX4_constant_46 CVRX4_85 [.ref ((p + 56 + 5 * (i + 2).toNat) + 1), .ref (p + 13)] (s_product l G Λ sz μ4 hP.2.2.2.2.2.1.2.2.1 hRt.2.1 hP.2.2.2.2.2.1.1 (by omega) (by omega) (AB.get (A := π ((p + 56 + 5 * (i + 2).toNat) + 1)) hA4 hP.2.2.2.2.2.1.2.2.1 v4_4) (AB.get (A := π ((p + 56 + 5 * (i + 2).toNat) + 1)) hA4 hRt.2.1 v4_0) (AB.get (A := π (p + 13)) hA4 hP.2.2.2.2.2.1.1 v4_3) (by have := h1 (by omega); omega)) hP.2.2.2.2.2.1.2.2.1.1 rfl rfl (Nat.le_of_ble_eq_true rfl) (by decide) ⟨Nat.le_refl _, Nat.le_refl _⟩ (fun μ9 hμ9 => ?_)
    obtain ⟨π9, hc9, he9, ho9⟩ := Chg.one (S := fun c => c = p + 17 ∨ c = p + 21) (R := PS.mul (π ((p + 56 + 5 * (i + 2).toNat) + 1)) (π (p + 13))) hA4 hP.2.2.2.2.2.1.2.2.1 (by first | omega | (dsimp only; omega)) hμ9
    have hA9 := hc9.1
    have hch9 := hch4.trans hc9
    have v9_0 : π9 ((p + 56 + 5 * (i + 2).toNat) + 1) = π ((p + 56 + 5 * (i + 2).toNat) + 1) := (ho9 ((p + 56 + 5 * (i + 2).toNat) + 1) (by omega)).trans v4_0
    have v9_1 : π9 ((p + 56 + 5 * (i + 2).toNat) + 3) = π ((p + 56 + 5 * (i + 2).toNat) + 3) := (ho9 ((p + 56 + 5 * (i + 2).toNat) + 3) (by omega)).trans v4_1
    have v9_2 : π9 (p + 15) = π (p + 15) := (ho9 (p + 15) (by omega)).trans v4_2
    have v9_3 : π9 (p + 13) = π (p + 13) := (ho9 (p + 13) (by omega)).trans v4_3
    have v9_5 : π9 (p + 21) = PS.zero := (ho9 (p + 21) (by omega)).trans he4
    refine v_aload hx DX4_constant_49 0 rfl ?_
    refine v_get hx DX4_constant_50 FLRX4_44 hP.1 (v := .ref (p + 21)) rfl ?_
    refine v_aload hx DX4_constant_53 0 rfl ?_
    refine v_iload hx DX4_constant_54 1 rfl ?_
    refine v_cVr hx DX4_constant_55 CVRX4_144 [iv i] (c_rest l G Λ sz μ9 hP hi) hP.1 rfl rfl (Nat.le_of_ble_eq_true rfl) (by decide) ⟨Nat.le_refl _, Nat.le_refl _⟩ (fun z11 μ10 hμ10 => ?_)
    obtain ⟨ea, em⟩ := hμ10
    rw [ea, em]
    refine v_get hx DX4_constant_58 FLRX4_99 hRt.1 (v := .ref ((p + 56 + 5 * (i + 2).toNat) + 3)) rfl ?_
    refine v_aload hx DX4_constant_61 0 rfl ?_
    refine v_get hx DX4_constant_62 FLRX4_35 hP.1 (v := .ref (p + 15)) rfl ?_
    refine v_cVv hx DX4_constant_65 CVRX4_85 [.ref ((p + 56 + 5 * (i + 2).toNat) + 3), .ref (p + 15)] (s_product l G Λ sz μ9 hP.2.2.2.2.2.1.2.2.2.2.1 hRt.2.2 hP.2.2.2.2.2.1.2.1 (by omega) (by omega) (AB.get (A := PS.zero) hA9 hP.2.2.2.2.2.1.2.2.2.2.1 v9_5) (AB.get (A := π ((p + 56 + 5 * (i + 2).toNat) + 3)) hA9 hRt.2.2 v9_1) (AB.get (A := π (p + 15)) hA9 hP.2.2.2.2.2.1.2.1 v9_2) (by have := h2 (by omega); omega)) hP.2.2.2.2.2.1.2.2.2.2.1.1 rfl rfl (Nat.le_of_ble_eq_true rfl) (by decide) ⟨Nat.le_refl _, Nat.le_refl _⟩ (fun μ12 hμ12 => ?_)
    obtain ⟨π12, hc12, he12, ho12⟩ := Chg.one (S := fun c => c = p + 17 ∨ c = p + 21) (R := PS.mul (π ((p + 56 + 5 * (i + 2).toNat) + 3)) (π (p + 15))) hA9 hP.2.2.2.2.2.1.2.2.2.2.1 (by first | omega | (dsimp only; omega)) hμ12
    have hA12 := hc12.1
    have hch12 := hch9.trans hc12
    have v12_0 : π12 ((p + 56 + 5 * (i + 2).toNat) + 1) = π ((p + 56 + 5 * (i + 2).toNat) + 1) := (ho12 ((p + 56 + 5 * (i + 2).toNat) + 1) (by omega)).trans v9_0
    have v12_1 : π12 ((p + 56 + 5 * (i + 2).toNat) + 3) = π ((p + 56 + 5 * (i + 2).toNat) + 3) := (ho12 ((p + 56 + 5 * (i + 2).toNat) + 3) (by omega)).trans v9_1
    have v12_2 : π12 (p + 15) = π (p + 15) := (ho12 (p + 15) (by omega)).trans v9_2
    have v12_3 : π12 (p + 13) = π (p + 13) := (ho12 (p + 13) (by omega)).trans v9_3
    have v12_5 : π12 (p + 17) = PS.mul (π ((p + 56 + 5 * (i + 2).toNat) + 1)) (π (p + 13)) := (ho12 (p + 17) (by omega)).trans he9
    refine v_aload hx DX4_constant_68 0 rfl ?_
    refine v_get hx DX4_constant_69 FLRX4_65 hP.1 (v := .ref κ) rfl ?_
    refine v_aload hx DX4_constant_72 0 rfl ?_
    refine v_get hx DX4_constant_73 FLRX4_38 hP.1 (v := .ref (p + 17)) rfl ?_
    refine v_aload hx DX4_constant_76 0 rfl ?_
    refine v_get hx DX4_constant_77 FLRX4_44 hP.1 (v := .ref (p + 21)) rfl ?_
    refine v_cVp hx DX4_constant_80 CVRX4_163 [.ref (p + 17), .ref (p + 21)] (q_ratio l G Λ sz μ12 hI hK hP.2.2.2.2.2.1.2.2.1 hP.2.2.2.2.2.1.2.2.2.2.1 (AB.get (A := PS.mul (π ((p + 56 + 5 * (i + 2).toNat) + 1)) (π (p + 13))) hA12 hP.2.2.2.2.2.1.2.2.1 v12_5) (AB.get (A := PS.mul (π ((p + 56 + 5 * (i + 2).toNat) + 3)) (π (p + 15))) hA12 hP.2.2.2.2.2.1.2.2.2.2.1 he12)) hK.1 rfl rfl (Nat.le_of_ble_eq_true rfl) (by decide) ⟨Nat.le_refl _, Nat.le_refl _⟩ ?_
    exact v_ri hx hBD DX4_constant_83 (⟨by unfold cstI; rw [if_pos (by omega)], π12, hch12⟩)
