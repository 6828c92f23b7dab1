/-- the splitter: kit, factor, level, power, cofactor, numerator, whole, held, work -/
def spK (Λ : Lay) (σ κ : Nat) : Prop := Λ σ = some (.inl (9, [some (.ref κ), some (.ref (σ + 1)), some (.ref (σ + 3)), some (.ref (σ + 5)), some (.ref (σ + 7)), some (.ref (σ + 9)), some (.ref (σ + 11)), some (.ref (σ + 13)), some (.ref (σ + 15))])) ∧
  (polyK Λ (σ + 1) ∧ polyK Λ (σ + 3) ∧ polyK Λ (σ + 5) ∧ polyK Λ (σ + 7)) ∧ (polyK Λ (σ + 9) ∧ polyK Λ (σ + 11) ∧ polyK Λ (σ + 13) ∧ polyK Λ (σ + 15))
theorem thk_dec {a : PS} (ha : a.fin) (ha0 : a ≠ PS.zero) (hs : a.size ≤ 100) (n : Nat) (h : 1 < (a.thk n).size) : (a.thk (n + 1)).size < (a.thk n).size := by
  obtain ⟨h1, h2, h3, -⟩ := PS.thk_spec ha ha0 hs n
  have hd := PS.der_size h1
  obtain ⟨k, hk, hz⟩ := PS.fne_isz h1 h2
  have hz2 := PS.der_isz (n := k - 1) (by rw [show k - 1 + 2 = k + 1 by omega]; exact hz) (by omega)
  have hd0 : (a.thk n).der ≠ PS.zero := fun e => by
    have := PS.size_eq hz2
    rw [e, PS.size_zero] at this
    omega
  obtain ⟨g1, g2, g3, g4, -⟩ := PS.gcd_spec h1 (PS.fin_der h1) h2 (by omega)
  have := (PS.dvd_size g1 g4 hd0).1
  show ((a.thk n).gcd (a.thk n).der).size < _
  omega
theorem q_thin (l : Launch) (G : Gl) (Λ : Lay) (sz : Nat) (μ : Mem) {π : Nat → PS} {κ σ d o : Nat} (hA : AB Λ μ π) (hI : INV G Λ) (hK : kitK Λ κ) (hS : spK Λ σ κ) (hks : κ + 16 < σ ∨ σ + 16 < κ) (hkd : polyK Λ d) (hko : polyK Λ o) (od : (d < κ ∨ κ + 16 < d) ∧ d ≠ σ + 15) (oo : (o < κ ∨ κ + 16 < o) ∧ o ≠ σ + 15) : Sp l G yX9_thin cX9_thin 3 none 3 [.ref σ, .ref d, .ref o] Λ sz μ (pV (fun μ' => ∃ π', Chg Λ (fun c => c = o ∨ c = σ + 15 ∨ c = κ + 1 ∨ c = κ + 3) μ μ' π π' ∧ π' o = (π d).thn)) := by
  refine Sp.intro (by decide) (Nat.le_of_ble_eq_true rfl) (fun x hx hB => ?_)
  refine v_lv [(0, .ref σ), (1, .ref d), (2, .ref o)] rfl ?_
  have hch0 : Chg Λ (fun c => c = o ∨ c = σ + 15 ∨ c = κ + 1 ∨ c = κ + 3) μ μ π π := Chg.rf hA
  refine v_aload hx DX9_thin_0 0 rfl ?_
  refine v_get hx DX9_thin_1 FLRX9_36 hS.1 (v := .ref (σ + 15)) rfl ?_
  refine v_aload hx DX9_thin_4 1 rfl ?_
  refine v_cVv hx DX9_thin_5 CVRX9_59 [.ref d] (s_slope l G Λ sz μ hS.2.2.2.2.2 hkd (by omega) (AB.get (A := π (σ + 15)) hA hS.2.2.2.2.2 rfl) (AB.get (A := π d) hA hkd rfl)) hS.2.2.2.2.2.1 rfl rfl (Nat.le_of_ble_eq_true rfl) (by decide) ⟨Nat.le_refl _, Nat.le_refl _⟩ (fun μ1 hμ1 => ?_)
  obtain ⟨π1, hc1, he1, ho1⟩ := Chg.one (S := fun c => c = o ∨ c = σ + 15 ∨ c = κ + 1 ∨ c = κ + 3) (R := PS.der (π d)) hA hS.2.2.2.2.2 (by first | omega | (dsimp only; omega)) hμ1
  have hA1 := hc1.1
  have hch1 := hch0.trans hc1
  have v1_0 : π1 d = π d := (ho1 d (by omega)).trans rfl
  refine v_aload hx DX9_thin_8 0 rfl ?_
  refine v_get hx DX9_thin_9 FLRX9_39 hS.1 (v := .ref κ) rfl ?_
  refine v_aload hx DX9_thin_12 1 rfl ?_
  refine v_aload hx DX9_thin_13 0 rfl ?_
  refine v_get hx DX9_thin_14 FLRX9_36 hS.1 (v := .ref (σ + 15)) rfl ?_
  refine v_aload hx DX9_thin_17 2 rfl ?_
  refine v_cVv hx DX9_thin_18 CVRX9_62 [.ref d, .ref (σ + 15), .ref o] (q_divisor l G Λ sz μ1 hA1 hI hK hkd hS.2.2.2.2.2 hko (by omega) (by omega) (by omega)) hK.1 rfl rfl (Nat.le_of_ble_eq_true rfl) (by decide) ⟨Nat.le_refl _, Nat.le_refl _⟩ (fun μ2 hμ2 => ?_)
  obtain ⟨π2, hc2, he2_0⟩ := hμ2
  have hA2 := hc2.1
  have hch2 := hch1.trans (hc2.mono (fun c hc => by first | omega | (dsimp only at hc ⊢; omega)))
  have v2_1 : π2 (σ + 15) = PS.der (π d) := (hc2.2.1 (σ + 15) (by first | omega | (dsimp only; omega))).trans he1
  have g2_0 : π2 o = PS.thn (π d) := he2_0.trans (by rw [v1_0, he1]; rfl)
  exact v_rv hx hB DX9_thin_21 (⟨π2, hch2, g2_0⟩)
theorem q_factorsOf (l : Launch) (G : Gl) (Λ : Lay) (sz : Nat) (μ : Mem) {π : Nat → PS} {κ σ d o : Nat} {m : Int} (hA : AB Λ μ π) (hI : INV G Λ) (hK : kitK Λ κ) (hS : spK Λ σ κ) (hks : κ + 16 < σ ∨ σ + 16 < κ) (hkd : polyK Λ d) (hko : polyK Λ o) (od : (d < κ ∨ κ + 16 < d) ∧ (d < σ ∨ σ + 16 < d)) (oo : (o < κ ∨ κ + 16 < o) ∧ (o < σ ∨ σ + 16 < o)) (hm : 1 ≤ m ∧ m ≤ 4) (hd0 : π d ≠ PS.zero) (hds : (π d).size ≤ 24) : Sp l G yX9_factorsOf cX9_factorsOf 5 none 4 [.ref σ, .ref d, iv m, .ref o] Λ sz μ (pV (fun μ' => ∃ π', Chg Λ (fun c => c = o ∨ (σ < c ∧ c < σ + 17) ∨ (κ < c ∧ c < κ + 17)) μ μ' π π' ∧ π' o = ((PS.mul ((π d).thk (m.toNat - 1)) ((π d).thk (m.toNat + 1))).dv ((π d).thk (m.toNat))).dv ((π d).thk (m.toNat)))) := by
  refine Sp.intro (by decide) (Nat.le_of_ble_eq_true rfl) (fun x hx hB => ?_)
  refine v_lv [(0, .ref σ), (1, .ref d), (2, iv m), (3, .ref o)] rfl ?_
  have ld : (π d).fin := ⟨_, (hA d hkd).1.1⟩
  have tk := PS.thk_spec ld hd0 (by omega)
  have hch0 : Chg Λ (fun c => c = o ∨ (σ < c ∧ c < σ + 17) ∨ (κ < c ∧ c < κ + 17)) μ μ π π := Chg.rf hA
  have L35 : ∀ (nf : Nat) (k : Int) (M : Mem) (πk : Nat → PS), (m - k < (nf : Int)) → (Chg Λ (fun c => c = o ∨ (σ < c ∧ c < σ + 17) ∨ (κ < c ∧ c < κ + 17)) μ M π πk) → (πk (σ + 5) = (π d).thk (k.toNat - 1)) → (πk (σ + 3) = (π d).thk (k.toNat)) → (πk (σ + 1) = (π d).thk (k.toNat + 1)) → (1 ≤ k ∧ k ≤ m) → V G x (0, 0) Λ sz M 35 [(4, iv k), (0, .ref σ), (1, .ref d), (2, iv m), (3, .ref o)] [] := by
    intro nf
    induction nf with
    | zero => intro k M πk hm hchπk vπk_0 vπk_1 vπk_2 hk; exact absurd hm (by omega)
    | succ nf ih =>
      intro k M πk hm hchπk vπk_0 vπk_1 vπk_2 hk
      have hAπk := hchπk.1
      refine v_iload hx DX9_factorsOf_35 0 rfl ?_
      refine v_iload hx DX9_factorsOf_37 3 rfl ?_
      refine v_icmp_ge hx DX9_factorsOf_38 (by omega) (by omega) (fun c38 => ?_) (fun c38 => ?_)
      · skip
        refine v_aload hx DX9_factorsOf_81 4 rfl ?_
        refine v_aload hx DX9_factorsOf_82 1 rfl ?_
        refine v_get hx DX9_factorsOf_83 FLRX9_21 hS.1 (v := .ref (σ + 5)) rfl ?_
        refine v_aload hx DX9_factorsOf_86 1 rfl ?_
        refine v_get hx DX9_factorsOf_87 FLRX9_12 hS.1 (v := .ref (σ + 1)) rfl ?_
        refine v_cVv hx DX9_factorsOf_90 CVRX9_51 [.ref (σ + 5), .ref (σ + 1)] (s_product l G Λ sz M hko hS.2.1.2.2.1 hS.2.1.1 (by omega) (by omega) (AB.get (A := πk o) hAπk hko rfl) (AB.get (A := (π d).thk (k.toNat - 1)) hAπk hS.2.1.2.2.1 vπk_0) (AB.get (A := (π d).thk (k.toNat + 1)) hAπk hS.2.1.1 vπk_2) (by have h1 := (tk (k.toNat - 1)).2.2.1; have h2 := (tk (k.toNat + 1)).2.2.1; omega)) hko.1 rfl rfl (Nat.le_of_ble_eq_true rfl) (by decide) ⟨Nat.le_refl _, Nat.le_refl _⟩ (fun μ1 hμ1 => ?_)
        obtain ⟨π1, hc1, he1, ho1⟩ := Chg.one (S := fun c => c = o ∨ (σ < c ∧ c < σ + 17) ∨ (κ < c ∧ c < κ + 17)) (R := PS.mul ((π d).thk (k.toNat - 1)) ((π d).thk (k.toNat + 1))) hAπk hko (by first | omega | (dsimp only; omega)) hμ1
        have hA1 := hc1.1
        have hch1 := hchπk.trans hc1
        have v1_0 : π1 (σ + 5) = (π d).thk (k.toNat - 1) := (ho1 (σ + 5) (by omega)).trans vπk_0
        have v1_1 : π1 (σ + 3) = (π d).thk (k.toNat) := (ho1 (σ + 3) (by omega)).trans vπk_1
        have v1_2 : π1 (σ + 1) = (π d).thk (k.toNat + 1) := (ho1 (σ + 1) (by omega)).trans vπk_2
        refine v_aload hx DX9_factorsOf_93 1 rfl ?_
        refine v_get hx DX9_factorsOf_94 FLRX9_39 hS.1 (v := .ref κ) rfl ?_
        refine v_aload hx DX9_factorsOf_97 4 rfl ?_
        refine v_aload hx DX9_factorsOf_98 1 rfl ?_
        refine v_get hx DX9_factorsOf_99 FLRX9_18 hS.1 (v := .ref (σ + 3)) rfl ?_
        refine v_cVv hx DX9_factorsOf_102 CVRX9_54 [.ref o, .ref (σ + 3)] (q_cut l G Λ sz μ1 hA1 hI hK hko hS.2.1.2.1 (by omega) (by omega) (by omega) (by rw [v1_1]; exact (tk k.toNat).2.1)) hK.1 rfl rfl (Nat.le_of_ble_eq_true rfl) (by decide) ⟨Nat.le_refl _, Nat.le_refl _⟩ (fun μ2 hμ2 => ?_)
        obtain ⟨π2, hc2, he2_0⟩ := hμ2
        have hA2 := hc2.1
        have hch2 := hch1.trans (hc2.mono (fun c hc => by first | omega | (dsimp only at hc ⊢; omega)))
        have v2_0 : π2 (σ + 5) = (π d).thk (k.toNat - 1) := (hc2.2.1 (σ + 5) (by first | omega | (dsimp only; omega))).trans v1_0
        have v2_1 : π2 (σ + 3) = (π d).thk (k.toNat) := (hc2.2.1 (σ + 3) (by first | omega | (dsimp only; omega))).trans v1_1
        have v2_2 : π2 (σ + 1) = (π d).thk (k.toNat + 1) := (hc2.2.1 (σ + 1) (by first | omega | (dsimp only; omega))).trans v1_2
        have g2_0 : π2 o = (PS.mul ((π d).thk (k.toNat - 1)) ((π d).thk (k.toNat + 1))).dv ((π d).thk (k.toNat)) := he2_0.trans (by rw [he1, v1_1])
        refine v_aload hx DX9_factorsOf_105 1 rfl ?_
        refine v_get hx DX9_factorsOf_106 FLRX9_39 hS.1 (v := .ref κ) rfl ?_
        refine v_aload hx DX9_factorsOf_109 4 rfl ?_
        refine v_aload hx DX9_factorsOf_110 1 rfl ?_
        refine v_get hx DX9_factorsOf_111 FLRX9_18 hS.1 (v := .ref (σ + 3)) rfl ?_
        refine v_cVv hx DX9_factorsOf_114 CVRX9_54 [.ref o, .ref (σ + 3)] (q_cut l G Λ sz μ2 hA2 hI hK hko hS.2.1.2.1 (by omega) (by omega) (by omega) (by rw [v2_1]; exact (tk k.toNat).2.1)) hK.1 rfl rfl (Nat.le_of_ble_eq_true rfl) (by decide) ⟨Nat.le_refl _, Nat.le_refl _⟩ (fun μ3 hμ3 => ?_)
        obtain ⟨π3, hc3, he3_0⟩ := hμ3
        have hA3 := hc3.1
        have hch3 := hch2.trans (hc3.mono (fun c hc => by first | omega | (dsimp only at hc ⊢; omega)))
        have v3_0 : π3 (σ + 5) = (π d).thk (k.toNat - 1) := (hc3.2.1 (σ + 5) (by first | omega | (dsimp only; omega))).trans v2_0
        have v3_1 : π3 (σ + 3) = (π d).thk (k.toNat) := (hc3.2.1 (σ + 3) (by first | omega | (dsimp only; omega))).trans v2_1
        have v3_2 : π3 (σ + 1) = (π d).thk (k.toNat + 1) := (hc3.2.1 (σ + 1) (by first | omega | (dsimp only; omega))).trans v2_2
        have g3_0 : π3 o = ((PS.mul ((π d).thk (k.toNat - 1)) ((π d).thk (k.toNat + 1))).dv ((π d).thk (k.toNat))).dv ((π d).thk (k.toNat)) := he3_0.trans (by rw [g2_0, v2_1])
        have ekm : k = m := by omega
        subst ekm
        have hfin := g3_0
        exact v_rv hx hB DX9_factorsOf_117 (⟨π3, hch3, hfin⟩)
      · skip
        refine v_aload hx DX9_factorsOf_41 1 rfl ?_
        refine v_get hx DX9_factorsOf_42 FLRX9_21 hS.1 (v := .ref (σ + 5)) rfl ?_
        refine v_aload hx DX9_factorsOf_45 1 rfl ?_
        refine v_get hx DX9_factorsOf_46 FLRX9_18 hS.1 (v := .ref (σ + 3)) rfl ?_
        refine v_cVv hx DX9_factorsOf_49 CVRX9_43 [.ref (σ + 3)] (s_become l G Λ sz M hS.2.1.2.2.1 hS.2.1.2.1 (by omega) (AB.get (A := (π d).thk (k.toNat - 1)) hAπk hS.2.1.2.2.1 vπk_0) (AB.get (A := (π d).thk (k.toNat)) hAπk hS.2.1.2.1 vπk_1)) hS.2.1.2.2.1.1 rfl rfl (Nat.le_of_ble_eq_true rfl) (by decide) ⟨Nat.le_refl _, Nat.le_refl _⟩ (fun μ4 hμ4 => ?_)
        obtain ⟨π4, hc4, he4, ho4⟩ := Chg.one (S := fun c => c = o ∨ (σ < c ∧ c < σ + 17) ∨ (κ < c ∧ c < κ + 17)) (R := (π d).thk (k.toNat)) hAπk hS.2.1.2.2.1 (by first | omega | (dsimp only; omega)) hμ4
        have hA4 := hc4.1
        have hch4 := hchπk.trans hc4
        have v4_1 : π4 (σ + 3) = (π d).thk (k.toNat) := (ho4 (σ + 3) (by omega)).trans vπk_1
        have v4_2 : π4 (σ + 1) = (π d).thk (k.toNat + 1) := (ho4 (σ + 1) (by omega)).trans vπk_2
        refine v_aload hx DX9_factorsOf_52 1 rfl ?_
        refine v_get hx DX9_factorsOf_53 FLRX9_18 hS.1 (v := .ref (σ + 3)) rfl ?_
        refine v_aload hx DX9_factorsOf_56 1 rfl ?_
        refine v_get hx DX9_factorsOf_57 FLRX9_12 hS.1 (v := .ref (σ + 1)) rfl ?_
        refine v_cVv hx DX9_factorsOf_60 CVRX9_43 [.ref (σ + 1)] (s_become l G Λ sz μ4 hS.2.1.2.1 hS.2.1.1 (by omega) (AB.get (A := (π d).thk (k.toNat)) hA4 hS.2.1.2.1 v4_1) (AB.get (A := (π d).thk (k.toNat + 1)) hA4 hS.2.1.1 v4_2)) hS.2.1.2.1.1 rfl rfl (Nat.le_of_ble_eq_true rfl) (by decide) ⟨Nat.le_refl _, Nat.le_refl _⟩ (fun μ5 hμ5 => ?_)
        obtain ⟨π5, hc5, he5, ho5⟩ := Chg.one (S := fun c => c = o ∨ (σ < c ∧ c < σ + 17) ∨ (κ < c ∧ c < κ + 17)) (R := (π d).thk (k.toNat + 1)) hA4 hS.2.1.2.1 (by first | omega | (dsimp only; omega)) hμ5
        have hA5 := hc5.1
        have hch5 := hch4.trans hc5
        have v5_1 : π5 (σ + 1) = (π d).thk (k.toNat + 1) := (ho5 (σ + 1) (by omega)).trans v4_2
        have v5_2 : π5 (σ + 5) = (π d).thk (k.toNat) := (ho5 (σ + 5) (by omega)).trans he4
        refine v_aload hx DX9_factorsOf_63 1 rfl ?_
        refine v_aload hx DX9_factorsOf_64 1 rfl ?_
        refine v_get hx DX9_factorsOf_65 FLRX9_18 hS.1 (v := .ref (σ + 3)) rfl ?_
        refine v_aload hx DX9_factorsOf_68 1 rfl ?_
        refine v_get hx DX9_factorsOf_69 FLRX9_12 hS.1 (v := .ref (σ + 1)) rfl ?_
        refine v_cVv hx DX9_factorsOf_72 CVRX9_47 [.ref (σ + 3), .ref (σ + 1)] (q_thin l G Λ sz μ5 hA5 hI hK hS hks hS.2.1.2.1 hS.2.1.1 (by omega) (by omega)) hS.1 rfl rfl (Nat.le_of_ble_eq_true rfl) (by decide) ⟨Nat.le_refl _, Nat.le_refl _⟩ (fun μ6 hμ6 => ?_)
        obtain ⟨π6, hc6, he6_0⟩ := hμ6
        have hA6 := hc6.1
        have hch6 := hch5.trans (hc6.mono (fun c hc => by first | omega | (dsimp only at hc ⊢; omega)))
        have v6_1 : π6 (σ + 5) = (π d).thk (k.toNat) := (hc6.2.1 (σ + 5) (by first | omega | (dsimp only; omega))).trans v5_2
        have v6_2 : π6 (σ + 3) = (π d).thk (k.toNat + 1) := (hc6.2.1 (σ + 3) (by first | omega | (dsimp only; omega))).trans he5
        have g6_0 : π6 (σ + 1) = (π d).thk (k.toNat + 1 + 1) := he6_0.trans (by rw [he5]; rfl)
        refine v_iinc hx DX9_factorsOf_75 0 rfl [(4, iv (k + 1)), (0, .ref σ), (1, .ref d), (2, iv m), (3, .ref o)] rfl (by decide) ?_
        refine v_goto hx DX9_factorsOf_78 ?_
        exact v_sub [0, 1, 2, 3, 4] _ rfl (ih (k + 1) μ6 π6 (by omega) hch6 (v6_1.trans (by rw [show (k + 1).toNat - 1 = k.toNat by omega])) (v6_2.trans (by rw [show (k + 1).toNat = k.toNat + 1 by omega])) (g6_0.trans (by rw [show (k + 1).toNat + 1 = k.toNat + 1 + 1 by omega])) (by omega))
  refine v_aload hx DX9_factorsOf_0 0 rfl ?_
  refine v_get hx DX9_factorsOf_1 FLRX9_21 hS.1 (v := .ref (σ + 5)) rfl ?_
  refine v_aload hx DX9_factorsOf_4 1 rfl ?_
  refine v_cVv hx DX9_factorsOf_5 CVRX9_43 [.ref d] (s_become l G Λ sz μ hS.2.1.2.2.1 hkd (by omega) (AB.get (A := π (σ + 5)) hA hS.2.1.2.2.1 rfl) (AB.get (A := π d) hA hkd rfl)) hS.2.1.2.2.1.1 rfl rfl (Nat.le_of_ble_eq_true rfl) (by decide) ⟨Nat.le_refl _, Nat.le_refl _⟩ (fun μ7 hμ7 => ?_)
  obtain ⟨π7, hc7, he7, ho7⟩ := Chg.one (S := fun c => c = o ∨ (σ < c ∧ c < σ + 17) ∨ (κ < c ∧ c < κ + 17)) (R := π d) hA hS.2.1.2.2.1 (by first | omega | (dsimp only; omega)) hμ7
  have hA7 := hc7.1
  have hch7 := hch0.trans hc7
  have v7_0 : π7 d = π d := (ho7 d (by omega)).trans rfl
  refine v_aload hx DX9_factorsOf_8 0 rfl ?_
  refine v_aload hx DX9_factorsOf_9 0 rfl ?_
  refine v_get hx DX9_factorsOf_10 FLRX9_21 hS.1 (v := .ref (σ + 5)) rfl ?_
  refine v_aload hx DX9_factorsOf_13 0 rfl ?_
  refine v_get hx DX9_factorsOf_14 FLRX9_18 hS.1 (v := .ref (σ + 3)) rfl ?_
  refine v_cVv hx DX9_factorsOf_17 CVRX9_47 [.ref (σ + 5), .ref (σ + 3)] (q_thin l G Λ sz μ7 hA7 hI hK hS hks hS.2.1.2.2.1 hS.2.1.2.1 (by omega) (by omega)) hS.1 rfl rfl (Nat.le_of_ble_eq_true rfl) (by decide) ⟨Nat.le_refl _, Nat.le_refl _⟩ (fun μ8 hμ8 => ?_)
  obtain ⟨π8, hc8, he8_0⟩ := hμ8
  have hA8 := hc8.1
  have hch8 := hch7.trans (hc8.mono (fun c hc => by first | omega | (dsimp only at hc ⊢; omega)))
  have v8_0 : π8 d = π d := (hc8.2.1 d (by first | omega | (dsimp only; omega))).trans v7_0
  have v8_1 : π8 (σ + 5) = π d := (hc8.2.1 (σ + 5) (by first | omega | (dsimp only; omega))).trans he7
  have g8_0 : π8 (σ + 3) = (π d).thk (1) := he8_0.trans (by rw [he7]; rfl)
  refine v_aload hx DX9_factorsOf_20 0 rfl ?_
  refine v_aload hx DX9_factorsOf_21 0 rfl ?_
  refine v_get hx DX9_factorsOf_22 FLRX9_18 hS.1 (v := .ref (σ + 3)) rfl ?_
  refine v_aload hx DX9_factorsOf_25 0 rfl ?_
  refine v_get hx DX9_factorsOf_26 FLRX9_12 hS.1 (v := .ref (σ + 1)) rfl ?_
  refine v_cVv hx DX9_factorsOf_29 CVRX9_47 [.ref (σ + 3), .ref (σ + 1)] (q_thin l G Λ sz μ8 hA8 hI hK hS hks hS.2.1.2.1 hS.2.1.1 (by omega) (by omega)) hS.1 rfl rfl (Nat.le_of_ble_eq_true rfl) (by decide) ⟨Nat.le_refl _, Nat.le_refl _⟩ (fun μ9 hμ9 => ?_)
  obtain ⟨π9, hc9, he9_0⟩ := hμ9
  have hA9 := hc9.1
  have hch9 := hch8.trans (hc9.mono (fun c hc => by first | omega | (dsimp only at hc ⊢; omega)))
  have v9_0 : π9 d = π d := (hc9.2.1 d (by first | omega | (dsimp only; omega))).trans v8_0
  have v9_1 : π9 (σ + 5) = π d := (hc9.2.1 (σ + 5) (by first | omega | (dsimp only; omega))).trans v8_1
  have v9_2 : π9 (σ + 3) = (π d).thk (1) := (hc9.2.1 (σ + 3) (by first | omega | (dsimp only; omega))).trans g8_0
  have g9_0 : π9 (σ + 1) = (π d).thk (2) := he9_0.trans (by rw [g8_0]; rfl)
  refine v_push hx DX9_factorsOf_32 ?_
  refine v_istore hx DX9_factorsOf_33 [(4, iv 1), (0, .ref σ), (1, .ref d), (2, iv m), (3, .ref o)] rfl (by decide) ?_
  exact v_sub [0, 1, 2, 3, 4] _ rfl (L35 10 1 μ9 π9 (by omega) hch9 v9_1 v9_2 g9_0 (by omega))
theorem q_highest (l : Launch) (G : Gl) (Λ : Lay) (sz : Nat) (μ : Mem) {π : Nat → PS} {κ σ d : Nat} (hA : AB Λ μ π) (hI : INV G Λ) (hK : kitK Λ κ) (hS : spK Λ σ κ) (hks : κ + 16 < σ ∨ σ + 16 < κ) (hkd : polyK Λ d) (od : (d < κ ∨ κ + 16 < d) ∧ (d < σ ∨ σ + 16 < d)) (hd0 : π d ≠ PS.zero) : Sp l G yX9_highest cX9_highest 3 (some FieldType.int) 4 [.ref σ, .ref d] Λ sz μ (pI (fun z μ' => ∃ π', Chg Λ (fun c => c = σ + 1 ∨ c = σ + 3 ∨ c = σ + 15 ∨ c = κ + 1 ∨ c = κ + 3) μ μ' π π' ∧ ∃ t : Nat, z = t ∧ t ≤ 48 ∧ ((π d).thk t).size ≤ 1 ∧ (∀ j, j < t → 1 < ((π d).thk j).size) ∧ π' (σ + 3) = (π d).thk t ∧ (0 < t → π' (σ + 1) = (π d).thk (t - 1)))) := by
  refine Sp.intro (by decide) (Nat.le_of_ble_eq_true rfl) (fun x hx hB => ?_)
  refine v_lv [(0, .ref σ), (1, .ref d)] rfl ?_
  have ld0 := (hA d hkd).1.1
  have ld : (π d).fin := ⟨_, ld0⟩
  have sd := PS.size_le ld0
  have tk := PS.thk_spec ld hd0 (by omega)
  have hch0 : Chg Λ (fun c => c = σ + 1 ∨ c = σ + 3 ∨ c = σ + 15 ∨ c = κ + 1 ∨ c = κ + 3) μ μ π π := Chg.rf hA
  have L10 : ∀ (nf : Nat) (k : Int) (M : Mem) (πk : Nat → PS), (48 - k < (nf : Int)) → (Chg Λ (fun c => c = σ + 1 ∨ c = σ + 3 ∨ c = σ + 15 ∨ c = κ + 1 ∨ c = κ + 3) μ M π πk) → (πk (σ + 3) = (π d).thk (k.toNat)) → (0 ≤ k ∧ k ≤ 48) → (k + ((π d).thk k.toNat).size ≤ 48) → (∀ j : Nat, (j : Int) < k → 1 < ((π d).thk j).size) → (0 < k → πk (σ + 1) = (π d).thk (k.toNat - 1)) → V G x (0, 0) Λ sz M 10 [(2, iv k), (0, .ref σ), (1, .ref d)] [] := by
    intro nf
    induction nf with
    | zero => intro k M πk hm hchπk vπk_0 hk hk2 hj hf; exact absurd hm (by omega)
    | succ nf ih =>
      intro k M πk hm hchπk vπk_0 hk hk2 hj hf
      have hAπk := hchπk.1
      have hpos := PS.fpos (tk k.toNat).1 (tk k.toNat).2.1
      refine v_iload hx DX9_highest_10 0 rfl ?_
      refine v_push hx DX9_highest_11 ?_
      refine v_icmp_ge hx DX9_highest_13 (by omega) (by decide) (fun c13 => ?_) (fun c13 => ?_)
      · exact absurd c13 (by omega)
      · skip
        refine v_aload hx DX9_highest_16 1 rfl ?_
        refine v_get hx DX9_highest_17 FLRX9_18 hS.1 (v := .ref (σ + 3)) rfl ?_
        refine v_get hx DX9_highest_20 FLRX9_78 hS.2.1.2.1.1 (fv_i rfl ((AB.get hAπk hS.2.1.2.1 vπk_0).2) : _ = iv (((π d).thk (k.toNat)).size - 1)) ?_
        refine v_if_le hx DX9_highest_23 (by have := (tk k.toNat).2.2.1; omega) (fun c23 => ?_) (fun c23 => ?_)
        · skip
          refine v_iload hx DX9_highest_55 0 rfl ?_
          exact v_ri hx hB DX9_highest_56 (⟨πk, hchπk, k.toNat, by omega, by omega, by omega, fun j hj2 => hj j (by omega), vπk_0, fun h => hf (by omega)⟩)
        · skip
          refine v_aload hx DX9_highest_26 1 rfl ?_
          refine v_get hx DX9_highest_27 FLRX9_12 hS.1 (v := .ref (σ + 1)) rfl ?_
          refine v_aload hx DX9_highest_30 1 rfl ?_
          refine v_get hx DX9_highest_31 FLRX9_18 hS.1 (v := .ref (σ + 3)) rfl ?_
          refine v_cVv hx DX9_highest_34 CVRX9_43 [.ref (σ + 3)] (s_become l G Λ sz M hS.2.1.1 hS.2.1.2.1 (by omega) (AB.get (A := πk (σ + 1)) hAπk hS.2.1.1 rfl) (AB.get (A := (π d).thk (k.toNat)) hAπk hS.2.1.2.1 vπk_0)) hS.2.1.1.1 rfl rfl (Nat.le_of_ble_eq_true rfl) (by decide) ⟨Nat.le_refl _, Nat.le_refl _⟩ (fun μ1 hμ1 => ?_)
          obtain ⟨π1, hc1, he1, ho1⟩ := Chg.one (S := fun c => c = σ + 1 ∨ c = σ + 3 ∨ c = σ + 15 ∨ c = κ + 1 ∨ c = κ + 3) (R := (π d).thk (k.toNat)) hAπk hS.2.1.1 (by first | omega | (dsimp only; omega)) hμ1
          have hA1 := hc1.1
          have hch1 := hchπk.trans hc1
          have v1_0 : π1 (σ + 3) = (π d).thk (k.toNat) := (ho1 (σ + 3) (by omega)).trans vπk_0
          refine v_aload hx DX9_highest_37 1 rfl ?_
          refine v_aload hx DX9_highest_38 1 rfl ?_
          refine v_get hx DX9_highest_39 FLRX9_12 hS.1 (v := .ref (σ + 1)) rfl ?_
          refine v_aload hx DX9_highest_42 1 rfl ?_
          refine v_get hx DX9_highest_43 FLRX9_18 hS.1 (v := .ref (σ + 3)) rfl ?_
          refine v_cVv hx DX9_highest_46 CVRX9_47 [.ref (σ + 1), .ref (σ + 3)] (q_thin l G Λ sz μ1 hA1 hI hK hS hks hS.2.1.1 hS.2.1.2.1 (by omega) (by omega)) hS.1 rfl rfl (Nat.le_of_ble_eq_true rfl) (by decide) ⟨Nat.le_refl _, Nat.le_refl _⟩ (fun μ2 hμ2 => ?_)
          obtain ⟨π2, hc2, he2_0⟩ := hμ2
          have hA2 := hc2.1
          have hch2 := hch1.trans (hc2.mono (fun c hc => by first | omega | (dsimp only at hc ⊢; omega)))
          have v2_1 : π2 (σ + 1) = (π d).thk (k.toNat) := (hc2.2.1 (σ + 1) (by first | omega | (dsimp only; omega))).trans he1
          have g2_0 : π2 (σ + 3) = (π d).thk (k.toNat + 1) := he2_0.trans (by rw [he1]; rfl)
          refine v_iinc hx DX9_highest_49 0 rfl [(2, iv (k + 1)), (0, .ref σ), (1, .ref d)] rfl (by decide) ?_
          refine v_goto hx DX9_highest_52 ?_
          exact v_sub [0, 1, 2] _ rfl (ih (k + 1) μ2 π2 (by omega) hch2 (g2_0.trans (by rw [show (k + 1).toNat = k.toNat + 1 by omega])) (by omega) (by rw [show (k + 1).toNat = k.toNat + 1 by omega]; have h1 := thk_dec ld hd0 (by omega) k.toNat (by omega); omega) (fun j hj2 => by rcases (show (j : Int) < k ∨ j = k.toNat by omega) with q | q; exact hj j q; subst q; omega) (fun _ => by rw [show (k + 1).toNat - 1 = k.toNat by omega]; exact v2_1))
  refine v_aload hx DX9_highest_0 0 rfl ?_
  refine v_get hx DX9_highest_1 FLRX9_18 hS.1 (v := .ref (σ + 3)) rfl ?_
  refine v_aload hx DX9_highest_4 1 rfl ?_
  refine v_cVv hx DX9_highest_5 CVRX9_43 [.ref d] (s_become l G Λ sz μ hS.2.1.2.1 hkd (by omega) (AB.get (A := π (σ + 3)) hA hS.2.1.2.1 rfl) (AB.get (A := π d) hA hkd rfl)) hS.2.1.2.1.1 rfl rfl (Nat.le_of_ble_eq_true rfl) (by decide) ⟨Nat.le_refl _, Nat.le_refl _⟩ (fun μ3 hμ3 => ?_)
  obtain ⟨π3, hc3, he3, ho3⟩ := Chg.one (S := fun c => c = σ + 1 ∨ c = σ + 3 ∨ c = σ + 15 ∨ c = κ + 1 ∨ c = κ + 3) (R := π d) hA hS.2.1.2.1 (by first | omega | (dsimp only; omega)) hμ3
  have hA3 := hc3.1
  have hch3 := hch0.trans hc3
  have v3_0 : π3 d = π d := (ho3 d (by omega)).trans rfl
  refine v_push hx DX9_highest_8 ?_
  refine v_istore hx DX9_highest_9 [(2, iv 0), (0, .ref σ), (1, .ref d)] rfl (by decide) ?_
  exact v_sub [0, 1, 2] _ rfl (L10 100 0 μ3 π3 (by omega) hch3 he3 (by omega) (by have := sd; show (0 : Int) + ((π d).size : Int) ≤ 48; omega) (fun j hj => absurd hj (by omega)) (fun h => absurd h (by omega)))
