theorem s_inverse (l : Launch) (G : Gl) (Λ : Lay) (sz : Nat) (μ : Mem) {v : Int} (hI : INV G Λ) (hv : 0 ≤ v ∧ v ≤ 100) : Sp l G yX11_inverse cX11_inverse 1 (some FieldType.int) 0 [iv v] Λ sz μ (pP μ (ivI v)) := by
  refine Sp.intro (by decide) (Nat.le_of_ble_eq_true rfl) (fun x hx hB => ?_)
  refine v_lv [(0, iv v)] rfl ?_
  have hN := hI.2.2.1
  refine v_iload hx DX11_inverse_0 0 rfl ?_
  refine v_if_lt hx DX11_inverse_1 (by omega) (fun c1 => ?_) (fun c1 => ?_)
  · exact absurd c1 (by omega)
  · skip
    refine v_iload hx DX11_inverse_4 0 rfl ?_
    refine v_getst hx DX11_inverse_5 flRX11_365 hI.1 ?_
    refine v_clen hx DX11_inverse_8 hI.2.1 (by decide) ?_
    refine v_icmp_ge hx DX11_inverse_9 (by omega) (by omega) (fun c9 => ?_) (fun c9 => ?_)
    · exact absurd c9 (by omega)
    · skip
      refine v_getst hx DX11_inverse_12 flRX11_365 hI.1 ?_
      refine v_iload hx DX11_inverse_15 0 rfl ?_
      refine v_cald hx DX11_inverse_16 hI.2.1 (by decide) (by omega) (by omega) (z := ivI v) (hI.2.2.2 v (by omega) (by omega)) ?_
      refine v_goto hx DX11_inverse_17 ?_
      exact v_ri hx hB DX11_inverse_21 (⟨rfl, rfl⟩)
theorem s_product (l : Launch) (G : Gl) (Λ : Lay) (sz : Nat) (μ : Mem) {t a b : Nat} {p A B : PS} (hT : polyK Λ t) (hA : polyK Λ a) (hBk : polyK Λ b) (hta : t ≠ a) (htb : t ≠ b) (hP : PA μ t p) (hA0 : PA μ a A) (hB0 : PA μ b B) (hsz : A.size + B.size ≤ 49) : Sp l G yX5_product cX5_product 4 none 2 [.ref t, .ref a, .ref b] Λ sz μ (pV (fun μ' => PA μ' t (A.mul B) ∧ Fr [t, t + 1] μ μ')) := by
  refine Sp.intro (by decide) (Nat.le_of_ble_eq_true rfl) (fun x hx hB => ?_)
  refine v_lv [(0, .ref t), (1, .ref a), (2, .ref b)] rfl ?_
  have ha0 := hA0.le
  have hb0 := hB0.le
  have oa := pk_out hA hT hta.symm
  have ob := pk_out hBk hT htb.symm
  have L6 : ∀ (n : Nat) (k : Int) (m : Mem), (A.size - k < (n : Int)) → (0 ≤ k ∧ k ≤ A.size) → (PA m t ((A.tr k.toNat).mul B)) → (Fr [t, t + 1] μ m) → V G x (0, 0) Λ sz m 6 [(3, iv k), (0, .ref t), (1, .ref a), (2, .ref b)] [] := by
    intro n
    induction n with
    | zero => intro k m hm hk hc hf; exact absurd hm (by omega)
    | succ n ih =>
      intro k m hm hk hc hf
      have hA1 : PA m a A := hA0.kept hf oa.1 oa.2
      have hB1 : PA m b B := hB0.kept hf ob.1 ob.2
      refine v_iload hx DX5_product_6 0 rfl ?_
      refine v_aload hx DX5_product_7 2 rfl ?_
      refine v_get hx DX5_product_8 FLRX5_15 hA.1 (fv_i rfl hA1.2 : _ = iv ((A.size : Int) - 1)) ?_
      refine v_icmp_gt hx DX5_product_11 (by omega) (by omega) (fun c11 => ?_) (fun c11 => ?_)
      · skip
        exact v_rv hx hB DX5_product_31 (⟨by rw [PS.tr_end (PS.lt_mono (PS.lt_size hA0.1.1) (by omega))] at hc; exact hc, hf⟩)
      · skip
        refine v_aload hx DX5_product_14 1 rfl ?_
        refine v_aload hx DX5_product_15 3 rfl ?_
        refine v_aload hx DX5_product_16 2 rfl ?_
        refine v_iload hx DX5_product_17 0 rfl ?_
        refine v_cVp hx DX5_product_18 CVRX5_35 [iv k] (s_at l G Λ sz m hA hA1 (by omega)) hA.1 rfl rfl (Nat.le_of_ble_eq_true rfl) (by decide) ⟨Nat.le_refl _, Nat.le_refl _⟩ ?_
        refine v_iload hx DX5_product_21 0 rfl ?_
        refine v_cVv hx DX5_product_22 CVRX5_39 [.ref b, iv (ca A k), iv k] (s_addMultiple l G Λ sz m hT hBk htb hc hB1 (by have := ca_rng A k; omega) (by omega) (by omega)) hT.1 rfl rfl (Nat.le_of_ble_eq_true rfl) (by decide) ⟨Nat.le_refl _, Nat.le_refl _⟩ (fun μ3 hμ3 => ?_)
        obtain ⟨hP2, hf2⟩ := hμ3
        refine v_iinc hx DX5_product_25 0 rfl [(3, iv (k + 1)), (0, .ref t), (1, .ref a), (2, .ref b)] rfl (by decide) ?_
        refine v_goto hx DX5_product_28 ?_
        exact v_sub [0, 1, 2, 3] _ rfl (ih (k + 1) μ3 (by omega) (by omega) (by rw [show (k + 1).toNat = k.toNat + 1 by omega, PS.tr_mul_succ]; rw [ca_of (by omega), fi_cf] at hP2; exact hP2) (hf.trans hf2))
  refine v_aload hx DX5_product_0 0 rfl ?_
  refine v_cVv hx DX5_product_1 CVRX5_29 [] (s_clear l G Λ sz μ hT hP) hT.1 rfl rfl (Nat.le_of_ble_eq_true rfl) (by decide) ⟨Nat.le_refl _, Nat.le_refl _⟩ (fun μ5 hμ5 => ?_)
  obtain ⟨hP1, hf1⟩ := hμ5
  refine v_push hx DX5_product_4 ?_
  refine v_istore hx DX5_product_5 [(3, iv 0), (0, .ref t), (1, .ref a), (2, .ref b)] rfl (by decide) ?_
  exact v_sub [0, 1, 2, 3] _ rfl (L6 100 0 μ5 (by omega) (by omega) (by rw [show (0 : Int).toNat = 0 from rfl, PS.tr_zero, PS.zero_mul]; exact hP1) hf1)
theorem s_slope (l : Launch) (G : Gl) (Λ : Lay) (sz : Nat) (μ : Mem) {t a : Nat} {p A : PS} (hT : polyK Λ t) (hA : polyK Λ a) (hta : t ≠ a) (hP : PA μ t p) (hA0 : PA μ a A) : Sp l G yX5_slope cX5_slope 3 none 2 [.ref t, .ref a] Λ sz μ (pV (fun μ' => PA μ' t A.der ∧ Fr [t, t + 1] μ μ')) := by
  refine Sp.intro (by decide) (Nat.le_of_ble_eq_true rfl) (fun x hx hB => ?_)
  refine v_lv [(0, .ref t), (1, .ref a)] rfl ?_
  have ha0 := hA0.le
  have oa := pk_out hA hT hta.symm
  have L6 : ∀ (n : Nat) (k : Int) (m : Mem), (49 - k < (n : Int)) → (1 ≤ k ∧ (k ≤ A.size ∨ k = 1)) → (PA m t (A.der.tr (k - 1).toNat)) → (Fr [t, t + 1] μ m) → V G x (0, 0) Λ sz m 6 [(2, iv k), (0, .ref t), (1, .ref a)] [] := by
    intro n
    induction n with
    | zero => intro k m hm hk hc hf; exact absurd hm (by omega)
    | succ n ih =>
      intro k m hm hk hc hf
      have hA1 : PA m a A := hA0.kept hf oa.1 oa.2
      refine v_iload hx DX5_slope_6 0 rfl ?_
      refine v_aload hx DX5_slope_7 2 rfl ?_
      refine v_get hx DX5_slope_8 FLRX5_15 hA.1 (fv_i rfl hA1.2 : _ = iv ((A.size : Int) - 1)) ?_
      refine v_icmp_gt hx DX5_slope_11 (by omega) (by omega) (fun c11 => ?_) (fun c11 => ?_)
      · skip
        exact v_rv hx hB DX5_slope_34 (⟨by rw [PS.tr_end (PS.der_lt (PS.lt_mono (PS.lt_size hA0.1.1) (by omega)))] at hc; exact hc, hf⟩)
      · skip
        refine v_aload hx DX5_slope_14 1 rfl ?_
        refine v_iload hx DX5_slope_15 0 rfl ?_
        refine v_push hx DX5_slope_16 ?_
        refine v_isub hx DX5_slope_17 ?_
        refine v_iload hx DX5_slope_18 0 rfl ?_
        refine v_aload hx DX5_slope_19 2 rfl ?_
        refine v_iload hx DX5_slope_20 0 rfl ?_
        refine v_cVp hx DX5_slope_21 CVRX5_35 [iv k] (s_at l G Λ sz m hA hA1 (by omega)) hA.1 rfl rfl (Nat.le_of_ble_eq_true rfl) (by decide) ⟨Nat.le_refl _, Nat.le_refl _⟩ ?_
        refine v_imul hx DX5_slope_24 ?_
        refine v_cVv hx DX5_slope_25 CVRX5_43 [iv (k - 1), iv (k * (ca A k))] (s_put l G Λ sz m hT hc (by omega) (by have h1 := ca_rng A k; have h2 := mulb (a := k) (A := 48) (by omega) (by omega) h1.1 h1.2; omega)) hT.1 rfl rfl (Nat.le_of_ble_eq_true rfl) (by decide) ⟨Nat.le_refl _, Nat.le_refl _⟩ (fun μ3 hμ3 => ?_)
        obtain ⟨hP2, hf2⟩ := hμ3
        refine v_iinc hx DX5_slope_28 0 rfl [(2, iv (k + 1)), (0, .ref t), (1, .ref a)] rfl (by decide) ?_
        refine v_goto hx DX5_slope_31 ?_
        exact v_sub [0, 1, 2] _ rfl (ih (k + 1) μ3 (by omega) (by omega) (by rw [show (k + 1 - 1).toNat = (k - 1).toNat + 1 by omega, ← PS.tr_set]; unfold PS.putc at hP2; rw [if_neg (by omega)] at hP2; have e : fi (k * ca A k) = A.der (k - 1).toNat := (by rw [fi_mul, ca_of (by omega), fi_cf]; show _ = fi (((k - 1).toNat : Int) + 1) * A ((k - 1).toNat + 1); rw [show ((k - 1).toNat : Int) + 1 = k by omega, show (k - 1).toNat + 1 = k.toNat by omega]); rw [e] at hP2; exact hP2) (hf.trans hf2))
  refine v_aload hx DX5_slope_0 0 rfl ?_
  refine v_cVv hx DX5_slope_1 CVRX5_29 [] (s_clear l G Λ sz μ hT hP) hT.1 rfl rfl (Nat.le_of_ble_eq_true rfl) (by decide) ⟨Nat.le_refl _, Nat.le_refl _⟩ (fun μ5 hμ5 => ?_)
  obtain ⟨hP1, hf1⟩ := hμ5
  refine v_push hx DX5_slope_4 ?_
  refine v_istore hx DX5_slope_5 [(2, iv 1), (0, .ref t), (1, .ref a)] rfl (by decide) ?_
  exact v_sub [0, 1, 2] _ rfl (L6 100 1 μ5 (by omega) (by omega) (by rw [show (1 - 1 : Int).toNat = 0 from rfl, PS.tr_zero]; exact hP1) hf1)
theorem s_strike (l : Launch) (G : Gl) (Λ : Lay) (sz : Nat) (μ : Mem) {t a m : Nat} {k inv : Int} {P D : PS} (hT : polyK Λ t) (hA : polyK Λ a) (hta : t ≠ a) (hP : CA μ t P) (hD : PA μ a D) (hDz : D.isz (m + 1)) (hk : m ≤ k ∧ k < 48) (hi : 0 ≤ inv ∧ inv ≤ 100) : Sp l G yX5_strike cX5_strike 7 (some FieldType.int) 0 [.ref t, .ref a, iv k, iv inv] Λ sz μ (pI (fun z μ' => z = (cf P k * inv) % 101 ∧ CA μ' t (P.am D (fi (101 - (cf P k * inv) % 101)) (k.toNat - m)) ∧ Fr [t + 1] μ μ')) := by
  refine Sp.intro (by decide) (Nat.le_of_ble_eq_true rfl) (fun x hx hB => ?_)
  refine v_lv [(0, .ref t), (1, .ref a), (2, iv k), (3, iv inv)] rfl ?_
  have hd0 := hD.le
  have hm := PS.size_eq hDz
  have oa := pk_out1 hA hT hta.symm
  have hpr := cf_rng P k
  have hpi := mulb hpr.1 hpr.2 hi.1 hi.2
  obtain ⟨R, hR⟩ : ∃ R, R = (P.am D (fi (101 - (cf P k * inv) % 101)) (k.toNat - m)) := ⟨_, rfl⟩
  rw [← hR] at hB
  have hRl : R.lt 48 := by rw [hR]; exact PS.am_lt hP.1 (PS.lt_size hD.1.1) (by omega)
  obtain ⟨fr, hfr⟩ : ∃ y, y = k - (m : Int) := ⟨_, rfl⟩
  obtain ⟨z, hz⟩ : ∃ y, y = cf P k * inv % 101 := ⟨_, rfl⟩
  have L52 : ∀ (n : Nat) (j : Int) (m' : Mem), (m + 1 - j < (n : Int)) → (0 ≤ j ∧ j ≤ m + 1) → (CA m' t (P.mix R (fr + j).toNat)) → (Fr [t + 1] μ m') → V G x (0, 0) Λ sz m' 52 [(6, iv j), (5, iv z), (4, iv fr), (0, .ref t), (1, .ref a), (2, iv k), (3, iv inv)] [] := by
    intro n
    induction n with
    | zero => intro j m' hm hj hc hf; exact absurd hm (by omega)
    | succ n ih =>
      intro j m' hm hj hc hf
      refine v_iload hx DX5_strike_52 0 rfl ?_
      refine v_aload hx DX5_strike_54 4 rfl ?_
      refine v_get hx DX5_strike_55 FLRX5_15 hA.1 (fv_i rfl (by rw [hf.1 a oa.1]; exact hD.2.trans (by omega)) : _ = iv (m : Int)) ?_
      refine v_icmp_gt hx DX5_strike_58 (by omega) (by omega) (fun c58 => ?_) (fun c58 => ?_)
      · skip
        have hca : CA m' t R := by
          rw [← PS.mix_end (p := P) (q := R) (k := (fr + j).toNat) (fun n hn => by rw [hR, PS.am_at, if_neg (by omega), hDz.2 (n - (k.toNat - m)) (by omega)]; grind)]; exact hc
        refine v_iload hx DX5_strike_109 1 rfl ?_
        exact v_ri hx hB DX5_strike_111 (⟨hz, hca, hf⟩)
      · skip
        refine v_iload hx DX5_strike_61 1 rfl ?_
        refine v_if_eq hx DX5_strike_63 (by omega) (fun c63 => ?_) (fun c63 => ?_)
        · skip
          have hca : CA m' t R := by
            have e : P.mix R (fr + j).toNat = R := PS.mix_end (fun n _ => by rw [hR, ← hz, c63, PS.am_at, show fi (101 - 0) = 0 by decide]; split <;> grind)
            rw [← e]; exact hc
          refine v_iload hx DX5_strike_109 1 rfl ?_
          exact v_ri hx hB DX5_strike_111 (⟨hz, hca, hf⟩)
        · skip
          refine v_aload hx DX5_strike_66 3 rfl ?_
          refine v_get hx DX5_strike_67 FLRX5_9 hT.1 (v := .ref (t + 1)) rfl ?_
          refine v_iload hx DX5_strike_70 2 rfl ?_
          refine v_iload hx DX5_strike_72 0 rfl ?_
          refine v_iadd hx DX5_strike_74 ?_
          refine v_aload hx DX5_strike_75 3 rfl ?_
          refine v_get hx DX5_strike_76 FLRX5_9 hT.1 (v := .ref (t + 1)) rfl ?_
          refine v_iload hx DX5_strike_79 2 rfl ?_
          refine v_iload hx DX5_strike_81 0 rfl ?_
          refine v_iadd hx DX5_strike_83 ?_
          refine v_iald hx DX5_strike_84 hT.2 (by omega) (by decide) (z := cf P (fr + j)) (by rw [hc.2 (fr + j) (by omega) (by omega), cf_mix (by omega) (Int.le_refl _)]) ?_
          refine v_push hx DX5_strike_85 ?_
          refine v_iload hx DX5_strike_87 1 rfl ?_
          refine v_isub hx DX5_strike_89 ?_
          refine v_aload hx DX5_strike_90 4 rfl ?_
          refine v_get hx DX5_strike_91 FLRX5_9 hA.1 (v := .ref (a + 1)) rfl ?_
          refine v_iload hx DX5_strike_94 0 rfl ?_
          refine v_iald hx DX5_strike_96 hA.2 (by omega) (by decide) (z := cf D j) (by rw [hf.1 (a + 1) oa.2]; exact hD.1.2 j (by omega) (by omega)) ?_
          refine v_imul hx DX5_strike_97 ?_
          refine v_iadd hx DX5_strike_98 ?_
          refine v_push hx DX5_strike_99 ?_
          refine v_irem hx (by have h1 := cf_rng P (fr + j); have h2 := cf_rng D j; have h3 := mulb (a := 101 - z) (A := 101) (by omega) (by omega) h2.1 h2.2; omega) (by decide) DX5_strike_101 ?_
          refine v_iastm hx DX5_strike_102 hT.2 (by omega) (by decide) (fun μ1 eμ1 => ?_)
          refine v_iinc hx DX5_strike_103 0 rfl [(6, iv (j + 1)), (5, iv z), (4, iv fr), (0, .ref t), (1, .ref a), (2, iv k), (3, iv inv)] rfl (by decide) ?_
          refine v_goto hx DX5_strike_106 ?_
          exact v_sub [0, 1, 2, 3, 4, 5, 6] _ rfl (ih (j + 1) μ1 (by omega) (by omega) (by rw [eμ1, show fr + (j + 1) = fr + j + 1 by omega]; exact hc.step hRl (by omega) (by omega) (cf_mod (by rw [fi_add, fi_mul, fi_cf, fi_cf, hR, PS.am_at, if_neg (by omega), show (fr + j).toNat - (k.toNat - m) = j.toNat by omega, hz]))) (hf.trans (by rw [eμ1]; exact Fr.mI (by simp))))
  refine v_iload hx DX5_strike_0 2 rfl ?_
  refine v_aload hx DX5_strike_1 1 rfl ?_
  refine v_get hx DX5_strike_2 FLRX5_15 hA.1 (fv_i rfl (hD.2.trans (by omega)) : _ = iv (m : Int)) ?_
  refine v_isub hx DX5_strike_5 ?_
  refine v_top hfr.symm ?_
  refine v_istore hx DX5_strike_6 [(4, iv fr), (0, .ref t), (1, .ref a), (2, iv k), (3, iv inv)] rfl (by decide) ?_
  refine v_iload hx DX5_strike_8 0 rfl ?_
  refine v_if_lt hx DX5_strike_10 (by omega) (fun c10 => ?_) (fun c10 => ?_)
  · exact absurd c10 (by omega)
  · skip
    refine v_iload hx DX5_strike_13 3 rfl ?_
    refine v_aload hx DX5_strike_14 1 rfl ?_
    refine v_get hx DX5_strike_15 FLRX5_9 hT.1 (v := .ref (t + 1)) rfl ?_
    refine v_alenI hx DX5_strike_18 hT.2 (by decide) (z := 48) rfl ?_
    refine v_icmp_ge hx DX5_strike_19 (by omega) (by decide) (fun c19 => ?_) (fun c19 => ?_)
    · exact absurd c19 (by omega)
    · skip
      refine v_aload hx DX5_strike_22 2 rfl ?_
      refine v_get hx DX5_strike_23 FLRX5_15 hA.1 (fv_i rfl (hD.2.trans (by omega)) : _ = iv (m : Int)) ?_
      refine v_aload hx DX5_strike_26 2 rfl ?_
      refine v_get hx DX5_strike_27 FLRX5_9 hA.1 (v := .ref (a + 1)) rfl ?_
      refine v_alenI hx DX5_strike_30 hA.2 (by decide) (z := 48) rfl ?_
      refine v_icmp_lt hx DX5_strike_31 (by omega) (by decide) (fun c31 => ?_) (fun c31 => ?_)
      · skip
        refine v_aload hx DX5_strike_36 1 rfl ?_
        refine v_get hx DX5_strike_37 FLRX5_9 hT.1 (v := .ref (t + 1)) rfl ?_
        refine v_iload hx DX5_strike_40 3 rfl ?_
        refine v_iald hx DX5_strike_41 hT.2 (by omega) (by decide) (z := cf P k) (hP.2 k (by omega) (by omega)) ?_
        refine v_iload hx DX5_strike_42 4 rfl ?_
        refine v_imul hx DX5_strike_43 ?_
        refine v_push hx DX5_strike_44 ?_
        refine v_irem hx (by omega) (by decide) DX5_strike_46 ?_
        refine v_top hz.symm ?_
        refine v_istore hx DX5_strike_47 [(5, iv z), (4, iv fr), (0, .ref t), (1, .ref a), (2, iv k), (3, iv inv)] rfl (by decide) ?_
        refine v_push hx DX5_strike_49 ?_
        refine v_istore hx DX5_strike_50 [(6, iv 0), (5, iv z), (4, iv fr), (0, .ref t), (1, .ref a), (2, iv k), (3, iv inv)] rfl (by decide) ?_
        exact v_sub [0, 1, 2, 3, 4, 5, 6] _ rfl (L52 100 0 μ (by omega) (by omega) (by rw [PS.mix_start (fun n hn => by rw [hR, PS.am_at, if_pos (by omega)])]; exact hP) Fr.rf)
      · exact absurd c31 (by omega)
theorem s_reduceBy (l : Launch) (G : Gl) (Λ : Lay) (sz : Nat) (μ : Mem) {t a : Nat} {p D : PS} (hI : INV G Λ) (hT : polyK Λ t) (hA : polyK Λ a) (hta : t ≠ a) (hP : PA μ t p) (hD : PA μ a D) (hD0 : D ≠ PS.zero) : Sp l G yX5_reduceBy cX5_reduceBy 4 none 1 [.ref t, .ref a] Λ sz μ (pV (fun μ' => PA μ' t (p.md D) ∧ Fr [t, t + 1] μ μ')) := by
  refine Sp.intro (by decide) (Nat.le_of_ble_eq_true rfl) (fun x hx hB => ?_)
  refine v_lv [(0, .ref t), (1, .ref a)] rfl ?_
  have hs := hP.le
  obtain ⟨m, hm48, hm, hDz⟩ := PS.ne_zero_isz hD.1.1 hD0
  have oa := pk_out1 hA hT hta.symm
  have hi := ivI_rng (hdI D)
  have hine := ivI_ne hDz
  have L13 : ∀ (n : Nat) (k : Int) (M : Mem), (k + 1 < (n : Int)) → (-1 ≤ k ∧ k < p.size) → (Fr [t + 1] μ M) → (∃ P Q : PS, CA M t P ∧ P.lt (k + 1).toNat ∧ (∃ N, Q.lt N) ∧ p = (Q.mul D).add P) → V G x (0, 0) Λ sz M 13 [(3, iv k), (2, iv (ivI (hdI D))), (0, .ref t), (1, .ref a)] [] := by
    intro n
    induction n with
    | zero => intro k M hm hk hf hc; exact absurd hm (by omega)
    | succ n ih =>
      intro k M hm hk hf hc
      obtain ⟨P, Q, hcP, hPl, ⟨N, hQl⟩, hpe⟩ := hc
      have hD1 : PA M a D := hD.kept hf oa.1 oa.2
      have hcc : fi (101 - cf P k * ivI (hdI D) % 101) = - (P k.toNat * finv (D m)) := by rw [fi_101, fi_mod, fi_mul, fi_cf, fi_ivI, hdI_eq hDz]
      refine v_iload hx DX5_reduceBy_13 0 rfl ?_
      refine v_aload hx DX5_reduceBy_14 3 rfl ?_
      refine v_get hx DX5_reduceBy_15 FLRX5_15 hA.1 (fv_i rfl (hD1.2.trans (by omega)) : _ = iv (m : Int)) ?_
      refine v_icmp_lt hx DX5_reduceBy_18 (by omega) (by omega) (fun c18 => ?_) (fun c18 => ?_)
      · skip
        refine v_aload hx DX5_reduceBy_39 2 rfl ?_
        refine v_aload hx DX5_reduceBy_40 2 rfl ?_
        refine v_get hx DX5_reduceBy_41 FLRX5_15 hT.1 (fv_i rfl (by rw [hf.1 t (by simp)]; exact hP.2) : _ = iv ((p.size : Int) - 1)) ?_
        refine v_cVv hx DX5_reduceBy_44 CVRX5_25 [iv ((p.size : Int) - 1)] (s_settle l G Λ sz M hT hcP (by omega) (fun j hj => PS.lt_mono hPl (by omega) j (Nat.le_refl j))) hT.1 rfl rfl (Nat.le_of_ble_eq_true rfl) (by decide) ⟨Nat.le_refl _, Nat.le_refl _⟩ (fun μ1 hμ1 => ?_)
        exact v_rv hx hB DX5_reduceBy_47 (⟨by rw [hμ1, (PS.md_eq hDz hQl (PS.lt_mono hPl (by omega)) hpe).1]; exact PA.of hcP, by rw [hμ1]; exact (hf.mono (by simp)).trans (Fr.mI (by simp))⟩)
      · skip
        refine v_iload hx DX5_reduceBy_21 1 rfl ?_
        refine v_if_eq hx DX5_reduceBy_22 (by omega) (fun c22 => ?_) (fun c22 => ?_)
        · exact absurd c22 (by omega)
        · skip
          refine v_aload hx DX5_reduceBy_25 2 rfl ?_
          refine v_aload hx DX5_reduceBy_26 3 rfl ?_
          refine v_iload hx DX5_reduceBy_27 0 rfl ?_
          refine v_iload hx DX5_reduceBy_28 1 rfl ?_
          refine v_cVi hx DX5_reduceBy_29 CVRX5_54 [.ref a, iv k, iv (ivI (hdI D))] (s_strike l G Λ sz M hT hA hta hcP hD1 hDz (by omega) hi) hT.1 rfl rfl (Nat.le_of_ble_eq_true rfl) (by decide) ⟨Nat.le_refl _, Nat.le_refl _⟩ (fun z4 μ3 hμ3 => ?_)
          obtain ⟨hz, hca, hf2⟩ := hμ3
          refine v_pop hx DX5_reduceBy_32 rfl ?_
          refine v_iinc hx DX5_reduceBy_33 0 rfl [(3, iv (k + (-1))), (2, iv (ivI (hdI D))), (0, .ref t), (1, .ref a)] rfl (by decide) ?_
          refine v_goto hx DX5_reduceBy_36 ?_
          exact v_sub [0, 1, 2, 3] _ rfl (ih (k + (-1)) μ3 (by omega) (by omega) (hf.trans hf2) ⟨_, Q.add ((PS.C (P k.toNat * finv (D m))).sh (k.toNat - m)), hca, by rw [hcc, show (k + (-1) + 1).toNat = k.toNat by omega]; exact PS.strike_at hDz (PS.lt_mono hPl (by omega)) (by omega), ⟨N + k.toNat + 1, PS.lt_add (PS.lt_mono hQl (by omega)) (PS.lt_mono (PS.C_sh_lt _ _) (by omega))⟩, by rw [hcc]; exact PS.div_step hpe⟩)
  refine v_aload hx DX5_reduceBy_0 1 rfl ?_
  refine v_cVp hx DX5_reduceBy_1 CVRX5_47 [] (s_head l G Λ sz μ hA hD) hA.1 rfl rfl (Nat.le_of_ble_eq_true rfl) (by decide) ⟨Nat.le_refl _, Nat.le_refl _⟩ ?_
  refine v_cNp hx DX5_reduceBy_4 CSRX5_51 [iv (hdI D)] (s_inverse l G Λ sz μ hI (hdI_rng D)) rfl rfl (Nat.le_of_ble_eq_true rfl) (by decide) ⟨Nat.le_refl _, Nat.le_refl _⟩ ?_
  refine v_istore hx DX5_reduceBy_7 [(2, iv (ivI (hdI D))), (0, .ref t), (1, .ref a)] rfl (by decide) ?_
  refine v_aload hx DX5_reduceBy_8 1 rfl ?_
  refine v_get hx DX5_reduceBy_9 FLRX5_15 hT.1 (fv_i rfl hP.2 : _ = iv ((p.size : Int) - 1)) ?_
  refine v_istore hx DX5_reduceBy_12 [(3, iv ((p.size : Int) - 1)), (2, iv (ivI (hdI D))), (0, .ref t), (1, .ref a)] rfl (by decide) ?_
  exact v_sub [0, 1, 2, 3] _ rfl (L13 100 ((p.size : Int) - 1) μ (by omega) (by omega) Fr.rf ⟨p, PS.zero, hP.1, PS.lt_mono (PS.lt_size hP.1.1) (by omega), ⟨0, PS.zero_lt 0⟩, PS.div0 p D⟩)
theorem s_valueAt (l : Launch) (G : Gl) (Λ : Lay) (sz : Nat) (μ : Mem) {t : Nat} {v : Int} {p : PS} (hT : polyK Λ t) (hP : PA μ t p) (hv : 0 ≤ v ∧ v ≤ 100) : Sp l G yX5_valueAt cX5_valueAt 4 (some FieldType.int) 1 [.ref t, iv v] Λ sz μ (pP μ (evI p v 0)) := by
  refine Sp.intro (by decide) (Nat.le_of_ble_eq_true rfl) (fun x hx hB => ?_)
  refine v_lv [(0, .ref t), (1, iv v)] rfl ?_
  have hs := hP.le
  have L7 : ∀ (n : Nat) (k z : Int), (k + 1 < (n : Int)) → (-1 ≤ k ∧ k < p.size) → (z = evI p v (k + 1).toNat) → V G x (0, 0) Λ sz μ 7 [(3, iv k), (2, iv z), (0, .ref t), (1, iv v)] [] := by
    intro n
    induction n with
    | zero => intro k z hm hk hz; exact absurd hm (by omega)
    | succ n ih =>
      intro k z hm hk hz
      have hzr := evI_rng p v (k + 1).toNat
      refine v_iload hx DX5_valueAt_7 0 rfl ?_
      refine v_if_lt hx DX5_valueAt_8 (by omega) (fun c8 => ?_) (fun c8 => ?_)
      · skip
        refine v_iload hx DX5_valueAt_30 1 rfl ?_
        exact v_ri hx hB DX5_valueAt_31 (⟨rfl, by rw [hz, show (k + 1).toNat = 0 by omega]⟩)
      · skip
        refine v_iload hx DX5_valueAt_11 1 rfl ?_
        refine v_iload hx DX5_valueAt_12 3 rfl ?_
        refine v_imul hx DX5_valueAt_13 ?_
        refine v_aload hx DX5_valueAt_14 2 rfl ?_
        refine v_iload hx DX5_valueAt_15 0 rfl ?_
        refine v_cVp hx DX5_valueAt_16 CVRX5_35 [iv k] (s_at l G Λ sz μ hT hP (by omega)) hT.1 rfl rfl (Nat.le_of_ble_eq_true rfl) (by decide) ⟨Nat.le_refl _, Nat.le_refl _⟩ ?_
        refine v_iadd hx DX5_valueAt_19 ?_
        refine v_push hx DX5_valueAt_20 ?_
        refine v_irem hx (by have h1 := ca_rng p k; have h2 := mulb (a := z) (A := 100) (by omega) (by omega) hv.1 hv.2; omega) (by decide) DX5_valueAt_22 ?_
        refine v_istore hx DX5_valueAt_23 [(2, iv (((z * v) + (ca p k)) % 101)), (3, iv k), (0, .ref t), (1, iv v)] rfl (by decide) ?_
        refine v_iinc hx DX5_valueAt_24 1 rfl [(3, iv (k + (-1))), (2, iv (((z * v) + (ca p k)) % 101)), (0, .ref t), (1, iv v)] rfl (by decide) ?_
        refine v_goto hx DX5_valueAt_27 ?_
        exact v_sub [0, 1, 2, 3] _ rfl (ih (k + (-1)) (((z * v) + (ca p k)) % 101) (by omega) (by omega) (by rw [hz, show (k + 1).toNat = k.toNat + 1 by omega, show (k + (-1) + 1).toNat = k.toNat by omega]; exact evI_step (by omega) (by rw [ca_of (by omega), fi_cf])))
  refine v_push hx DX5_valueAt_0 ?_
  refine v_istore hx DX5_valueAt_1 [(2, iv 0), (0, .ref t), (1, iv v)] rfl (by decide) ?_
  refine v_aload hx DX5_valueAt_2 1 rfl ?_
  refine v_get hx DX5_valueAt_3 FLRX5_15 hT.1 (fv_i rfl hP.2 : _ = iv ((p.size : Int) - 1)) ?_
  refine v_istore hx DX5_valueAt_6 [(3, iv ((p.size : Int) - 1)), (2, iv 0), (0, .ref t), (1, iv v)] rfl (by decide) ?_
  exact v_sub [0, 1, 2, 3] _ rfl (L7 100 ((p.size : Int) - 1) 0 (by omega) (by omega) (evI_zero (PS.lt_mono (PS.lt_size hP.1.1) (by omega))).symm)
