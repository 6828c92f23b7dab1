theorem q_cancel (l : Launch) (G : Gl) (Λ : Lay) (sz : Nat) (μ : Mem) {π : Nat → PS} {κ p r s t : Nat} (hA : AB Λ μ π) (hI : INV G Λ) (hkp : polyK Λ p) (hkr : polyK Λ r) (hks : polyK Λ s) (hkt : polyK Λ t) (hne : p ≠ r ∧ p ≠ s ∧ p ≠ t ∧ r ≠ s ∧ r ≠ t ∧ s ≠ t) (hK : kitK Λ κ) (hr0 : π r ≠ PS.zero) (hsz : (π t).size + (π p).size ≤ 48 + (π r).size) : Sp l G yX3_cancel cX3_cancel 8 none 2 [.ref κ, .ref p, .ref r, .ref s, .ref t] Λ sz μ (pV (fun μ' => ∃ π', Chg Λ (fun c => c = p ∨ c = s) μ μ' π π' ∧ π' p = (π p).md (π r) ∧ π' s = (π s).sub (((π p).dv (π r)).mul (π t)))) := by
  refine Sp.intro (by decide) (Nat.le_of_ble_eq_true rfl) (fun x hx hB => ?_)
  refine v_lv [(0, .ref κ), (1, .ref p), (2, .ref r), (3, .ref s), (4, .ref t)] rfl ?_
  have lp := (hA p hkp).1.1
  have lr := (hA r hkr).1.1
  have lt := (hA t hkt).1.1
  have sp := PS.size_le lp
  have stt := PS.size_le lt
  obtain ⟨m, hm48, hm, hDz⟩ := PS.ne_zero_isz lr hr0
  have hi := ivI_rng (hdI (π r))
  have hch0 : Chg Λ (fun c => c = p ∨ c = s) μ μ π π := Chg.rf hA
  have L15 : ∀ (nf : Nat) (k : Int) (P Q : PS) (M : Mem) (πk : Nat → PS), (k + 1 < (nf : Int)) → (Chg Λ (fun c => c = p ∨ c = s) μ M π πk) → (πk p = P) → (πk r = π r) → (πk s = (π s).sub (Q.mul (π t))) → (πk t = π t) → (-1 ≤ k ∧ k < (π p).size) → (P.lt (k + 1).toNat) → (Q.lt 48) → (π p = (Q.mul (π r)).add P) → V G x (0, 0) Λ sz M 15 [(6, iv k), (5, iv (ivI (hdI (π r)))), (0, .ref κ), (1, .ref p), (2, .ref r), (3, .ref s), (4, .ref t)] [] := by
    intro nf
    induction nf with
    | zero => intro k P Q M πk hm hchπk vπk_0 vπk_1 vπk_2 vπk_3 hk hPl hQl hpe; exact absurd hm (by omega)
    | succ nf ih =>
      intro k P Q M πk hm hchπk vπk_0 vπk_1 vπk_2 vπk_3 hk hPl hQl hpe
      have hAπk := hchπk.1
      refine v_iload hx DX3_cancel_15 0 rfl ?_
      refine v_aload hx DX3_cancel_17 4 rfl ?_
      refine v_get hx DX3_cancel_18 FLRX3_43 hkr.1 (fv_i rfl ((AB.get hAπk hkr vπk_1).2.trans (by omega)) : _ = iv (m : Int)) ?_
      refine v_icmp_lt hx DX3_cancel_21 (by omega) (by omega) (fun c21 => ?_) (fun c21 => ?_)
      · skip
        have hmd := PS.md_eq hDz hQl (PS.lt_mono hPl (by omega)) hpe
        have hfin : πk p = (π p).md (π r) ∧ πk s = (π s).sub (((π p).dv (π r)).mul (π t)) := by rw [hmd.1, hmd.2]; exact ⟨vπk_0, vπk_2⟩
        exact v_rv hx hB DX3_cancel_76 (⟨πk, hchπk, hfin.1, hfin.2⟩)
      · skip
        refine v_push hx DX3_cancel_24 ?_
        refine v_aload hx DX3_cancel_26 3 rfl ?_
        refine v_iload hx DX3_cancel_27 0 rfl ?_
        refine v_cVp hx DX3_cancel_29 CVRX3_72 [iv k] (s_at l G Λ sz M hkp (AB.get (A := P) hAπk hkp vπk_0) (by omega)) hkp.1 rfl rfl (Nat.le_of_ble_eq_true rfl) (by decide) ⟨Nat.le_refl _, Nat.le_refl _⟩ ?_
        refine v_iload hx DX3_cancel_32 1 rfl ?_
        refine v_imul hx DX3_cancel_34 ?_
        refine v_push hx DX3_cancel_35 ?_
        refine v_irem hx (by have h1 := ca_rng P k; have h2 := mulb h1.1 h1.2 hi.1 hi.2; omega) (by decide) DX3_cancel_37 ?_
        refine v_isub hx DX3_cancel_38 ?_
        obtain ⟨fc, hfc⟩ : ∃ y, y = 101 - (ca P k * ivI (hdI (π r))) % 101 := ⟨_, rfl⟩
        refine v_top hfc.symm ?_
        have hcc : fi fc = - (P k.toNat * finv (π r m)) := by rw [hfc, fi_101, fi_mod, fi_mul, ca_of (by omega), fi_cf, fi_ivI, hdI_eq hDz]
        refine v_istore hx DX3_cancel_39 [(7, iv fc), (6, iv k), (5, iv (ivI (hdI (π r)))), (0, .ref κ), (1, .ref p), (2, .ref r), (3, .ref s), (4, .ref t)] rfl (by decide) ?_
        refine v_aload hx DX3_cancel_41 4 rfl ?_
        refine v_aload hx DX3_cancel_42 5 rfl ?_
        refine v_iload hx DX3_cancel_43 0 rfl ?_
        refine v_iload hx DX3_cancel_45 1 rfl ?_
        refine v_aload hx DX3_cancel_47 5 rfl ?_
        refine v_get hx DX3_cancel_48 FLRX3_43 hkr.1 (fv_i rfl ((AB.get hAπk hkr vπk_1).2.trans (by omega)) : _ = iv (m : Int)) ?_
        refine v_isub hx DX3_cancel_51 ?_
        refine v_cVv hx DX3_cancel_52 CVRX3_75 [.ref r, iv fc, iv (k - (m : Int))] (s_addMultiple l G Λ sz M hkp hkr (by omega) (AB.get (A := P) hAπk hkp vπk_0) (AB.get (A := π r) hAπk hkr vπk_1) (by omega) (by omega) (by omega)) hkp.1 rfl rfl (Nat.le_of_ble_eq_true rfl) (by decide) ⟨Nat.le_refl _, Nat.le_refl _⟩ (fun μ2 hμ2 => ?_)
        obtain ⟨π2, hc2, he2, ho2⟩ := Chg.one (S := fun c => c = p ∨ c = s) (R := PS.am P (π r) (fi fc) (Int.toNat (k - (m : Int)))) hAπk hkp (by first | omega | (dsimp only; omega)) hμ2
        have hA2 := hc2.1
        have hch2 := hchπk.trans hc2
        have v2_1 : π2 r = π r := (ho2 r (by omega)).trans vπk_1
        have v2_2 : π2 s = (π s).sub (Q.mul (π t)) := (ho2 s (by omega)).trans vπk_2
        have v2_3 : π2 t = π t := (ho2 t (by omega)).trans vπk_3
        have w3 : π2 p = P.am (π r) (- (P k.toNat * finv (π r m))) (k.toNat - m) := he2.trans (by rw [hcc, show (k - (m : Int)).toNat = k.toNat - m by omega])
        refine v_aload hx DX3_cancel_55 6 rfl ?_
        refine v_aload hx DX3_cancel_56 7 rfl ?_
        refine v_iload hx DX3_cancel_58 0 rfl ?_
        refine v_iload hx DX3_cancel_60 1 rfl ?_
        refine v_aload hx DX3_cancel_62 5 rfl ?_
        refine v_get hx DX3_cancel_63 FLRX3_43 hkr.1 (fv_i rfl ((AB.get hA2 hkr v2_1).2.trans (by omega)) : _ = iv (m : Int)) ?_
        refine v_isub hx DX3_cancel_66 ?_
        refine v_cVv hx DX3_cancel_67 CVRX3_75 [.ref t, iv fc, iv (k - (m : Int))] (s_addMultiple l G Λ sz μ2 hks hkt (by omega) (AB.get (A := (π s).sub (Q.mul (π t))) hA2 hks v2_2) (AB.get (A := π t) hA2 hkt v2_3) (by omega) (by omega) (by omega)) hks.1 rfl rfl (Nat.le_of_ble_eq_true rfl) (by decide) ⟨Nat.le_refl _, Nat.le_refl _⟩ (fun μ4 hμ4 => ?_)
        obtain ⟨π4, hc4, he4, ho4⟩ := Chg.one (S := fun c => c = p ∨ c = s) (R := PS.am ((π s).sub (Q.mul (π t))) (π t) (fi fc) (Int.toNat (k - (m : Int)))) hA2 hks (by first | omega | (dsimp only; omega)) hμ4
        have hA4 := hc4.1
        have hch4 := hch2.trans hc4
        have v4_0 : π4 r = π r := (ho4 r (by omega)).trans v2_1
        have v4_2 : π4 t = π t := (ho4 t (by omega)).trans v2_3
        have v4_3 : π4 p = P.am (π r) (- (P k.toNat * finv (π r m))) (k.toNat - m) := (ho4 p (by omega)).trans w3
        have w5 : π4 s = (π s).sub ((Q.add ((PS.C (P k.toNat * finv (π r m))).sh (k.toNat - m))).mul (π t)) := he4.trans (by rw [hcc, show (k - (m : Int)).toNat = k.toNat - m by omega]; exact PS.sub_am)
        refine v_iinc hx DX3_cancel_70 1 rfl [(6, iv (k + (-1))), (7, iv fc), (5, iv (ivI (hdI (π r)))), (0, .ref κ), (1, .ref p), (2, .ref r), (3, .ref s), (4, .ref t)] rfl (by decide) ?_
        refine v_goto hx DX3_cancel_73 ?_
        exact v_sub [0, 2, 3, 4, 5, 6, 7] _ rfl (ih (k + (-1)) (P.am (π r) (- (P k.toNat * finv (π r m))) (k.toNat - m)) (Q.add ((PS.C (P k.toNat * finv (π r m))).sh (k.toNat - m))) μ4 π4 (by omega) hch4 v4_3 v4_0 w5 v4_2 (by omega) (PS.lt_mono (PS.strike_at hDz (PS.lt_mono hPl (by omega)) (by omega)) (by omega)) (PS.lt_add hQl (PS.lt_mono (PS.C_sh_lt _ _) (by omega))) (PS.div_step hpe))
  refine v_aload hx DX3_cancel_0 2 rfl ?_
  refine v_cVp hx DX3_cancel_1 CVRX3_50 [] (s_head l G Λ sz μ hkr (AB.get (A := π r) hA hkr rfl)) hkr.1 rfl rfl (Nat.le_of_ble_eq_true rfl) (by decide) ⟨Nat.le_refl _, Nat.le_refl _⟩ ?_
  refine v_cNp hx DX3_cancel_4 CSRX3_54 [iv (hdI (π r))] (s_inverse l G Λ sz μ hI (hdI_rng (π r))) rfl rfl (Nat.le_of_ble_eq_true rfl) (by decide) ⟨Nat.le_refl _, Nat.le_refl _⟩ ?_
  refine v_istore hx DX3_cancel_7 [(5, iv (ivI (hdI (π r)))), (0, .ref κ), (1, .ref p), (2, .ref r), (3, .ref s), (4, .ref t)] rfl (by decide) ?_
  refine v_aload hx DX3_cancel_9 2 rfl ?_
  refine v_get hx DX3_cancel_10 FLRX3_43 hkp.1 (fv_i rfl ((hA p hkp).2) : _ = iv (((π p).size : Int) - 1)) ?_
  refine v_istore hx DX3_cancel_13 [(6, iv (((π p).size : Int) - 1)), (5, iv (ivI (hdI (π r)))), (0, .ref κ), (1, .ref p), (2, .ref r), (3, .ref s), (4, .ref t)] rfl (by decide) ?_
  exact v_sub [0, 1, 2, 3, 4, 5, 6] _ rfl (L15 100 (((π p).size : Int) - 1) (π p) PS.zero μ π (by omega) hch0 rfl rfl (rfl.trans ((PS.sub_zero_mul _ _).symm)) rfl (by omega) (PS.lt_mono (PS.lt_size lp) (by omega)) (PS.zero_lt _) (PS.div0 _ _))
theorem q_invert (l : Launch) (G : Gl) (Λ : Lay) (sz : Nat) (μ : Mem) {π : Nat → PS} {κ a b o : Nat} (hA : AB Λ μ π) (hI : INV G Λ) (hK : kitK Λ κ) (hka : polyK Λ a) (hkb : polyK Λ b) (hko : polyK Λ o) (oa : a ≤ κ ∨ κ + 8 < a) (ob : b ≤ κ ∨ κ + 8 < b) (oo : o ≤ κ ∨ κ + 8 < o) (hb0 : 1 < (π b).size) : Sp l G yX3_invert cX3_invert 10 none 3 [.ref κ, .ref a, .ref b, .ref o] Λ sz μ (pV (fun μ' => ∃ π', Chg Λ (fun c => c = o ∨ (κ < c ∧ c < κ + 9)) μ μ' π π' ∧ π' o = (π a).inv (π b))) := by
  refine Sp.intro (by decide) (Nat.le_of_ble_eq_true rfl) (fun x hx hB => ?_)
  refine v_lv [(0, .ref κ), (1, .ref a), (2, .ref b), (3, .ref o)] rfl ?_
  have la := (hA a hka).1.1
  have lb := (hA b hkb).1.1
  have sb := PS.size_le lb
  have hbn := PS.ne_of_size (show 0 < (π b).size by omega)
  have hmd0 := PS.md_size la lb hbn
  have hch0 : Chg Λ (fun c => c = o ∨ (κ < c ∧ c < κ + 9)) μ μ π π := Chg.rf hA
  have L56 : ∀ (nf : Nat) (k : Int) (P R Sa Ta : Nat) (A B s t : PS) (nn : Nat) (m : Mem) (πk : Nat → PS), (49 - k < (nf : Int)) → (Chg Λ (fun c => c = o ∨ (κ < c ∧ c < κ + 9)) μ m π πk) → (πk P = A) → (πk R = B) → (πk Sa = s) → (πk Ta = t) → (((P = κ + 1 ∧ R = κ + 3) ∨ (P = κ + 3 ∧ R = κ + 1)) ∧ ((Sa = κ + 5 ∧ Ta = κ + 7) ∨ (Sa = κ + 7 ∧ Ta = κ + 5))) → (0 ≤ k ∧ B.size + k ≤ 48) → (A.lt 48 ∧ B.lt 48) → (s.lt nn ∧ t.lt nn ∧ nn + A.size ≤ (π b).size + 1 ∧ B.size < A.size) → (PS.ex 200 (π b) ((π a).md (π b)) PS.zero PS.one = PS.ex 200 A B s t) → V G x (0, 0) Λ sz m 56 [(8, iv k), (4, .ref P), (5, .ref R), (6, .ref Sa), (7, .ref Ta), (0, .ref κ), (1, .ref a), (2, .ref b), (3, .ref o)] [] := by
    intro nf
    induction nf with
    | zero => intro k P R Sa Ta A B s t nn m πk hm hchπk vπk_0 vπk_1 vπk_2 vπk_3 hPR hk hl hn hE; exact absurd hm (by omega)
    | succ nf ih =>
      intro k P R Sa Ta A B s t nn m πk hm hchπk vπk_0 vπk_1 vπk_2 vπk_3 hPR hk hl hn hE
      have hAπk := hchπk.1
      have hkP : polyK Λ P := hPR.1.elim (fun h => by rw [h.1]; exact hK.2.1.1) (fun h => by rw [h.1]; exact hK.2.1.2.1)
      have hkR : polyK Λ R := hPR.1.elim (fun h => by rw [h.2]; exact hK.2.1.2.1) (fun h => by rw [h.2]; exact hK.2.1.1)
      have hkS : polyK Λ Sa := hPR.2.elim (fun h => by rw [h.1]; exact hK.2.1.2.2.1) (fun h => by rw [h.1]; exact hK.2.1.2.2.2)
      have hkT : polyK Λ Ta := hPR.2.elim (fun h => by rw [h.2]; exact hK.2.1.2.2.2) (fun h => by rw [h.2]; exact hK.2.1.2.2.1)
      have hsB := PS.size_le hl.2
      have hst := PS.size_le hn.2.1
      refine v_iload hx DX3_invert_56 0 rfl ?_
      refine v_push hx DX3_invert_58 ?_
      refine v_icmp_ge hx DX3_invert_60 (by omega) (by decide) (fun c60 => ?_) (fun c60 => ?_)
      · exact absurd c60 (by omega)
      · skip
        refine v_aload hx DX3_invert_63 2 rfl ?_
        refine v_get hx DX3_invert_65 FLRX3_43 hkR.1 (fv_i rfl ((AB.get hAπk hkR vπk_1).2) : _ = iv ((B.size : Int) - 1)) ?_
        refine v_if_le hx DX3_invert_68 (by omega) (fun c68 => ?_) (fun c68 => ?_)
        · skip
          have hEB : PS.ex 200 (π b) ((π a).md (π b)) PS.zero PS.one = (B, t) := by rw [hE, PS.ex_end (by omega)]
          refine v_aload hx DX3_invert_113 8 rfl ?_
          refine v_aload hx DX3_invert_114 4 rfl ?_
          refine v_cVv hx DX3_invert_116 CVRX3_39 [.ref Ta] (s_become l G Λ sz m hko hkT (by omega) (AB.get (A := πk o) hAπk hko rfl) (AB.get (A := t) hAπk hkT vπk_3)) hko.1 rfl rfl (Nat.le_of_ble_eq_true rfl) (by decide) ⟨Nat.le_refl _, Nat.le_refl _⟩ (fun μ1 hμ1 => ?_)
          obtain ⟨π1, hc1, he1, ho1⟩ := Chg.one (S := fun c => c = o ∨ (κ < c ∧ c < κ + 9)) (R := t) hAπk hko (by first | omega | (dsimp only; omega)) hμ1
          have hA1 := hc1.1
          have hch1 := hchπk.trans hc1
          have v1_0 : π1 P = A := (ho1 P (by omega)).trans vπk_0
          have v1_1 : π1 R = B := (ho1 R (by omega)).trans vπk_1
          have v1_2 : π1 Sa = s := (ho1 Sa (by omega)).trans vπk_2
          have v1_3 : π1 Ta = t := (ho1 Ta (by omega)).trans vπk_3
          refine v_aload hx DX3_invert_119 8 rfl ?_
          refine v_aload hx DX3_invert_120 2 rfl ?_
          refine v_cVp hx DX3_invert_122 CVRX3_50 [] (s_head l G Λ sz μ1 hkR (AB.get (A := B) hA1 hkR v1_1)) hkR.1 rfl rfl (Nat.le_of_ble_eq_true rfl) (by decide) ⟨Nat.le_refl _, Nat.le_refl _⟩ ?_
          refine v_cNp hx DX3_invert_125 CSRX3_54 [iv (hdI B)] (s_inverse l G Λ sz μ1 hI (hdI_rng B)) rfl rfl (Nat.le_of_ble_eq_true rfl) (by decide) ⟨Nat.le_refl _, Nat.le_refl _⟩ ?_
          refine v_cVv hx DX3_invert_128 CVRX3_58 [iv (ivI (hdI B))] (s_scale l G Λ sz μ1 hko (AB.get (A := t) hA1 hko he1) (by have := ivI_rng (hdI B); omega)) hko.1 rfl rfl (Nat.le_of_ble_eq_true rfl) (by decide) ⟨Nat.le_refl _, Nat.le_refl _⟩ (fun μ5 hμ5 => ?_)
          obtain ⟨π5, hc5, he5, ho5⟩ := Chg.one (S := fun c => c = o ∨ (κ < c ∧ c < κ + 9)) (R := PS.sm (fi (ivI (hdI B))) t) hA1 hko (by first | omega | (dsimp only; omega)) hμ5
          have hA5 := hc5.1
          have hch5 := hch1.trans hc5
          have v5_0 : π5 P = A := (ho5 P (by omega)).trans v1_0
          have v5_1 : π5 R = B := (ho5 R (by omega)).trans v1_1
          have v5_2 : π5 Sa = s := (ho5 Sa (by omega)).trans v1_2
          have v5_3 : π5 Ta = t := (ho5 Ta (by omega)).trans v1_3
          have w6 : π5 o = (π a).inv (π b) := he5.trans (by unfold PS.inv; rw [hEB, fi_ivI])
          exact v_rv hx hB DX3_invert_131 (⟨π5, hch5, w6⟩)
        · skip
          have hB1 : ¬ B.size ≤ 1 := by omega
          have hB0 := PS.ne_of_size (show 0 < B.size by omega)
          obtain ⟨m1, -, hm1, hBz⟩ := PS.ne_zero_isz hl.2 hB0
          have hmd := PS.md_size hl.1 hl.2 hB0
          have hsA := PS.size_le hl.1
          refine v_aload hx DX3_invert_71 5 rfl ?_
          refine v_aload hx DX3_invert_72 1 rfl ?_
          refine v_aload hx DX3_invert_74 2 rfl ?_
          refine v_aload hx DX3_invert_76 3 rfl ?_
          refine v_aload hx DX3_invert_78 4 rfl ?_
          refine v_cVv hx DX3_invert_80 CVRX3_68 [.ref P, .ref R, .ref Sa, .ref Ta] (q_cancel l G Λ sz m hAπk hI hkP hkR hkS hkT (by omega) hK (by rw [vπk_1]; exact hB0) (by rw [vπk_0, vπk_1, vπk_3]; omega)) hK.1 rfl rfl (Nat.le_of_ble_eq_true rfl) (by decide) ⟨Nat.le_refl _, Nat.le_refl _⟩ (fun μ7 hμ7 => ?_)
          obtain ⟨π7, hc7, he7_0, he7_1⟩ := hμ7
          have hA7 := hc7.1
          have hch7 := hchπk.trans (hc7.mono (fun c hc => by first | omega | (dsimp only at hc ⊢; omega)))
          have v7_1 : π7 R = B := (hc7.2.1 R (by first | omega | (dsimp only; omega))).trans vπk_1
          have v7_3 : π7 Ta = t := (hc7.2.1 Ta (by first | omega | (dsimp only; omega))).trans vπk_3
          have g7_0 : π7 P = PS.md A B := he7_0.trans (by rw [vπk_0, vπk_1])
          have g7_1 : π7 Sa = PS.sub s (PS.mul (PS.dv A B) t) := he7_1.trans (by rw [vπk_0, vπk_1, vπk_2, vπk_3])
          refine v_aload hx DX3_invert_83 1 rfl ?_
          refine v_astore hx DX3_invert_85 [(9, .ref P), (8, iv k), (4, .ref P), (5, .ref R), (6, .ref Sa), (7, .ref Ta), (0, .ref κ), (1, .ref a), (2, .ref b), (3, .ref o)] rfl (by decide) ?_
          refine v_aload hx DX3_invert_87 3 rfl ?_
          refine v_astore hx DX3_invert_89 [(4, .ref R), (9, .ref P), (8, iv k), (5, .ref R), (6, .ref Sa), (7, .ref Ta), (0, .ref κ), (1, .ref a), (2, .ref b), (3, .ref o)] rfl (by decide) ?_
          refine v_aload hx DX3_invert_91 1 rfl ?_
          refine v_astore hx DX3_invert_93 [(5, .ref P), (4, .ref R), (9, .ref P), (8, iv k), (6, .ref Sa), (7, .ref Ta), (0, .ref κ), (1, .ref a), (2, .ref b), (3, .ref o)] rfl (by decide) ?_
          refine v_aload hx DX3_invert_95 4 rfl ?_
          refine v_astore hx DX3_invert_97 [(9, .ref Sa), (5, .ref P), (4, .ref R), (8, iv k), (6, .ref Sa), (7, .ref Ta), (0, .ref κ), (1, .ref a), (2, .ref b), (3, .ref o)] rfl (by decide) ?_
          refine v_aload hx DX3_invert_99 5 rfl ?_
          refine v_astore hx DX3_invert_101 [(6, .ref Ta), (9, .ref Sa), (5, .ref P), (4, .ref R), (8, iv k), (7, .ref Ta), (0, .ref κ), (1, .ref a), (2, .ref b), (3, .ref o)] rfl (by decide) ?_
          refine v_aload hx DX3_invert_103 1 rfl ?_
          refine v_astore hx DX3_invert_105 [(7, .ref Sa), (6, .ref Ta), (9, .ref Sa), (5, .ref P), (4, .ref R), (8, iv k), (0, .ref κ), (1, .ref a), (2, .ref b), (3, .ref o)] rfl (by decide) ?_
          refine v_iinc hx DX3_invert_107 5 rfl [(8, iv (k + 1)), (7, .ref Sa), (6, .ref Ta), (9, .ref Sa), (5, .ref P), (4, .ref R), (0, .ref κ), (1, .ref a), (2, .ref b), (3, .ref o)] rfl (by decide) ?_
          refine v_goto hx DX3_invert_110 ?_
          exact v_sub [0, 5, 4, 2, 1, 6, 7, 8, 9] _ rfl (ih (k + 1) R P Ta Sa B (PS.md A B) t (PS.sub s (PS.mul (PS.dv A B) t)) (nn + A.size - B.size) μ7 π7 (by omega) hch7 v7_1 g7_0 v7_3 g7_1 (by omega) (by omega) ⟨hl.2, hmd.2.1⟩ ⟨PS.lt_mono hn.2.1 (by omega), PS.lt_sub (PS.lt_mono hn.1 (by omega)) (PS.lt_mul' (PS.dv_lt (N := A.size - B.size + 1) hBz (PS.lt_mono (PS.lt_size hl.1) (by omega))) hn.2.1 (by omega)), by omega, hmd.1⟩ (by rw [hE, PS.ex_step (n := 199) hB1]; exact PS.ex_fuel 199 200 _ _ _ _ 48 hl.2 hmd.2.1 (by omega) (by omega)))
  refine v_aload hx DX3_invert_0 0 rfl ?_
  refine v_get hx DX3_invert_1 FLRX3_12 hK.1 (v := .ref (κ + 1)) rfl ?_
  refine v_astore hx DX3_invert_4 [(4, .ref (κ + 1)), (0, .ref κ), (1, .ref a), (2, .ref b), (3, .ref o)] rfl (by decide) ?_
  refine v_aload hx DX3_invert_6 1 rfl ?_
  refine v_get hx DX3_invert_7 FLRX3_18 hK.1 (v := .ref (κ + 3)) rfl ?_
  refine v_astore hx DX3_invert_10 [(5, .ref (κ + 3)), (4, .ref (κ + 1)), (0, .ref κ), (1, .ref a), (2, .ref b), (3, .ref o)] rfl (by decide) ?_
  refine v_aload hx DX3_invert_12 2 rfl ?_
  refine v_get hx DX3_invert_13 FLRX3_21 hK.1 (v := .ref (κ + 5)) rfl ?_
  refine v_astore hx DX3_invert_16 [(6, .ref (κ + 5)), (5, .ref (κ + 3)), (4, .ref (κ + 1)), (0, .ref κ), (1, .ref a), (2, .ref b), (3, .ref o)] rfl (by decide) ?_
  refine v_aload hx DX3_invert_18 3 rfl ?_
  refine v_get hx DX3_invert_19 FLRX3_24 hK.1 (v := .ref (κ + 7)) rfl ?_
  refine v_astore hx DX3_invert_22 [(7, .ref (κ + 7)), (6, .ref (κ + 5)), (5, .ref (κ + 3)), (4, .ref (κ + 1)), (0, .ref κ), (1, .ref a), (2, .ref b), (3, .ref o)] rfl (by decide) ?_
  refine v_aload hx DX3_invert_24 3 rfl ?_
  refine v_aload hx DX3_invert_26 6 rfl ?_
  refine v_cVv hx DX3_invert_27 CVRX3_39 [.ref b] (s_become l G Λ sz μ hK.2.1.1 hkb (by omega) (AB.get (A := π (κ + 1)) hA hK.2.1.1 rfl) (AB.get (A := π b) hA hkb rfl)) hK.2.1.1.1 rfl rfl (Nat.le_of_ble_eq_true rfl) (by decide) ⟨Nat.le_refl _, Nat.le_refl _⟩ (fun μ8 hμ8 => ?_)
  obtain ⟨π8, hc8, he8, ho8⟩ := Chg.one (S := fun c => c = o ∨ (κ < c ∧ c < κ + 9)) (R := π b) hA hK.2.1.1 (by first | omega | (dsimp only; omega)) hμ8
  have hA8 := hc8.1
  have hch8 := hch0.trans hc8
  have v8_0 : π8 a = π a := (ho8 a (by omega)).trans rfl
  have v8_1 : π8 b = π b := (ho8 b (by omega)).trans rfl
  refine v_aload hx DX3_invert_30 2 rfl ?_
  refine v_aload hx DX3_invert_32 5 rfl ?_
  refine v_cVv hx DX3_invert_33 CVRX3_39 [.ref a] (s_become l G Λ sz μ8 hK.2.1.2.1 hka (by omega) (AB.get (A := π8 (κ + 3)) hA8 hK.2.1.2.1 rfl) (AB.get (A := π a) hA8 hka v8_0)) hK.2.1.2.1.1 rfl rfl (Nat.le_of_ble_eq_true rfl) (by decide) ⟨Nat.le_refl _, Nat.le_refl _⟩ (fun μ9 hμ9 => ?_)
  obtain ⟨π9, hc9, he9, ho9⟩ := Chg.one (S := fun c => c = o ∨ (κ < c ∧ c < κ + 9)) (R := π a) hA8 hK.2.1.2.1 (by first | omega | (dsimp only; omega)) hμ9
  have hA9 := hc9.1
  have hch9 := hch8.trans hc9
  have v9_0 : π9 a = π a := (ho9 a (by omega)).trans v8_0
  have v9_1 : π9 b = π b := (ho9 b (by omega)).trans v8_1
  have v9_2 : π9 (κ + 1) = π b := (ho9 (κ + 1) (by omega)).trans he8
  refine v_aload hx DX3_invert_36 2 rfl ?_
  refine v_aload hx DX3_invert_38 6 rfl ?_
  refine v_cVv hx DX3_invert_39 CVRX3_47 [.ref b] (s_reduceBy l G Λ sz μ9 hI hK.2.1.2.1 hkb (by omega) (AB.get (A := π a) hA9 hK.2.1.2.1 he9) (AB.get (A := π b) hA9 hkb v9_1) hbn) hK.2.1.2.1.1 rfl rfl (Nat.le_of_ble_eq_true rfl) (by decide) ⟨Nat.le_refl _, Nat.le_refl _⟩ (fun μ10 hμ10 => ?_)
  obtain ⟨π10, hc10, he10, ho10⟩ := Chg.one (S := fun c => c = o ∨ (κ < c ∧ c < κ + 9)) (R := PS.md (π a) (π b)) hA9 hK.2.1.2.1 (by first | omega | (dsimp only; omega)) hμ10
  have hA10 := hc10.1
  have hch10 := hch9.trans hc10
  have v10_0 : π10 a = π a := (ho10 a (by omega)).trans v9_0
  have v10_1 : π10 b = π b := (ho10 b (by omega)).trans v9_1
  have v10_2 : π10 (κ + 1) = π b := (ho10 (κ + 1) (by omega)).trans v9_2
  refine v_aload hx DX3_invert_42 1 rfl ?_
  refine v_cVv hx DX3_invert_44 CVRX3_62 [] (s_clear l G Λ sz μ10 hK.2.1.2.2.1 (AB.get (A := π10 (κ + 5)) hA10 hK.2.1.2.2.1 rfl)) hK.2.1.2.2.1.1 rfl rfl (Nat.le_of_ble_eq_true rfl) (by decide) ⟨Nat.le_refl _, Nat.le_refl _⟩ (fun μ11 hμ11 => ?_)
  obtain ⟨π11, hc11, he11, ho11⟩ := Chg.one (S := fun c => c = o ∨ (κ < c ∧ c < κ + 9)) (R := PS.zero) hA10 hK.2.1.2.2.1 (by first | omega | (dsimp only; omega)) hμ11
  have hA11 := hc11.1
  have hch11 := hch10.trans hc11
  have v11_0 : π11 a = π a := (ho11 a (by omega)).trans v10_0
  have v11_1 : π11 b = π b := (ho11 b (by omega)).trans v10_1
  have v11_2 : π11 (κ + 1) = π b := (ho11 (κ + 1) (by omega)).trans v10_2
  have v11_3 : π11 (κ + 3) = PS.md (π a) (π b) := (ho11 (κ + 3) (by omega)).trans he10
  refine v_aload hx DX3_invert_47 0 rfl ?_
  refine v_push hx DX3_invert_49 ?_
  refine v_cVv hx DX3_invert_50 CVRX3_65 [iv 1] (s_setNumber l G Λ sz μ11 hK.2.1.2.2.2 (AB.get (A := π11 (κ + 7)) hA11 hK.2.1.2.2.2 rfl) (by omega)) hK.2.1.2.2.2.1 rfl rfl (Nat.le_of_ble_eq_true rfl) (by decide) ⟨Nat.le_refl _, Nat.le_refl _⟩ (fun μ12 hμ12 => ?_)
  obtain ⟨π12, hc12, he12, ho12⟩ := Chg.one (S := fun c => c = o ∨ (κ < c ∧ c < κ + 9)) (R := PS.C (fi 1)) hA11 hK.2.1.2.2.2 (by first | omega | (dsimp only; omega)) hμ12
  have hA12 := hc12.1
  have hch12 := hch11.trans hc12
  have v12_0 : π12 a = π a := (ho12 a (by omega)).trans v11_0
  have v12_1 : π12 b = π b := (ho12 b (by omega)).trans v11_1
  have v12_2 : π12 (κ + 1) = π b := (ho12 (κ + 1) (by omega)).trans v11_2
  have v12_3 : π12 (κ + 3) = PS.md (π a) (π b) := (ho12 (κ + 3) (by omega)).trans v11_3
  have v12_4 : π12 (κ + 5) = PS.zero := (ho12 (κ + 5) (by omega)).trans he11
  have w13 : π12 (κ + 7) = PS.one := he12.trans PS.C1
  refine v_push hx DX3_invert_53 ?_
  refine v_istore hx DX3_invert_54 [(8, iv 0), (7, .ref (κ + 7)), (6, .ref (κ + 5)), (5, .ref (κ + 3)), (4, .ref (κ + 1)), (0, .ref κ), (1, .ref a), (2, .ref b), (3, .ref o)] rfl (by decide) ?_
  exact v_sub [0, 4, 3, 2, 1, 5, 6, 7, 8] _ rfl (L56 100 0 (κ + 1) (κ + 3) (κ + 5) (κ + 7) (π b) (PS.md (π a) (π b)) PS.zero PS.one 1 μ12 π12 (by omega) hch12 v12_2 v12_3 v12_4 w13 (by omega) (by omega) ⟨lb, hmd0.2.1⟩ ⟨PS.zero_lt _, PS.C_lt _, by omega, hmd0.1⟩ rfl)
theorem q_raise (l : Launch) (G : Gl) (Λ : Lay) (sz : Nat) (μ : Mem) {π : Nat → PS} {κ p o : Nat} {n : Int} (hA : AB Λ μ π) (hK : kitK Λ κ) (hkp : polyK Λ p) (hko : polyK Λ o) (hpo : p ≠ o) (op : p ≠ κ + 15) (oo : o ≠ κ + 15) (hn : 0 ≤ n ∧ n ≤ 100) (hb : ∀ j : Nat, (j : Int) < n → ((π p).pw j).size + (π p).size ≤ 49) : Sp l G yX3_raise cX3_raise 5 none 3 [.ref κ, .ref p, iv n, .ref o] Λ sz μ (pV (fun μ' => ∃ π', Chg Λ (fun c => c = o ∨ c = κ + 15) μ μ' π π' ∧ π' o = (π p).pw n.toNat)) := by
  refine Sp.intro (by decide) (Nat.le_of_ble_eq_true rfl) (fun x hx hB => ?_)
  refine v_lv [(0, .ref κ), (1, .ref p), (2, iv n), (3, .ref o)] rfl ?_
  have hch0 : Chg Λ (fun c => c = o ∨ c = κ + 15) μ μ π π := Chg.rf hA
  have L8 : ∀ (nf : Nat) (k : Int) (M : Mem) (πk : Nat → PS), (n - k < (nf : Int)) → (Chg Λ (fun c => c = o ∨ c = κ + 15) μ M π πk) → (πk o = (π p).pw k.toNat) → (πk p = π p) → (0 ≤ k ∧ k ≤ n) → V G x (0, 0) Λ sz M 8 [(4, iv k), (0, .ref κ), (1, .ref p), (2, iv n), (3, .ref o)] [] := by
    intro nf
    induction nf with
    | zero => intro k M πk hm hchπk vπk_0 vπk_1 hk; exact absurd hm (by omega)
    | succ nf ih =>
      intro k M πk hm hchπk vπk_0 vπk_1 hk
      have hAπk := hchπk.1
      refine v_iload hx DX3_raise_8 0 rfl ?_
      refine v_iload hx DX3_raise_10 3 rfl ?_
      refine v_icmp_ge hx DX3_raise_11 (by omega) (by omega) (fun c11 => ?_) (fun c11 => ?_)
      · skip
        have hfin : πk o = (π p).pw n.toNat := by rw [vπk_0, show k = n by omega]
        exact v_rv hx hB DX3_raise_37 (⟨πk, hchπk, hfin⟩)
      · skip
        refine v_aload hx DX3_raise_14 1 rfl ?_
        refine v_get hx DX3_raise_15 FLRX3_36 hK.1 (v := .ref (κ + 15)) rfl ?_
        refine v_aload hx DX3_raise_18 4 rfl ?_
        refine v_aload hx DX3_raise_19 2 rfl ?_
        refine v_cVv hx DX3_raise_20 CVRX3_79 [.ref o, .ref p] (s_product l G Λ sz M hK.2.2.2.2.2 hko hkp (by omega) (by omega) (AB.get (A := πk (κ + 15)) hAπk hK.2.2.2.2.2 rfl) (AB.get (A := (π p).pw k.toNat) hAπk hko vπk_0) (AB.get (A := π p) hAπk hkp vπk_1) (hb k.toNat (by omega))) hK.2.2.2.2.2.1 rfl rfl (Nat.le_of_ble_eq_true rfl) (by decide) ⟨Nat.le_refl _, Nat.le_refl _⟩ (fun μ1 hμ1 => ?_)
        obtain ⟨π1, hc1, he1, ho1⟩ := Chg.one (S := fun c => c = o ∨ c = κ + 15) (R := PS.mul ((π p).pw k.toNat) (π p)) hAπk hK.2.2.2.2.2 (by first | omega | (dsimp only; omega)) hμ1
        have hA1 := hc1.1
        have hch1 := hchπk.trans hc1
        have v1_0 : π1 o = (π p).pw k.toNat := (ho1 o (by omega)).trans vπk_0
        have v1_1 : π1 p = π p := (ho1 p (by omega)).trans vπk_1
        refine v_aload hx DX3_raise_23 4 rfl ?_
        refine v_aload hx DX3_raise_24 1 rfl ?_
        refine v_get hx DX3_raise_25 FLRX3_36 hK.1 (v := .ref (κ + 15)) rfl ?_
        refine v_cVv hx DX3_raise_28 CVRX3_39 [.ref (κ + 15)] (s_become l G Λ sz μ1 hko hK.2.2.2.2.2 (by omega) (AB.get (A := (π p).pw k.toNat) hA1 hko v1_0) (AB.get (A := PS.mul ((π p).pw k.toNat) (π p)) hA1 hK.2.2.2.2.2 he1)) hko.1 rfl rfl (Nat.le_of_ble_eq_true rfl) (by decide) ⟨Nat.le_refl _, Nat.le_refl _⟩ (fun μ2 hμ2 => ?_)
        obtain ⟨π2, hc2, he2, ho2⟩ := Chg.one (S := fun c => c = o ∨ c = κ + 15) (R := PS.mul ((π p).pw k.toNat) (π p)) hA1 hko (by first | omega | (dsimp only; omega)) hμ2
        have hA2 := hc2.1
        have hch2 := hch1.trans hc2
        have v2_1 : π2 p = π p := (ho2 p (by omega)).trans v1_1
        have v2_2 : π2 (κ + 15) = PS.mul ((π p).pw k.toNat) (π p) := (ho2 (κ + 15) (by omega)).trans he1
        refine v_iinc hx DX3_raise_31 0 rfl [(4, iv (k + 1)), (0, .ref κ), (1, .ref p), (2, iv n), (3, .ref o)] rfl (by decide) ?_
        refine v_goto hx DX3_raise_34 ?_
        exact v_sub [0, 1, 2, 3, 4] _ rfl (ih (k + 1) μ2 π2 (by omega) hch2 (he2.trans (by rw [show (k + 1).toNat = k.toNat + 1 by omega]; rfl)) v2_1 (by omega))
  refine v_aload hx DX3_raise_0 3 rfl ?_
  refine v_push hx DX3_raise_1 ?_
  refine v_cVv hx DX3_raise_2 CVRX3_65 [iv 1] (s_setNumber l G Λ sz μ hko (AB.get (A := π o) hA hko rfl) (by omega)) hko.1 rfl rfl (Nat.le_of_ble_eq_true rfl) (by decide) ⟨Nat.le_refl _, Nat.le_refl _⟩ (fun μ3 hμ3 => ?_)
  obtain ⟨π3, hc3, he3, ho3⟩ := Chg.one (S := fun c => c = o ∨ c = κ + 15) (R := PS.C (fi 1)) hA hko (by first | omega | (dsimp only; omega)) hμ3
  have hA3 := hc3.1
  have hch3 := hch0.trans hc3
  have v3_0 : π3 p = π p := (ho3 p (by omega)).trans rfl
  have w4 : π3 o = (π p).pw (0 : Int).toNat := he3.trans PS.C1
  refine v_push hx DX3_raise_5 ?_
  refine v_istore hx DX3_raise_6 [(4, iv 0), (0, .ref κ), (1, .ref p), (2, iv n), (3, .ref o)] rfl (by decide) ?_
  exact v_sub [0, 1, 2, 3, 4] _ rfl (L8 200 0 μ3 π3 (by omega) hch3 w4 v3_0 (by omega))
theorem q_cut (l : Launch) (G : Gl) (Λ : Lay) (sz : Nat) (μ : Mem) {π : Nat → PS} {κ p d : Nat} (hA : AB Λ μ π) (hI : INV G Λ) (hK : kitK Λ κ) (hkp : polyK Λ p) (hkd : polyK Λ d) (hpd : p ≠ d) (op : p ≠ κ + 15) (od : d ≠ κ + 15) (hd0 : π d ≠ PS.zero) : Sp l G yX3_cut cX3_cut 3 none 2 [.ref κ, .ref p, .ref d] Λ sz μ (pV (fun μ' => ∃ π', Chg Λ (fun c => c = p ∨ c = κ + 15) μ μ' π π' ∧ π' p = (π p).dv (π d))) := by
  refine Sp.intro (by decide) (Nat.le_of_ble_eq_true rfl) (fun x hx hB => ?_)
  refine v_lv [(0, .ref κ), (1, .ref p), (2, .ref d)] rfl ?_
  have hch0 : Chg Λ (fun c => c = p ∨ c = κ + 15) μ μ π π := Chg.rf hA
  refine v_aload hx DX3_cut_0 0 rfl ?_
  refine v_get hx DX3_cut_1 FLRX3_36 hK.1 (v := .ref (κ + 15)) rfl ?_
  refine v_aload hx DX3_cut_4 1 rfl ?_
  refine v_aload hx DX3_cut_5 2 rfl ?_
  refine v_cVv hx DX3_cut_6 CVRX3_83 [.ref p, .ref d] (s_quotient l G Λ sz μ hI hK.2.2.2.2.2 hkp hkd (by omega) (by omega) (by omega) (AB.get (A := π (κ + 15)) hA hK.2.2.2.2.2 rfl) (AB.get (A := π p) hA hkp rfl) (AB.get (A := π d) hA hkd rfl) hd0) hK.2.2.2.2.2.1 rfl rfl (Nat.le_of_ble_eq_true rfl) (by decide) ⟨Nat.le_refl _, Nat.le_refl _⟩ (fun μ1 hμ1 => ?_)
  obtain ⟨π1, hc1, he1, hf1, ho1⟩ := Chg.two (S := fun c => c = p ∨ c = κ + 15) (R := PS.dv (π p) (π d)) (R' := PS.md (π p) (π d)) hA hK.2.2.2.2.2 hkp (by omega) (by first | omega | (dsimp only; omega)) (by first | omega | (dsimp only; omega)) hμ1
  have hA1 := hc1.1
  have hch1 := hch0.trans hc1
  have v1_1 : π1 d = π d := (ho1 d (by omega) (by omega)).trans rfl
  refine v_aload hx DX3_cut_9 1 rfl ?_
  refine v_aload hx DX3_cut_10 0 rfl ?_
  refine v_get hx DX3_cut_11 FLRX3_36 hK.1 (v := .ref (κ + 15)) rfl ?_
  refine v_cVv hx DX3_cut_14 CVRX3_39 [.ref (κ + 15)] (s_become l G Λ sz μ1 hkp hK.2.2.2.2.2 (by omega) (AB.get (A := PS.md (π p) (π d)) hA1 hkp hf1) (AB.get (A := PS.dv (π p) (π d)) hA1 hK.2.2.2.2.2 he1)) hkp.1 rfl rfl (Nat.le_of_ble_eq_true rfl) (by decide) ⟨Nat.le_refl _, Nat.le_refl _⟩ (fun μ2 hμ2 => ?_)
  obtain ⟨π2, hc2, he2, ho2⟩ := Chg.one (S := fun c => c = p ∨ c = κ + 15) (R := PS.dv (π p) (π d)) hA1 hkp (by first | omega | (dsimp only; omega)) hμ2
  have hA2 := hc2.1
  have hch2 := hch1.trans hc2
  have v2_0 : π2 d = π d := (ho2 d (by omega)).trans v1_1
  have v2_1 : π2 (κ + 15) = PS.dv (π p) (π d) := (ho2 (κ + 15) (by omega)).trans he1
  exact v_rv hx hB DX3_cut_17 (⟨π2, hch2, he2⟩)
theorem q_reduce (l : Launch) (G : Gl) (Λ : Lay) (sz : Nat) (μ : Mem) {π : Nat → PS} {κ f : Nat} (hA : AB Λ μ π) (hI : INV G Λ) (hK : kitK Λ κ) (hF : fracK Λ f) (of : f + 4 < κ ∨ κ + 16 < f) (hD0 : π (f + 3) ≠ PS.zero) : Sp l G yX3_reduce cX3_reduce 3 none 3 [.ref κ, .ref f] Λ sz μ (pV (fun μ' => ∃ π', Chg Λ (fun c => c = f + 1 ∨ c = f + 3 ∨ c = κ + 1 ∨ c = κ + 3 ∨ c = κ + 9 ∨ c = κ + 15) μ μ' π π' ∧ π' (f + 1) = rdN (π (f + 1)) (π (f + 3)) ∧ π' (f + 3) = rdD (π (f + 1)) (π (f + 3)))) := by
  refine Sp.intro (by decide) (Nat.le_of_ble_eq_true rfl) (fun x hx hB => ?_)
  refine v_lv [(0, .ref κ), (1, .ref f)] rfl ?_
  have lN := (hA (f + 1) hF.2.1).1.1
  have lD := (hA (f + 3) hF.2.2).1.1
  have sN := PS.size_le lN
  have sD := PS.size_le lD
  have hch0 : Chg Λ (fun c => c = f + 1 ∨ c = f + 3 ∨ c = κ + 1 ∨ c = κ + 3 ∨ c = κ + 9 ∨ c = κ + 15) μ μ π π := Chg.rf hA
  refine v_aload hx DX3_reduce_0 1 rfl ?_
  refine v_get hx DX3_reduce_1 FLRX3_86 hF.1 (v := .ref (f + 1)) rfl ?_
  refine v_get hx DX3_reduce_4 FLRX3_43 hF.2.1.1 (fv_i rfl ((hA (f + 1) hF.2.1).2) : _ = iv (((π (f + 1)).size : Int) - 1)) ?_
  refine v_if_ge hx DX3_reduce_7 (by omega) (fun c7 => ?_) (fun c7 => ?_)
  · skip
    have hN0 : π (f + 1) ≠ PS.zero := PS.ne_of_size (by omega)
    refine v_aload hx DX3_reduce_19 1 rfl ?_
    refine v_get hx DX3_reduce_20 FLRX3_91 hF.1 (v := .ref (f + 3)) rfl ?_
    refine v_get hx DX3_reduce_23 FLRX3_43 hF.2.2.1 (fv_i rfl ((hA (f + 3) hF.2.2).2) : _ = iv (((π (f + 3)).size : Int) - 1)) ?_
    refine v_if_le hx DX3_reduce_26 (by omega) (fun c26 => ?_) (fun c26 => ?_)
    · skip
      have hnc : ¬ (1 < (π (f + 3)).size ∧ 1 < ((π (f + 1)).gcd (π (f + 3))).size) := by omega
      refine v_aload hx DX3_reduce_79 1 rfl ?_
      refine v_get hx DX3_reduce_80 FLRX3_91 hF.1 (v := .ref (f + 3)) rfl ?_
      refine v_cVp hx DX3_reduce_83 CVRX3_50 [] (s_head l G Λ sz μ hF.2.2 (AB.get (A := π (f + 3)) hA hF.2.2 rfl)) hF.2.2.1 rfl rfl (Nat.le_of_ble_eq_true rfl) (by decide) ⟨Nat.le_refl _, Nat.le_refl _⟩ ?_
      refine v_cNp hx DX3_reduce_86 CSRX3_54 [iv (hdI (π (f + 3)))] (s_inverse l G Λ sz μ hI (hdI_rng (π (f + 3)))) rfl rfl (Nat.le_of_ble_eq_true rfl) (by decide) ⟨Nat.le_refl _, Nat.le_refl _⟩ ?_
      refine v_istore hx DX3_reduce_89 [(2, iv (ivI (hdI (π (f + 3))))), (0, .ref κ), (1, .ref f)] rfl (by decide) ?_
      refine v_aload hx DX3_reduce_90 2 rfl ?_
      refine v_get hx DX3_reduce_91 FLRX3_86 hF.1 (v := .ref (f + 1)) rfl ?_
      refine v_iload hx DX3_reduce_94 0 rfl ?_
      refine v_cVv hx DX3_reduce_95 CVRX3_58 [iv (ivI (hdI (π (f + 3))))] (s_scale l G Λ sz μ hF.2.1 (AB.get (A := π (f + 1)) hA hF.2.1 rfl) (by have := ivI_rng (hdI (π (f + 3))); omega)) hF.2.1.1 rfl rfl (Nat.le_of_ble_eq_true rfl) (by decide) ⟨Nat.le_refl _, Nat.le_refl _⟩ (fun μ4 hμ4 => ?_)
      obtain ⟨π4, hc4, he4, ho4⟩ := Chg.one (S := fun c => c = f + 1 ∨ c = f + 3 ∨ c = κ + 1 ∨ c = κ + 3 ∨ c = κ + 9 ∨ c = κ + 15) (R := PS.sm (fi (ivI (hdI (π (f + 3))))) (π (f + 1))) hA hF.2.1 (by first | omega | (dsimp only; omega)) hμ4
      have hA4 := hc4.1
      have hch4 := hch0.trans hc4
      have v4_1 : π4 (f + 3) = π (f + 3) := (ho4 (f + 3) (by omega)).trans rfl
      have w5 : π4 (f + 1) = rdN (π (f + 1)) (π (f + 3)) := he4.trans (by unfold rdN; rw [if_neg hN0]; first | rw [if_neg hnc, fi_ivI] | rw [if_pos hyc, fi_ivI])
      refine v_aload hx DX3_reduce_98 2 rfl ?_
      refine v_get hx DX3_reduce_99 FLRX3_91 hF.1 (v := .ref (f + 3)) rfl ?_
      refine v_iload hx DX3_reduce_102 0 rfl ?_
      refine v_cVv hx DX3_reduce_103 CVRX3_58 [iv (ivI (hdI (π (f + 3))))] (s_scale l G Λ sz μ4 hF.2.2 (AB.get (A := π (f + 3)) hA4 hF.2.2 v4_1) (by have := ivI_rng (hdI (π (f + 3))); omega)) hF.2.2.1 rfl rfl (Nat.le_of_ble_eq_true rfl) (by decide) ⟨Nat.le_refl _, Nat.le_refl _⟩ (fun μ6 hμ6 => ?_)
      obtain ⟨π6, hc6, he6, ho6⟩ := Chg.one (S := fun c => c = f + 1 ∨ c = f + 3 ∨ c = κ + 1 ∨ c = κ + 3 ∨ c = κ + 9 ∨ c = κ + 15) (R := PS.sm (fi (ivI (hdI (π (f + 3))))) (π (f + 3))) hA4 hF.2.2 (by first | omega | (dsimp only; omega)) hμ6
      have hA6 := hc6.1
      have hch6 := hch4.trans hc6
      have v6_1 : π6 (f + 1) = rdN (π (f + 1)) (π (f + 3)) := (ho6 (f + 1) (by omega)).trans w5
      have w7 : π6 (f + 3) = rdD (π (f + 1)) (π (f + 3)) := he6.trans (by unfold rdD; rw [if_neg hN0]; first | rw [if_neg hnc, fi_ivI] | rw [if_pos hyc, fi_ivI])
      exact v_rv hx hB DX3_reduce_106 (⟨π6, hch6, v6_1, w7⟩)
    · skip
      refine v_aload hx DX3_reduce_29 0 rfl ?_
      refine v_aload hx DX3_reduce_30 1 rfl ?_
      refine v_get hx DX3_reduce_31 FLRX3_86 hF.1 (v := .ref (f + 1)) rfl ?_
      refine v_aload hx DX3_reduce_34 1 rfl ?_
      refine v_get hx DX3_reduce_35 FLRX3_91 hF.1 (v := .ref (f + 3)) rfl ?_
      refine v_aload hx DX3_reduce_38 0 rfl ?_
      refine v_get hx DX3_reduce_39 FLRX3_27 hK.1 (v := .ref (κ + 9)) rfl ?_
      refine v_cVv hx DX3_reduce_42 CVRX3_94 [.ref (f + 1), .ref (f + 3), .ref (κ + 9)] (q_divisor l G Λ sz μ hA hI hK hF.2.1 hF.2.2 hK.2.2.1 (by omega) (by omega) (by omega)) hK.1 rfl rfl (Nat.le_of_ble_eq_true rfl) (by decide) ⟨Nat.le_refl _, Nat.le_refl _⟩ (fun μ8 hμ8 => ?_)
      obtain ⟨π8, hc8, he8_0⟩ := hμ8
      have hA8 := hc8.1
      have hch8 := hch0.trans (hc8.mono (fun c hc => by first | omega | (dsimp only at hc ⊢; omega)))
      have v8_0 : π8 (f + 1) = π (f + 1) := (hc8.2.1 (f + 1) (by first | omega | (dsimp only; omega))).trans rfl
      have v8_1 : π8 (f + 3) = π (f + 3) := (hc8.2.1 (f + 3) (by first | omega | (dsimp only; omega))).trans rfl
      have sg := PS.size_le (PS.gcd_lt lN lD)
      refine v_aload hx DX3_reduce_45 0 rfl ?_
      refine v_get hx DX3_reduce_46 FLRX3_27 hK.1 (v := .ref (κ + 9)) rfl ?_
      refine v_get hx DX3_reduce_49 FLRX3_43 hK.2.2.1.1 (fv_i rfl ((AB.get hA8 hK.2.2.1 he8_0).2) : _ = iv ((((π (f + 1)).gcd (π (f + 3))).size : Int) - 1)) ?_
      refine v_if_le hx DX3_reduce_52 (by omega) (fun c52 => ?_) (fun c52 => ?_)
      · skip
        have hnc : ¬ (1 < (π (f + 3)).size ∧ 1 < ((π (f + 1)).gcd (π (f + 3))).size) := by omega
        refine v_aload hx DX3_reduce_79 1 rfl ?_
        refine v_get hx DX3_reduce_80 FLRX3_91 hF.1 (v := .ref (f + 3)) rfl ?_
        refine v_cVp hx DX3_reduce_83 CVRX3_50 [] (s_head l G Λ sz μ8 hF.2.2 (AB.get (A := π (f + 3)) hA8 hF.2.2 v8_1)) hF.2.2.1 rfl rfl (Nat.le_of_ble_eq_true rfl) (by decide) ⟨Nat.le_refl _, Nat.le_refl _⟩ ?_
        refine v_cNp hx DX3_reduce_86 CSRX3_54 [iv (hdI (π (f + 3)))] (s_inverse l G Λ sz μ8 hI (hdI_rng (π (f + 3)))) rfl rfl (Nat.le_of_ble_eq_true rfl) (by decide) ⟨Nat.le_refl _, Nat.le_refl _⟩ ?_
        refine v_istore hx DX3_reduce_89 [(2, iv (ivI (hdI (π (f + 3))))), (0, .ref κ), (1, .ref f)] rfl (by decide) ?_
        refine v_aload hx DX3_reduce_90 2 rfl ?_
        refine v_get hx DX3_reduce_91 FLRX3_86 hF.1 (v := .ref (f + 1)) rfl ?_
        refine v_iload hx DX3_reduce_94 0 rfl ?_
        refine v_cVv hx DX3_reduce_95 CVRX3_58 [iv (ivI (hdI (π (f + 3))))] (s_scale l G Λ sz μ8 hF.2.1 (AB.get (A := π (f + 1)) hA8 hF.2.1 v8_0) (by have := ivI_rng (hdI (π (f + 3))); omega)) hF.2.1.1 rfl rfl (Nat.le_of_ble_eq_true rfl) (by decide) ⟨Nat.le_refl _, Nat.le_refl _⟩ (fun μ12 hμ12 => ?_)
        obtain ⟨π12, hc12, he12, ho12⟩ := Chg.one (S := fun c => c = f + 1 ∨ c = f + 3 ∨ c = κ + 1 ∨ c = κ + 3 ∨ c = κ + 9 ∨ c = κ + 15) (R := PS.sm (fi (ivI (hdI (π (f + 3))))) (π (f + 1))) hA8 hF.2.1 (by first | omega | (dsimp only; omega)) hμ12
        have hA12 := hc12.1
        have hch12 := hch8.trans hc12
        have v12_1 : π12 (f + 3) = π (f + 3) := (ho12 (f + 3) (by omega)).trans v8_1
        have v12_2 : π12 (κ + 9) = PS.gcd (π (f + 1)) (π (f + 3)) := (ho12 (κ + 9) (by omega)).trans he8_0
        have w13 : π12 (f + 1) = rdN (π (f + 1)) (π (f + 3)) := he12.trans (by unfold rdN; rw [if_neg hN0]; first | rw [if_neg hnc, fi_ivI] | rw [if_pos hyc, fi_ivI])
        refine v_aload hx DX3_reduce_98 2 rfl ?_
        refine v_get hx DX3_reduce_99 FLRX3_91 hF.1 (v := .ref (f + 3)) rfl ?_
        refine v_iload hx DX3_reduce_102 0 rfl ?_
        refine v_cVv hx DX3_reduce_103 CVRX3_58 [iv (ivI (hdI (π (f + 3))))] (s_scale l G Λ sz μ12 hF.2.2 (AB.get (A := π (f + 3)) hA12 hF.2.2 v12_1) (by have := ivI_rng (hdI (π (f + 3))); omega)) hF.2.2.1 rfl rfl (Nat.le_of_ble_eq_true rfl) (by decide) ⟨Nat.le_refl _, Nat.le_refl _⟩ (fun μ14 hμ14 => ?_)
        obtain ⟨π14, hc14, he14, ho14⟩ := Chg.one (S := fun c => c = f + 1 ∨ c = f + 3 ∨ c = κ + 1 ∨ c = κ + 3 ∨ c = κ + 9 ∨ c = κ + 15) (R := PS.sm (fi (ivI (hdI (π (f + 3))))) (π (f + 3))) hA12 hF.2.2 (by first | omega | (dsimp only; omega)) hμ14
        have hA14 := hc14.1
        have hch14 := hch12.trans hc14
        have v14_1 : π14 (κ + 9) = PS.gcd (π (f + 1)) (π (f + 3)) := (ho14 (κ + 9) (by omega)).trans v12_2
        have v14_2 : π14 (f + 1) = rdN (π (f + 1)) (π (f + 3)) := (ho14 (f + 1) (by omega)).trans w13
        have w15 : π14 (f + 3) = rdD (π (f + 1)) (π (f + 3)) := he14.trans (by unfold rdD; rw [if_neg hN0]; first | rw [if_neg hnc, fi_ivI] | rw [if_pos hyc, fi_ivI])
        exact v_rv hx hB DX3_reduce_106 (⟨π14, hch14, v14_2, w15⟩)
      · skip
        have hyc : 1 < (π (f + 3)).size ∧ 1 < ((π (f + 1)).gcd (π (f + 3))).size := by omega
        have hg0 := PS.ne_of_size (show 0 < ((π (f + 1)).gcd (π (f + 3))).size by omega)
        refine v_aload hx DX3_reduce_55 0 rfl ?_
        refine v_aload hx DX3_reduce_56 1 rfl ?_
        refine v_get hx DX3_reduce_57 FLRX3_86 hF.1 (v := .ref (f + 1)) rfl ?_
        refine v_aload hx DX3_reduce_60 0 rfl ?_
        refine v_get hx DX3_reduce_61 FLRX3_27 hK.1 (v := .ref (κ + 9)) rfl ?_
        refine v_cVv hx DX3_reduce_64 CVRX3_98 [.ref (f + 1), .ref (κ + 9)] (q_cut l G Λ sz μ8 hA8 hI hK hF.2.1 hK.2.2.1 (by omega) (by omega) (by omega) (by rw [he8_0]; exact hg0)) hK.1 rfl rfl (Nat.le_of_ble_eq_true rfl) (by decide) ⟨Nat.le_refl _, Nat.le_refl _⟩ (fun μ16 hμ16 => ?_)
        obtain ⟨π16, hc16, he16_0⟩ := hμ16
        have hA16 := hc16.1
        have hch16 := hch8.trans (hc16.mono (fun c hc => by first | omega | (dsimp only at hc ⊢; omega)))
        have v16_1 : π16 (f + 3) = π (f + 3) := (hc16.2.1 (f + 3) (by first | omega | (dsimp only; omega))).trans v8_1
        have v16_2 : π16 (κ + 9) = PS.gcd (π (f + 1)) (π (f + 3)) := (hc16.2.1 (κ + 9) (by first | omega | (dsimp only; omega))).trans he8_0
        have g16_0 : π16 (f + 1) = PS.dv (π (f + 1)) (PS.gcd (π (f + 1)) (π (f + 3))) := he16_0.trans (by rw [v8_0, he8_0])
        refine v_aload hx DX3_reduce_67 0 rfl ?_
        refine v_aload hx DX3_reduce_68 1 rfl ?_
        refine v_get hx DX3_reduce_69 FLRX3_91 hF.1 (v := .ref (f + 3)) rfl ?_
        refine v_aload hx DX3_reduce_72 0 rfl ?_
        refine v_get hx DX3_reduce_73 FLRX3_27 hK.1 (v := .ref (κ + 9)) rfl ?_
        refine v_cVv hx DX3_reduce_76 CVRX3_98 [.ref (f + 3), .ref (κ + 9)] (q_cut l G Λ sz μ16 hA16 hI hK hF.2.2 hK.2.2.1 (by omega) (by omega) (by omega) (by rw [v16_2]; exact hg0)) hK.1 rfl rfl (Nat.le_of_ble_eq_true rfl) (by decide) ⟨Nat.le_refl _, Nat.le_refl _⟩ (fun μ17 hμ17 => ?_)
        obtain ⟨π17, hc17, he17_0⟩ := hμ17
        have hA17 := hc17.1
        have hch17 := hch16.trans (hc17.mono (fun c hc => by first | omega | (dsimp only at hc ⊢; omega)))
        have v17_1 : π17 (κ + 9) = PS.gcd (π (f + 1)) (π (f + 3)) := (hc17.2.1 (κ + 9) (by first | omega | (dsimp only; omega))).trans v16_2
        have v17_2 : π17 (f + 1) = PS.dv (π (f + 1)) (PS.gcd (π (f + 1)) (π (f + 3))) := (hc17.2.1 (f + 1) (by first | omega | (dsimp only; omega))).trans g16_0
        have g17_0 : π17 (f + 3) = PS.dv (π (f + 3)) (PS.gcd (π (f + 1)) (π (f + 3))) := he17_0.trans (by rw [v16_1, v16_2])
        refine v_aload hx DX3_reduce_79 1 rfl ?_
        refine v_get hx DX3_reduce_80 FLRX3_91 hF.1 (v := .ref (f + 3)) rfl ?_
        refine v_cVp hx DX3_reduce_83 CVRX3_50 [] (s_head l G Λ sz μ17 hF.2.2 (AB.get (A := PS.dv (π (f + 3)) (PS.gcd (π (f + 1)) (π (f + 3)))) hA17 hF.2.2 g17_0)) hF.2.2.1 rfl rfl (Nat.le_of_ble_eq_true rfl) (by decide) ⟨Nat.le_refl _, Nat.le_refl _⟩ ?_
        refine v_cNp hx DX3_reduce_86 CSRX3_54 [iv (hdI (PS.dv (π (f + 3)) (PS.gcd (π (f + 1)) (π (f + 3)))))] (s_inverse l G Λ sz μ17 hI (hdI_rng (PS.dv (π (f + 3)) (PS.gcd (π (f + 1)) (π (f + 3)))))) rfl rfl (Nat.le_of_ble_eq_true rfl) (by decide) ⟨Nat.le_refl _, Nat.le_refl _⟩ ?_
        refine v_istore hx DX3_reduce_89 [(2, iv (ivI (hdI (PS.dv (π (f + 3)) (PS.gcd (π (f + 1)) (π (f + 3))))))), (0, .ref κ), (1, .ref f)] rfl (by decide) ?_
        refine v_aload hx DX3_reduce_90 2 rfl ?_
        refine v_get hx DX3_reduce_91 FLRX3_86 hF.1 (v := .ref (f + 1)) rfl ?_
        refine v_iload hx DX3_reduce_94 0 rfl ?_
        refine v_cVv hx DX3_reduce_95 CVRX3_58 [iv (ivI (hdI (PS.dv (π (f + 3)) (PS.gcd (π (f + 1)) (π (f + 3))))))] (s_scale l G Λ sz μ17 hF.2.1 (AB.get (A := PS.dv (π (f + 1)) (PS.gcd (π (f + 1)) (π (f + 3)))) hA17 hF.2.1 v17_2) (by have := ivI_rng (hdI (PS.dv (π (f + 3)) (PS.gcd (π (f + 1)) (π (f + 3))))); omega)) hF.2.1.1 rfl rfl (Nat.le_of_ble_eq_true rfl) (by decide) ⟨Nat.le_refl _, Nat.le_refl _⟩ (fun μ21 hμ21 => ?_)
        obtain ⟨π21, hc21, he21, ho21⟩ := Chg.one (S := fun c => c = f + 1 ∨ c = f + 3 ∨ c = κ + 1 ∨ c = κ + 3 ∨ c = κ + 9 ∨ c = κ + 15) (R := PS.sm (fi (ivI (hdI (PS.dv (π (f + 3)) (PS.gcd (π (f + 1)) (π (f + 3))))))) (PS.dv (π (f + 1)) (PS.gcd (π (f + 1)) (π (f + 3))))) hA17 hF.2.1 (by first | omega | (dsimp only; omega)) hμ21
        have hA21 := hc21.1
        have hch21 := hch17.trans hc21
        have v21_0 : π21 (κ + 9) = PS.gcd (π (f + 1)) (π (f + 3)) := (ho21 (κ + 9) (by omega)).trans v17_1
        have v21_2 : π21 (f + 3) = PS.dv (π (f + 3)) (PS.gcd (π (f + 1)) (π (f + 3))) := (ho21 (f + 3) (by omega)).trans g17_0
        have w22 : π21 (f + 1) = rdN (π (f + 1)) (π (f + 3)) := he21.trans (by unfold rdN; rw [if_neg hN0]; first | rw [if_neg hnc, fi_ivI] | rw [if_pos hyc, fi_ivI])
        refine v_aload hx DX3_reduce_98 2 rfl ?_
        refine v_get hx DX3_reduce_99 FLRX3_91 hF.1 (v := .ref (f + 3)) rfl ?_
        refine v_iload hx DX3_reduce_102 0 rfl ?_
        refine v_cVv hx DX3_reduce_103 CVRX3_58 [iv (ivI (hdI (PS.dv (π (f + 3)) (PS.gcd (π (f + 1)) (π (f + 3))))))] (s_scale l G Λ sz μ21 hF.2.2 (AB.get (A := PS.dv (π (f + 3)) (PS.gcd (π (f + 1)) (π (f + 3)))) hA21 hF.2.2 v21_2) (by have := ivI_rng (hdI (PS.dv (π (f + 3)) (PS.gcd (π (f + 1)) (π (f + 3))))); omega)) hF.2.2.1 rfl rfl (Nat.le_of_ble_eq_true rfl) (by decide) ⟨Nat.le_refl _, Nat.le_refl _⟩ (fun μ23 hμ23 => ?_)
        obtain ⟨π23, hc23, he23, ho23⟩ := Chg.one (S := fun c => c = f + 1 ∨ c = f + 3 ∨ c = κ + 1 ∨ c = κ + 3 ∨ c = κ + 9 ∨ c = κ + 15) (R := PS.sm (fi (ivI (hdI (PS.dv (π (f + 3)) (PS.gcd (π (f + 1)) (π (f + 3))))))) (PS.dv (π (f + 3)) (PS.gcd (π (f + 1)) (π (f + 3))))) hA21 hF.2.2 (by first | omega | (dsimp only; omega)) hμ23
        have hA23 := hc23.1
        have hch23 := hch21.trans hc23
        have v23_0 : π23 (κ + 9) = PS.gcd (π (f + 1)) (π (f + 3)) := (ho23 (κ + 9) (by omega)).trans v21_0
        have v23_2 : π23 (f + 1) = rdN (π (f + 1)) (π (f + 3)) := (ho23 (f + 1) (by omega)).trans w22
        have w24 : π23 (f + 3) = rdD (π (f + 1)) (π (f + 3)) := he23.trans (by unfold rdD; rw [if_neg hN0]; first | rw [if_neg hnc, fi_ivI] | rw [if_pos hyc, fi_ivI])
        exact v_rv hx hB DX3_reduce_106 (⟨π23, hch23, v23_2, w24⟩)
  · skip
    have hNz : π (f + 1) = PS.zero := (PS.size_eq_zero lN).mp (by omega)
    refine v_aload hx DX3_reduce_10 1 rfl ?_
    refine v_get hx DX3_reduce_11 FLRX3_91 hF.1 (v := .ref (f + 3)) rfl ?_
    refine v_push hx DX3_reduce_14 ?_
    refine v_cVv hx DX3_reduce_15 CVRX3_65 [iv 1] (s_setNumber l G Λ sz μ hF.2.2 (AB.get (A := π (f + 3)) hA hF.2.2 rfl) (by omega)) hF.2.2.1 rfl rfl (Nat.le_of_ble_eq_true rfl) (by decide) ⟨Nat.le_refl _, Nat.le_refl _⟩ (fun μ25 hμ25 => ?_)
    obtain ⟨π25, hc25, he25, ho25⟩ := Chg.one (S := fun c => c = f + 1 ∨ c = f + 3 ∨ c = κ + 1 ∨ c = κ + 3 ∨ c = κ + 9 ∨ c = κ + 15) (R := PS.C (fi 1)) hA hF.2.2 (by first | omega | (dsimp only; omega)) hμ25
    have hA25 := hc25.1
    have hch25 := hch0.trans hc25
    have v25_0 : π25 (f + 1) = π (f + 1) := (ho25 (f + 1) (by omega)).trans rfl
    have w26 : π25 (f + 3) = rdD (π (f + 1)) (π (f + 3)) := he25.trans (by rw [PS.C1]; unfold rdD; rw [if_pos hNz])
    have w27 : π25 (f + 1) = rdN (π (f + 1)) (π (f + 3)) := v25_0.trans (by unfold rdN; rw [if_pos hNz]; exact hNz)
    exact v_rv hx hB DX3_reduce_18 (⟨π25, hch25, w27, w26⟩)
