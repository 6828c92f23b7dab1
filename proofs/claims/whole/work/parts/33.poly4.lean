theorem s_quotient (l : Launch) (G : Gl) (Λ : Lay) (sz : Nat) (μ : Mem) {t r a : Nat} {p0 p D : PS} (hI : INV G Λ) (hT : polyK Λ t) (hR : polyK Λ r) (hA : polyK Λ a) (htr : t ≠ r) (hta : t ≠ a) (hra : r ≠ a) (hQ0 : PA μ t p0) (hP : PA μ r p) (hD : PA μ a D) (hD0 : D ≠ PS.zero) : Sp l G yX5_quotient cX5_quotient 6 none 1 [.ref t, .ref r, .ref a] Λ sz μ (pV (fun μ' => PA μ' t (p.dv D) ∧ PA μ' r (p.md D) ∧ Fr [t, t + 1, r, r + 1] μ μ')) := by
  refine Sp.intro (by decide) (Nat.le_of_ble_eq_true rfl) (fun x hx hB => ?_)
  refine v_lv [(0, .ref t), (1, .ref r), (2, .ref a)] rfl ?_
  have hs := hP.le
  obtain ⟨m, hm48, hm, hDz⟩ := PS.ne_zero_isz hD.1.1 hD0
  have hi := ivI_rng (hdI D)
  have hine := ivI_ne hDz
  have o1 := pk_out hT hR htr
  have o2 := pk_out hR hT htr.symm
  have o3 := pk_out hA hT hta.symm
  have o4 := pk_out hA hR hra.symm
  simp only [List.mem_cons, List.not_mem_nil, or_false, not_or] at o1 o2 o3 o4
  have L18 : ∀ (n : Nat) (k : Int) (M : Mem), (k + 1 < (n : Int)) → (-1 ≤ k ∧ k < p.size) → (Fr [t, t + 1, r + 1] μ M) → (M.1 r 1 = (p.size : Int) - 1) → (∃ P Q : PS, CA M r P ∧ CA M t Q ∧ P.lt (k + 1).toNat ∧ Q.lt p.size ∧ (∀ n : Nat, (n : Int) ≤ k - m → Q n = 0) ∧ p = (Q.mul D).add P) → V G x (0, 0) Λ sz M 18 [(4, iv k), (3, iv (ivI (hdI D))), (0, .ref t), (1, .ref r), (2, .ref a)] [] := by
    intro n
    induction n with
    | zero => intro k M hm hk hf hdr hc; exact absurd hm (by omega)
    | succ n ih =>
      intro k M hm hk hf hdr hc
      obtain ⟨P, Q, hcP, hcQ, hPl, hQl, hQ0s, hpe⟩ := hc
      have hD1 : PA M a D := hD.kept hf (by simp; omega) (by simp; omega)
      have hcc : fi (101 - cf P k * ivI (hdI D) % 101) = - (P k.toNat * finv (D m)) := by rw [fi_101, fi_mod, fi_mul, fi_cf, fi_ivI, hdI_eq hDz]
      refine v_iload hx DX5_quotient_18 0 rfl ?_
      refine v_aload hx DX5_quotient_20 4 rfl ?_
      refine v_get hx DX5_quotient_21 FLRX5_15 hA.1 (fv_i rfl (hD1.2.trans (by omega)) : _ = iv (m : Int)) ?_
      refine v_icmp_lt hx DX5_quotient_24 (by omega) (by omega) (fun c24 => ?_) (fun c24 => ?_)
      · skip
        have hmd := PS.md_eq hDz hQl (PS.lt_mono hPl (by omega)) hpe
        refine v_aload hx DX5_quotient_76 2 rfl ?_
        refine v_aload hx DX5_quotient_77 3 rfl ?_
        refine v_get hx DX5_quotient_78 FLRX5_15 hR.1 (fv_i rfl hdr : _ = iv ((p.size : Int) - 1)) ?_
        refine v_cVv hx DX5_quotient_81 CVRX5_25 [iv ((p.size : Int) - 1)] (s_settle l G Λ sz M hT hcQ (by omega) (fun j hj => hQl j (by omega))) hT.1 rfl rfl (Nat.le_of_ble_eq_true rfl) (by decide) ⟨Nat.le_refl _, Nat.le_refl _⟩ (fun μ1 hμ1 => ?_)
        have hcP3 : CA μ1 r P := by rw [hμ1]; exact ⟨hcP.1, fun j a b => by rw [mI_ne (by omega)]; exact hcP.2 j a b⟩
        refine v_aload hx DX5_quotient_84 3 rfl ?_
        refine v_aload hx DX5_quotient_85 3 rfl ?_
        refine v_get hx DX5_quotient_86 FLRX5_15 hR.1 (fv_i rfl (by rw [hμ1, mI_ne (by omega)]; exact hdr) : _ = iv ((p.size : Int) - 1)) ?_
        refine v_cVv hx DX5_quotient_89 CVRX5_25 [iv ((p.size : Int) - 1)] (s_settle l G Λ sz μ1 hR hcP3 (by omega) (fun j hj => PS.lt_mono hPl (by omega) j (Nat.le_refl j))) hR.1 rfl rfl (Nat.le_of_ble_eq_true rfl) (by decide) ⟨Nat.le_refl _, Nat.le_refl _⟩ (fun μ3 hμ3 => ?_)
        exact v_rv hx hB DX5_quotient_92 (⟨by rw [hμ3, hμ1, hmd.2]; exact ⟨⟨hcQ.1, fun j a b => by rw [mI_ne (by omega), mI_ne (by omega)]; exact hcQ.2 j a b⟩, by rw [mI_ne (by omega), mI_at, if_pos rfl]⟩, by rw [hμ3, hmd.1]; exact PA.of hcP3, ((hf.mono (fun q hq => by simp only [List.mem_cons, List.not_mem_nil, or_false] at hq ⊢; omega)).trans (show Fr [t, t + 1, r, r + 1] M μ1 by rw [hμ1]; exact Fr.mI (by simp))).trans (by rw [hμ3]; exact Fr.mI (by simp))⟩)
      · skip
        refine v_iload hx DX5_quotient_27 1 rfl ?_
        refine v_if_eq hx DX5_quotient_28 (by omega) (fun c28 => ?_) (fun c28 => ?_)
        · exact absurd c28 (by omega)
        · skip
          refine v_aload hx DX5_quotient_31 3 rfl ?_
          refine v_aload hx DX5_quotient_32 4 rfl ?_
          refine v_iload hx DX5_quotient_33 0 rfl ?_
          refine v_iload hx DX5_quotient_35 1 rfl ?_
          refine v_cVi hx DX5_quotient_36 CVRX5_54 [.ref a, iv k, iv (ivI (hdI D))] (s_strike l G Λ sz M hR hA hra hcP hD1 hDz (by omega) hi) hR.1 rfl rfl (Nat.le_of_ble_eq_true rfl) (by decide) ⟨Nat.le_refl _, Nat.le_refl _⟩ (fun z6 μ5 hμ5 => ?_)
          obtain ⟨hz, hca, hf2⟩ := hμ5
          have hzz : z6 = ((P k.toNat * finv (D m)).val : Int) := by rw [hz, ← fi_val, fi_mul, fi_cf, fi_ivI, hdI_eq hDz]
          have hD2 : μ5.1 a 1 = (m : Int) := by rw [hf2.1 a (by simp; omega)]; exact hD1.2.trans (by omega)
          have hcQ2 : CA μ5 t Q := hcQ.kept hf2 (by simp; omega)
          refine v_istore hx DX5_quotient_39 [(5, iv z6), (4, iv k), (3, iv (ivI (hdI D))), (0, .ref t), (1, .ref r), (2, .ref a)] rfl (by decide) ?_
          refine v_iload hx DX5_quotient_41 1 rfl ?_
          refine v_aload hx DX5_quotient_43 5 rfl ?_
          refine v_get hx DX5_quotient_44 FLRX5_15 hA.1 (v := iv (μ5.1 a 1)) rfl ?_
          refine v_isub hx DX5_quotient_47 ?_
          refine v_aload hx DX5_quotient_48 3 rfl ?_
          refine v_get hx DX5_quotient_49 FLRX5_9 hT.1 (v := .ref (t + 1)) rfl ?_
          refine v_alenI hx DX5_quotient_52 hT.2 (by decide) (z := 48) rfl ?_
          refine v_icmp_ge hx DX5_quotient_53 (by omega) (by decide) (fun c53 => ?_) (fun c53 => ?_)
          · exact absurd c53 (by omega)
          · skip
            refine v_aload hx DX5_quotient_56 3 rfl ?_
            refine v_get hx DX5_quotient_57 FLRX5_9 hT.1 (v := .ref (t + 1)) rfl ?_
            refine v_iload hx DX5_quotient_60 1 rfl ?_
            refine v_aload hx DX5_quotient_62 5 rfl ?_
            refine v_get hx DX5_quotient_63 FLRX5_15 hA.1 (fv_i rfl hD2 : _ = iv (m : Int)) ?_
            refine v_isub hx DX5_quotient_66 ?_
            refine v_iload hx DX5_quotient_67 0 rfl ?_
            refine v_iastm hx DX5_quotient_69 hT.2 (by omega) (by decide) (fun μ7 eμ7 => ?_)
            refine v_iinc hx DX5_quotient_70 1 rfl [(4, iv (k + (-1))), (5, iv z6), (3, iv (ivI (hdI D))), (0, .ref t), (1, .ref r), (2, .ref a)] rfl (by decide) ?_
            refine v_goto hx DX5_quotient_73 ?_
            exact v_sub [0, 2, 3, 4, 5] _ rfl (ih (k + (-1)) μ7 (by omega) (by omega) ((hf.trans (hf2.mono (fun q hq => by simp only [List.mem_cons, List.not_mem_nil, or_false] at hq ⊢; omega))).trans (by rw [eμ7]; exact Fr.mI (by simp))) (by rw [eμ7, mI_ne (by omega), hf2.1 r (by simp)]; exact hdr) ⟨_, Q.set (k - m).toNat (P k.toNat * finv (D m)), ⟨hca.1, fun j a b => by rw [eμ7, mI_ne (by omega)]; exact hca.2 j a b⟩, by rw [eμ7]; exact hcQ2.set (by omega) (by omega) hzz, by rw [hcc, show (k + (-1) + 1).toNat = k.toNat by omega]; exact PS.strike_at hDz (PS.lt_mono hPl (by omega)) (by omega), PS.set_lt hQl (by omega), fun n hn => (by show (if n = (k - m).toNat then _ else Q n) = 0; rw [if_neg (by omega)]; exact hQ0s n (by omega)), by rw [hcc, PS.set_add (hQ0s _ (by omega)), show (k - (m : Int)).toNat = k.toNat - m by omega]; exact PS.div_step hpe⟩)
  refine v_aload hx DX5_quotient_0 0 rfl ?_
  refine v_cVv hx DX5_quotient_1 CVRX5_29 [] (s_clear l G Λ sz μ hT hQ0) hT.1 rfl rfl (Nat.le_of_ble_eq_true rfl) (by decide) ⟨Nat.le_refl _, Nat.le_refl _⟩ (fun μ8 hμ8 => ?_)
  obtain ⟨hQ1, hf1⟩ := hμ8
  have hDm : PA μ8 a D := hD.kept hf1 (by simp; omega) (by simp; omega)
  have hPm : PA μ8 r p := hP.kept hf1 (by simp; omega) (by simp; omega)
  have hfm : Fr [t, t + 1, r + 1] μ μ8 := hf1.mono (fun q hq => by simp only [List.mem_cons, List.not_mem_nil, or_false] at hq ⊢; omega)
  refine v_aload hx DX5_quotient_4 2 rfl ?_
  refine v_cVp hx DX5_quotient_5 CVRX5_47 [] (s_head l G Λ sz μ8 hA hDm) hA.1 rfl rfl (Nat.le_of_ble_eq_true rfl) (by decide) ⟨Nat.le_refl _, Nat.le_refl _⟩ ?_
  refine v_cNp hx DX5_quotient_8 CSRX5_51 [iv (hdI D)] (s_inverse l G Λ sz μ8 hI (hdI_rng D)) rfl rfl (Nat.le_of_ble_eq_true rfl) (by decide) ⟨Nat.le_refl _, Nat.le_refl _⟩ ?_
  refine v_istore hx DX5_quotient_11 [(3, iv (ivI (hdI D))), (0, .ref t), (1, .ref r), (2, .ref a)] rfl (by decide) ?_
  refine v_aload hx DX5_quotient_12 2 rfl ?_
  refine v_get hx DX5_quotient_13 FLRX5_15 hR.1 (fv_i rfl hPm.2 : _ = iv ((p.size : Int) - 1)) ?_
  refine v_istore hx DX5_quotient_16 [(4, iv ((p.size : Int) - 1)), (3, iv (ivI (hdI D))), (0, .ref t), (1, .ref r), (2, .ref a)] rfl (by decide) ?_
  exact v_sub [0, 1, 2, 3, 4] _ rfl (L18 100 ((p.size : Int) - 1) μ8 (by omega) (by omega) hfm hPm.2 ⟨p, PS.zero, hPm.1, hQ1.1, PS.lt_mono (PS.lt_size hP.1.1) (by omega), PS.zero_lt _, fun _ _ => rfl, PS.div0 p D⟩)
