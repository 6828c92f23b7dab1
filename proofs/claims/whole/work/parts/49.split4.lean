theorem PS.C0 : PS.C (fi 0) = PS.zero := by rw [fi_0, PS.zero_eq]
theorem thk_const {M : PS} (hM : M.fin) (hM0 : M ≠ PS.zero) (h : (M.thk 0).size ≤ 1) : (M.thk 1).size ≤ 1 := by
  have h' : M.size ≤ 1 := h
  have := (PS.thn_spec hM hM0 (by omega)).2.2.2
  show M.thn.size ≤ 1
  omega
theorem her_le {N D W Q R M : PS} {n t : Nat} (h : HI N D W Q R M n) (ht : ∀ j, j < t → 1 < (M.thk j).size) : t ≤ n := by
  obtain ⟨⟨hN, hD, hD0, hDs, hDm, hW⟩, ⟨hM, hM0, hMm, hMs⟩, hml, hn, -⟩ := h
  rcases Nat.eq_zero_or_pos t with z | z
  · omega
  · obtain ⟨a1, a2, a3, a4⟩ := PS.thk_spec hM hM0 (by omega) (t - 1)
    obtain ⟨P, hP, hd⟩ := PS.irr_ex _ _ a1 (ht (t - 1) (by omega)) (Nat.le_refl _)
    obtain ⟨e0, he0, -⟩ := PS.mlt_ex hP _ D hD hD0 (Nat.le_refl _)
    have := (PS.mlt_pos hP (a4 P _ hP (hml P e0 hP he0))).mp hd
    omega
theorem her_top {D : PS} {t : Nat} (hD : D.fin) (hD0 : D ≠ PS.zero) (hs : D.size ≤ 48) (ht : ∀ j, j < t → 1 < (D.thk j).size) : t < D.size := by
  have key : ∀ j, j ≤ t → (D.thk j).size + j ≤ D.size := by
    intro j
    induction j with
    | zero => intro _; exact Nat.le_refl _
    | succ j ih =>
      intro hj
      have h1 := ih (by omega)
      have h2 := thk_dec hD hD0 (by omega) j (ht j (by omega))
      omega
  have h1 := key t (Nat.le_refl _)
  obtain ⟨a1, a2, -⟩ := PS.thk_spec hD hD0 (by omega) t
  have := PS.fpos a1 a2
  omega
theorem spl_zero {N D W : PS} (hD : D.fin) (hD0 : D ≠ PS.zero) (hs : D.size ≤ 48) (hW : W.fin) (hN : N = PS.zero) : spQ N D W = PS.zero ∧ spR N D W = PS.zero := by
  subst hN
  refine SPL.eq PS.fin_zero hD hD0 (by omega) (by rw [PS.size_zero]; omega) hW ?_
  refine ⟨PS.zero, PS.zero, PS.zero, PS.zero, PS.zero_lt _, PS.zero_lt _, PS.fin_zero, PS.fin_zero, by rw [PS.zero_mul, PS.zero_add], by rw [PS.zero_mul, PS.zero_add], fun _ => ⟨rfl, rfl, Or.inl rfl⟩, fun _ => ⟨PS.zero_lt _, Or.inl rfl⟩, ?_⟩
  unfold SI
  rw [PS.der_zero, PS.zero_eq]
  generalize D.dv D.thn = M
  generalize D.thn = E
  generalize E.der = E'
  letI := psRing
  show 0 * (E * E) * M = D * M * (0 * E - 0 * E' + W * 0 * E) + D * (E * E) * 0
  grind
theorem run_mw {N D W Q R M : PS} {n : Nat} (h : HI N D W Q R M n) (hz : Hid (D.size ≤ 20 ∧ N.size ≤ 40 ∧ W.size ≤ 4 ∧ gdI N D W ≤ 10)) : Hid (D.thn.size ≤ 20 ∧ M.size ≤ 20 ∧ (R.dv M).size ≤ 12 ∧ W.size ≤ 4) := by
  obtain ⟨⟨hN, hD, hD0, hDs, hDm, hW⟩, ⟨hM, hM0, hMm, hMs⟩, hml, hn, hSI, hQ, hR, hRs⟩ := h
  unfold Hid at hz ⊢
  obtain ⟨h1, h2, h3, h4⟩ := PS.thn_spec hD hD0 (by omega)
  obtain ⟨mn, hmn, hMz⟩ := PS.fne_isz hM hM0
  refine ⟨by omega, by omega, ?_, by omega⟩
  exact PS.size_le (PS.dv_lt hMz (PS.lt_mono (PS.fisz hR).2 (by omega)))
set_option maxHeartbeats 4000000 in
theorem q_runA (l : Launch) (G : Gl) (Λ : Lay) (sz : Nat) (μ : Mem) {π : Nat → PS} {κ σ f w q r : Nat} {N D W : PS} (hA : AB Λ μ π) (hI : INV G Λ) (hK : kitK Λ κ) (hS : spK Λ σ κ) (hkw : polyK Λ w) (hFq : fracK Λ q) (hFr : fracK Λ r) (hFf : fracK Λ f) (hord : κ + 16 < σ ∧ σ + 16 < f ∧ f + 4 < w ∧ w + 1 < q ∧ q + 4 < r) (hw : π w = W) (hf1 : π (f + 1) = N) (hf3 : π (f + 3) = D) (hD0 : D ≠ PS.zero) (hDm : D.mnc) (hz : Hid (D.size ≤ 20 ∧ N.size ≤ 40 ∧ W.size ≤ 4 ∧ gdI N D W ≤ 10)) (hN0 : N = PS.zero → D = PS.one) : Sp l G yX9_run cX9_run 7 none 5 [.ref σ, .ref f, .ref w, .ref q, .ref r] Λ sz μ (pV (fun μ' => ∃ π', Chg Λ (fun c => c = q + 1 ∨ c = q + 3 ∨ c = r + 1 ∨ c = r + 3 ∨ (σ < c ∧ c < σ + 17) ∨ (κ < c ∧ c < κ + 17)) μ μ' π π' ∧ π' (q + 1) = rdN (spQ N D W) D.thn ∧ π' (q + 3) = rdD (spQ N D W) D.thn ∧ π' (r + 1) = rdN (spR N D W) (PS.dv D D.thn) ∧ π' (r + 3) = rdD (spR N D W) (PS.dv D D.thn))) := by
  refine Sp.intro (by decide) (Nat.le_of_ble_eq_true rfl) (fun x hx hBD => ?_)
  refine v_lv [(0, .ref σ), (1, .ref f), (2, .ref w), (3, .ref q), (4, .ref r)] rfl ?_
  have lW : W.fin := ⟨_, hw ▸ (hA w hkw).1.1⟩
  have lN0 : N.lt 48 := hf1 ▸ (hA (f + 1) hFf.2.1).1.1
  have lN : N.fin := ⟨_, lN0⟩
  have lD : D.fin := ⟨_, hf3 ▸ (hA (f + 3) hFf.2.2).1.1⟩
  have hstart := HI.start lN lD hD0 (by have hz2 := hz; unfold Hid at hz2; omega) hDm lW
  have hth := PS.thn_spec lD hD0 (by have hz2 := hz; unfold Hid at hz2; omega)
  have sN := PS.size_le lN0
  have hch0 : Chg Λ (fun c => c = q + 1 ∨ c = q + 3 ∨ c = r + 1 ∨ c = r + 3 ∨ (σ < c ∧ c < σ + 17) ∨ (κ < c ∧ c < κ + 17)) μ μ π π := Chg.rf hA
  have L48 : ∀ (nf : Nat) (k : Int) (t n : Nat) (Q R M : PS) (Ma : Mem) (πk : Nat → PS), (50 - k < (nf : Int)) → (Chg Λ (fun c => c = q + 1 ∨ c = q + 3 ∨ c = r + 1 ∨ c = r + 3 ∨ (σ < c ∧ c < σ + 17) ∨ (κ < c ∧ c < κ + 17)) μ Ma π πk) → (πk w = W) → (πk (q + 1) = Q) → (πk (q + 3) = D.thn) → (πk (r + 1) = R) → (πk (r + 3) = M) → (0 ≤ k ∧ t + k ≤ 48) → (HI N D W Q R M n) → ((M.thk t).size ≤ 1 ∧ (∀ j, j < t → 1 < (M.thk j).size)) → (0 < t → πk (σ + 1) = M.thk (t - 1)) → V G x (0, 0) Λ sz Ma 48 [(6, iv k), (5, iv (t : Int)), (0, .ref σ), (1, .ref f), (2, .ref w), (3, .ref q), (4, .ref r)] [] := by
    intro nf
    induction nf with
    | zero => intro k t n Q R M Ma πk hm hchπk vπk_0 vπk_1 vπk_2 vπk_3 vπk_4 hk hH hch hfc; exact absurd hm (by omega)
    | succ nf ih =>
      intro k t n Q R M Ma πk hm hchπk vπk_0 vπk_1 vπk_2 vπk_3 vπk_4 hk hH hch hfc
      have hAπk := hchπk.1
      refine v_iload hx DX9_run_48 0 rfl ?_
      refine v_push hx DX9_run_50 ?_
      refine v_icmp_ge hx DX9_run_52 (by omega) (by decide) (fun c52 => ?_) (fun c52 => ?_)
      · skip
        refine v_aload hx DX9_run_88 2 rfl ?_
        refine v_aload hx DX9_run_89 4 rfl ?_
        refine v_aload hx DX9_run_90 5 rfl ?_
        refine v_aload hx DX9_run_91 6 rfl ?_
        refine v_cVv hx DX9_run_93 CVRX9_93 [.ref w, .ref q, .ref r] (q_moveWhole (E := D.thn) (W := W) (Q := Q) (R := R) (M := M) l G Λ sz Ma hAπk hI hK hS (by omega) hkw hFq hFr (by omega) (by omega) (by omega) (by omega) vπk_0 vπk_1 vπk_2 vπk_3 vπk_4 hH.2.1.2.1 (run_mw hH hz)) hS.1 rfl rfl (Nat.le_of_ble_eq_true rfl) (by decide) ⟨Nat.le_refl _, Nat.le_refl _⟩ (fun μ1 hμ1 => ?_)
        obtain ⟨π1, hc1, he1_0, he1_1, he1_2, Hh, Gg, hMW, hqq, hrr⟩ := hμ1
        have hA1 := hc1.1
        have hch1 := hchπk.trans (hc1.mono (fun c hc => by first | omega | (dsimp only at hc ⊢; omega)))
        have hend := her_end hH (by rcases (show t = 0 ∨ t = 1 by omega) with z | z; subst z; exact thk_const hH.2.1.1 hH.2.1.2.1 hch.1; subst z; exact hch.1)
        have hspl := spl_of hH hend hMW
        have heq := hspl.eq lN lD hD0 (by have hz2 := hz; unfold Hid at hz2; omega) (by have hz2 := hz; unfold Hid at hz2; omega) lW
        rw [PS.am1, ← heq.1] at hqq
        rw [PS.am1, ← heq.2] at hrr
        refine v_aload hx DX9_run_96 2 rfl ?_
        refine v_get hx DX9_run_97 FLRX9_39 hS.1 (v := .ref κ) rfl ?_
        refine v_aload hx DX9_run_100 5 rfl ?_
        refine v_cVv hx DX9_run_101 CVRX9_97 [.ref q] (q_reduce l G Λ sz μ1 hA1 hI hK hFq (by omega) (by rw [he1_0]; exact hth.2.1)) hK.1 rfl rfl (Nat.le_of_ble_eq_true rfl) (by decide) ⟨Nat.le_refl _, Nat.le_refl _⟩ (fun μ2 hμ2 => ?_)
        obtain ⟨π2, hc2, he2_0, he2_1⟩ := hμ2
        have hA2 := hc2.1
        have hch2 := hch1.trans (hc2.mono (fun c hc => by first | omega | (dsimp only at hc ⊢; omega)))
        have v2_1 : π2 (r + 3) = M := (hc2.2.1 (r + 3) (by first | omega | (dsimp only; omega))).trans he1_1
        have v2_2 : π2 w = W := (hc2.2.1 w (by first | omega | (dsimp only; omega))).trans he1_2
        have g2_0 : π2 (q + 1) = rdN (spQ N D W) D.thn := he2_0.trans (by rw [hqq, he1_0])
        have g2_1 : π2 (q + 3) = rdD (spQ N D W) D.thn := he2_1.trans (by rw [hqq, he1_0])
        have hrr2 : π2 (r + 1) = spR N D W := (hc2.2.1 (r + 1) (by first | omega | (dsimp only; omega))).trans hrr
        refine v_aload hx DX9_run_104 2 rfl ?_
        refine v_get hx DX9_run_105 FLRX9_39 hS.1 (v := .ref κ) rfl ?_
        refine v_aload hx DX9_run_108 6 rfl ?_
        refine v_cVv hx DX9_run_110 CVRX9_97 [.ref r] (q_reduce l G Λ sz μ2 hA2 hI hK hFr (by omega) (by rw [v2_1]; exact hH.2.1.2.1)) hK.1 rfl rfl (Nat.le_of_ble_eq_true rfl) (by decide) ⟨Nat.le_refl _, Nat.le_refl _⟩ (fun μ3 hμ3 => ?_)
        obtain ⟨π3, hc3, he3_0, he3_1⟩ := hμ3
        have hA3 := hc3.1
        have hch3 := hch2.trans (hc3.mono (fun c hc => by first | omega | (dsimp only at hc ⊢; omega)))
        have v3_1 : π3 w = W := (hc3.2.1 w (by first | omega | (dsimp only; omega))).trans v2_2
        have v3_2 : π3 (q + 1) = rdN (spQ N D W) D.thn := (hc3.2.1 (q + 1) (by first | omega | (dsimp only; omega))).trans g2_0
        have v3_3 : π3 (q + 3) = rdD (spQ N D W) D.thn := (hc3.2.1 (q + 3) (by first | omega | (dsimp only; omega))).trans g2_1
        have g3_0 : π3 (r + 1) = rdN (spR N D W) (PS.dv D D.thn) := he3_0.trans (by rw [hrr2, v2_1, hend])
        have g3_1 : π3 (r + 3) = rdD (spR N D W) (PS.dv D D.thn) := he3_1.trans (by rw [hrr2, v2_1, hend])
        exact v_rv hx hBD DX9_run_113 (⟨π3, hch3, v3_2, v3_3, g3_0, g3_1⟩)
      · skip
        refine v_iload hx DX9_run_55 1 rfl ?_
        refine v_push hx DX9_run_57 ?_
        refine v_icmp_le hx DX9_run_58 (by omega) (by decide) (fun c58 => ?_) (fun c58 => ?_)
        · skip
          refine v_aload hx DX9_run_88 2 rfl ?_
          refine v_aload hx DX9_run_89 4 rfl ?_
          refine v_aload hx DX9_run_90 5 rfl ?_
          refine v_aload hx DX9_run_91 6 rfl ?_
          refine v_cVv hx DX9_run_93 CVRX9_93 [.ref w, .ref q, .ref r] (q_moveWhole (E := D.thn) (W := W) (Q := Q) (R := R) (M := M) l G Λ sz Ma hAπk hI hK hS (by omega) hkw hFq hFr (by omega) (by omega) (by omega) (by omega) vπk_0 vπk_1 vπk_2 vπk_3 vπk_4 hH.2.1.2.1 (run_mw hH hz)) hS.1 rfl rfl (Nat.le_of_ble_eq_true rfl) (by decide) ⟨Nat.le_refl _, Nat.le_refl _⟩ (fun μ4 hμ4 => ?_)
          obtain ⟨π4, hc4, he4_0, he4_1, he4_2, Hh, Gg, hMW, hqq, hrr⟩ := hμ4
          have hA4 := hc4.1
          have hch4 := hchπk.trans (hc4.mono (fun c hc => by first | omega | (dsimp only at hc ⊢; omega)))
          have hend := her_end hH (by rcases (show t = 0 ∨ t = 1 by omega) with z | z; subst z; exact thk_const hH.2.1.1 hH.2.1.2.1 hch.1; subst z; exact hch.1)
          have hspl := spl_of hH hend hMW
          have heq := hspl.eq lN lD hD0 (by have hz2 := hz; unfold Hid at hz2; omega) (by have hz2 := hz; unfold Hid at hz2; omega) lW
          rw [PS.am1, ← heq.1] at hqq
          rw [PS.am1, ← heq.2] at hrr
          refine v_aload hx DX9_run_96 2 rfl ?_
          refine v_get hx DX9_run_97 FLRX9_39 hS.1 (v := .ref κ) rfl ?_
          refine v_aload hx DX9_run_100 5 rfl ?_
          refine v_cVv hx DX9_run_101 CVRX9_97 [.ref q] (q_reduce l G Λ sz μ4 hA4 hI hK hFq (by omega) (by rw [he4_0]; exact hth.2.1)) hK.1 rfl rfl (Nat.le_of_ble_eq_true rfl) (by decide) ⟨Nat.le_refl _, Nat.le_refl _⟩ (fun μ5 hμ5 => ?_)
          obtain ⟨π5, hc5, he5_0, he5_1⟩ := hμ5
          have hA5 := hc5.1
          have hch5 := hch4.trans (hc5.mono (fun c hc => by first | omega | (dsimp only at hc ⊢; omega)))
          have v5_1 : π5 (r + 3) = M := (hc5.2.1 (r + 3) (by first | omega | (dsimp only; omega))).trans he4_1
          have v5_2 : π5 w = W := (hc5.2.1 w (by first | omega | (dsimp only; omega))).trans he4_2
          have g5_0 : π5 (q + 1) = rdN (spQ N D W) D.thn := he5_0.trans (by rw [hqq, he4_0])
          have g5_1 : π5 (q + 3) = rdD (spQ N D W) D.thn := he5_1.trans (by rw [hqq, he4_0])
          have hrr2 : π5 (r + 1) = spR N D W := (hc5.2.1 (r + 1) (by first | omega | (dsimp only; omega))).trans hrr
          refine v_aload hx DX9_run_104 2 rfl ?_
          refine v_get hx DX9_run_105 FLRX9_39 hS.1 (v := .ref κ) rfl ?_
          refine v_aload hx DX9_run_108 6 rfl ?_
          refine v_cVv hx DX9_run_110 CVRX9_97 [.ref r] (q_reduce l G Λ sz μ5 hA5 hI hK hFr (by omega) (by rw [v5_1]; exact hH.2.1.2.1)) hK.1 rfl rfl (Nat.le_of_ble_eq_true rfl) (by decide) ⟨Nat.le_refl _, Nat.le_refl _⟩ (fun μ6 hμ6 => ?_)
          obtain ⟨π6, hc6, he6_0, he6_1⟩ := hμ6
          have hA6 := hc6.1
          have hch6 := hch5.trans (hc6.mono (fun c hc => by first | omega | (dsimp only at hc ⊢; omega)))
          have v6_1 : π6 w = W := (hc6.2.1 w (by first | omega | (dsimp only; omega))).trans v5_2
          have v6_2 : π6 (q + 1) = rdN (spQ N D W) D.thn := (hc6.2.1 (q + 1) (by first | omega | (dsimp only; omega))).trans g5_0
          have v6_3 : π6 (q + 3) = rdD (spQ N D W) D.thn := (hc6.2.1 (q + 3) (by first | omega | (dsimp only; omega))).trans g5_1
          have g6_0 : π6 (r + 1) = rdN (spR N D W) (PS.dv D D.thn) := he6_0.trans (by rw [hrr2, v5_1, hend])
          have g6_1 : π6 (r + 3) = rdD (spR N D W) (PS.dv D D.thn) := he6_1.trans (by rw [hrr2, v5_1, hend])
          exact v_rv hx hBD DX9_run_113 (⟨π6, hch6, v6_2, v6_3, g6_0, g6_1⟩)
        · skip
          refine v_aload hx DX9_run_61 2 rfl ?_
          refine v_iload hx DX9_run_62 1 rfl ?_
          refine v_aload hx DX9_run_64 4 rfl ?_
          refine v_aload hx DX9_run_65 5 rfl ?_
          refine v_aload hx DX9_run_66 6 rfl ?_
          refine v_cVv hx DX9_run_68 CVRX9_89 [iv (t : Int), .ref w, .ref q, .ref r] (q_lower (t := t) (N := N) (D := D) (W := W) (Q := Q) (R := R) (M := M) (n := n) l G Λ sz Ma hAπk hI hK hS (by omega) hkw hFq hFr (by omega) (by omega) (by omega) (by omega) vπk_0 vπk_1 vπk_2 vπk_3 vπk_4 (hfc (by omega)) hH (by omega) (hch.2 (t - 1) (by omega)) hch.1 (by have hz2 := hz; unfold Hid at hz2; omega) (by have hz2 := hz; unfold Hid at hz2; omega) (by have hz2 := hz; unfold Hid at hz2; omega)) hS.1 rfl rfl (Nat.le_of_ble_eq_true rfl) (by decide) ⟨Nat.le_refl _, Nat.le_refl _⟩ (fun μ7 hμ7 => ?_)
          obtain ⟨π7, hc7, he7_0, he7_1, he7_2, he7_3, he7_4⟩ := hμ7
          have hA7 := hc7.1
          have hch7 := hchπk.trans (hc7.mono (fun c hc => by first | omega | (dsimp only at hc ⊢; omega)))
          have hH2 := (her_step hH (by omega) (by omega) (hch.2 (t - 1) (by omega)) hch.1).2.2.2
          refine v_aload hx DX9_run_71 2 rfl ?_
          refine v_aload hx DX9_run_72 6 rfl ?_
          refine v_get hx DX9_run_74 FLRX9_82 hFr.1 (v := .ref (r + 3)) rfl ?_
          refine v_cVi hx DX9_run_77 CVRX9_85 [.ref (r + 3)] (q_highest l G Λ sz μ7 hA7 hI hK hS (by omega) hFr.2.2 (by omega) (by rw [he7_3]; exact hH2.2.1.2.1)) hS.1 rfl rfl (Nat.le_of_ble_eq_true rfl) (by decide) ⟨Nat.le_refl _, Nat.le_refl _⟩ (fun z8 μ8 hμ8 => ?_)
          obtain ⟨π8, hc8, t1, hz0, ht48, ht1, ht2, htl, hfa⟩ := hμ8
          have hA8 := hc8.1
          have hch8 := hch7.trans (hc8.mono (fun c hc => by first | omega | (dsimp only at hc ⊢; omega)))
          have v8_0 : π8 (q + 1) = PS.am Q (PS.mul (D.thn.dv (hY M t)) (hB R M t)) (fi 1) 0 := (hc8.2.1 (q + 1) (by first | omega | (dsimp only; omega))).trans he7_0
          have v8_1 : π8 (q + 3) = D.thn := (hc8.2.1 (q + 3) (by first | omega | (dsimp only; omega))).trans he7_1
          have v8_2 : π8 (r + 1) = hR2 W R M t := (hc8.2.1 (r + 1) (by first | omega | (dsimp only; omega))).trans he7_2
          have v8_3 : π8 (r + 3) = PS.mul (hU M t) (hY M t) := (hc8.2.1 (r + 3) (by first | omega | (dsimp only; omega))).trans he7_3
          have v8_4 : π8 w = W := (hc8.2.1 w (by first | omega | (dsimp only; omega))).trans he7_4
          rw [he7_3] at ht1 ht2 htl hfa
          subst hz0
          have htn := her_le hH2 ht2
          refine v_istore hx DX9_run_80 [(5, iv (t1 : Int)), (6, iv k), (0, .ref σ), (1, .ref f), (2, .ref w), (3, .ref q), (4, .ref r)] rfl (by decide) ?_
          refine v_iinc hx DX9_run_82 1 rfl [(6, iv (k + 1)), (5, iv (t1 : Int)), (0, .ref σ), (1, .ref f), (2, .ref w), (3, .ref q), (4, .ref r)] rfl (by decide) ?_
          refine v_goto hx DX9_run_85 ?_
          exact v_sub [0, 1, 2, 3, 4, 5, 6] _ rfl (ih (k + 1) t1 (t - 1) (PS.am Q (PS.mul (D.thn.dv (hY M t)) (hB R M t)) (fi 1) 0) (hR2 W R M t) (PS.mul (hU M t) (hY M t)) μ8 π8 (by omega) hch8 v8_4 v8_0 v8_1 v8_2 v8_3 (by omega) hH2 ⟨ht1, ht2⟩ (fun h => hfa h))
  refine v_aload hx DX9_run_0 3 rfl ?_
  refine v_push hx DX9_run_1 ?_
  refine v_cVv hx DX9_run_2 CVRX9_66 [iv 0] (q_fset l G Λ sz μ hA hFq (by omega)) hFq.1 rfl rfl (Nat.le_of_ble_eq_true rfl) (by decide) ⟨Nat.le_refl _, Nat.le_refl _⟩ (fun μ9 hμ9 => ?_)
  obtain ⟨π9, hc9, he9_0, he9_1⟩ := hμ9
  have hA9 := hc9.1
  have hch9 := hch0.trans (hc9.mono (fun c hc => by first | omega | (dsimp only at hc ⊢; omega)))
  have v9_0 : π9 w = W := (hc9.2.1 w (by first | omega | (dsimp only; omega))).trans hw
  have v9_1 : π9 (f + 1) = N := (hc9.2.1 (f + 1) (by first | omega | (dsimp only; omega))).trans hf1
  have v9_2 : π9 (f + 3) = D := (hc9.2.1 (f + 3) (by first | omega | (dsimp only; omega))).trans hf3
  have g9_0 : π9 (q + 1) = PS.zero := he9_0.trans PS.C0
  refine v_aload hx DX9_run_5 4 rfl ?_
  refine v_aload hx DX9_run_7 1 rfl ?_
  refine v_cVv hx DX9_run_8 CVRX9_72 [.ref f] (q_fbecome l G Λ sz μ9 hA9 hFr hFf (by omega)) hFr.1 rfl rfl (Nat.le_of_ble_eq_true rfl) (by decide) ⟨Nat.le_refl _, Nat.le_refl _⟩ (fun μ10 hμ10 => ?_)
  obtain ⟨π10, hc10, he10_0, he10_1⟩ := hμ10
  have hA10 := hc10.1
  have hch10 := hch9.trans (hc10.mono (fun c hc => by first | omega | (dsimp only at hc ⊢; omega)))
  have v10_0 : π10 w = W := (hc10.2.1 w (by first | omega | (dsimp only; omega))).trans v9_0
  have v10_1 : π10 (f + 1) = N := (hc10.2.1 (f + 1) (by first | omega | (dsimp only; omega))).trans v9_1
  have v10_2 : π10 (f + 3) = D := (hc10.2.1 (f + 3) (by first | omega | (dsimp only; omega))).trans v9_2
  have v10_3 : π10 (q + 1) = PS.zero := (hc10.2.1 (q + 1) (by first | omega | (dsimp only; omega))).trans g9_0
  have v10_4 : π10 (q + 3) = PS.one := (hc10.2.1 (q + 3) (by first | omega | (dsimp only; omega))).trans he9_1
  have g10_0 : π10 (r + 1) = N := he10_0.trans v9_1
  have g10_1 : π10 (r + 3) = D := he10_1.trans v9_2
  refine v_aload hx DX9_run_11 1 rfl ?_
  refine v_get hx DX9_run_12 FLRX9_75 hFf.1 (v := .ref (f + 1)) rfl ?_
  refine v_get hx DX9_run_15 FLRX9_78 hFf.2.1.1 (fv_i rfl ((AB.get hA10 hFf.2.1 v10_1).2) : _ = iv ((N.size : Int) - 1)) ?_
  refine v_if_ge hx DX9_run_18 (by omega) (fun c18 => ?_) (fun c18 => ?_)
  · skip
    refine v_aload hx DX9_run_22 0 rfl ?_
    refine v_aload hx DX9_run_23 1 rfl ?_
    refine v_get hx DX9_run_24 FLRX9_82 hFf.1 (v := .ref (f + 3)) rfl ?_
    refine v_aload hx DX9_run_27 3 rfl ?_
    refine v_get hx DX9_run_28 FLRX9_82 hFq.1 (v := .ref (q + 3)) rfl ?_
    refine v_cVv hx DX9_run_31 CVRX9_47 [.ref (f + 3), .ref (q + 3)] (q_thin l G Λ sz μ10 hA10 hI hK hS (by omega) hFf.2.2 hFq.2.2 (by omega) (by omega)) hS.1 rfl rfl (Nat.le_of_ble_eq_true rfl) (by decide) ⟨Nat.le_refl _, Nat.le_refl _⟩ (fun μ11 hμ11 => ?_)
    obtain ⟨π11, hc11, he11_0⟩ := hμ11
    have hA11 := hc11.1
    have hch11 := hch10.trans (hc11.mono (fun c hc => by first | omega | (dsimp only at hc ⊢; omega)))
    have v11_0 : π11 w = W := (hc11.2.1 w (by first | omega | (dsimp only; omega))).trans v10_0
    have v11_1 : π11 (f + 1) = N := (hc11.2.1 (f + 1) (by first | omega | (dsimp only; omega))).trans v10_1
    have v11_2 : π11 (f + 3) = D := (hc11.2.1 (f + 3) (by first | omega | (dsimp only; omega))).trans v10_2
    have v11_3 : π11 (q + 1) = PS.zero := (hc11.2.1 (q + 1) (by first | omega | (dsimp only; omega))).trans v10_3
    have v11_5 : π11 (r + 1) = N := (hc11.2.1 (r + 1) (by first | omega | (dsimp only; omega))).trans g10_0
    have v11_6 : π11 (r + 3) = D := (hc11.2.1 (r + 3) (by first | omega | (dsimp only; omega))).trans g10_1
    have g11_0 : π11 (q + 3) = PS.thn D := he11_0.trans (by rw [v10_2])
    refine v_aload hx DX9_run_34 0 rfl ?_
    refine v_aload hx DX9_run_35 4 rfl ?_
    refine v_get hx DX9_run_37 FLRX9_82 hFr.1 (v := .ref (r + 3)) rfl ?_
    refine v_cVi hx DX9_run_40 CVRX9_85 [.ref (r + 3)] (q_highest l G Λ sz μ11 hA11 hI hK hS (by omega) hFr.2.2 (by omega) (by rw [v11_6]; exact hD0)) hS.1 rfl rfl (Nat.le_of_ble_eq_true rfl) (by decide) ⟨Nat.le_refl _, Nat.le_refl _⟩ (fun z12 μ12 hμ12 => ?_)
    obtain ⟨π12, hc12, t0, hz0, ht48, ht1, ht2, htl, hfa⟩ := hμ12
    have hA12 := hc12.1
    have hch12 := hch11.trans (hc12.mono (fun c hc => by first | omega | (dsimp only at hc ⊢; omega)))
    have v12_0 : π12 w = W := (hc12.2.1 w (by first | omega | (dsimp only; omega))).trans v11_0
    have v12_1 : π12 (f + 1) = N := (hc12.2.1 (f + 1) (by first | omega | (dsimp only; omega))).trans v11_1
    have v12_2 : π12 (f + 3) = D := (hc12.2.1 (f + 3) (by first | omega | (dsimp only; omega))).trans v11_2
    have v12_3 : π12 (q + 1) = PS.zero := (hc12.2.1 (q + 1) (by first | omega | (dsimp only; omega))).trans v11_3
    have v12_4 : π12 (r + 1) = N := (hc12.2.1 (r + 1) (by first | omega | (dsimp only; omega))).trans v11_5
    have v12_5 : π12 (r + 3) = D := (hc12.2.1 (r + 3) (by first | omega | (dsimp only; omega))).trans v11_6
    have v12_6 : π12 (q + 3) = PS.thn D := (hc12.2.1 (q + 3) (by first | omega | (dsimp only; omega))).trans g11_0
    rw [v11_6] at ht1 ht2 htl hfa
    subst hz0
    have ht0n := her_top lD hD0 (by have hz2 := hz; unfold Hid at hz2; omega) ht2
    refine v_istore hx DX9_run_43 [(5, iv (t0 : Int)), (0, .ref σ), (1, .ref f), (2, .ref w), (3, .ref q), (4, .ref r)] rfl (by decide) ?_
    refine v_push hx DX9_run_45 ?_
    refine v_istore hx DX9_run_46 [(6, iv 0), (5, iv (t0 : Int)), (0, .ref σ), (1, .ref f), (2, .ref w), (3, .ref q), (4, .ref r)] rfl (by decide) ?_
    exact v_sub [0, 1, 2, 3, 4, 5, 6] _ rfl (L48 100 0 t0 48 PS.zero N D μ12 π12 (by omega) hch12 v12_0 v12_3 v12_6 v12_4 v12_5 (by omega) hstart ⟨ht1, ht2⟩ (fun h => hfa h))
  · skip
    have hNz : N = PS.zero := (PS.size_eq_zero lN0).mp (by omega)
    have hsp := spl_zero lD hD0 (by have hz2 := hz; unfold Hid at hz2; omega) lW hNz
    have hD1 := hN0 hNz
    exact v_rv hx hBD DX9_run_21 (⟨π10, hch10, by rw [hsp.1, v10_3]; unfold rdN; rw [if_pos rfl], by rw [hsp.1, v10_4]; unfold rdD; rw [if_pos rfl], by rw [hsp.2, g10_0, hNz]; unfold rdN; rw [if_pos rfl], by rw [hsp.2, g10_1, hD1]; unfold rdD; rw [if_pos rfl]⟩)
set_option maxHeartbeats 4000000 in
theorem q_runB (l : Launch) (G : Gl) (Λ : Lay) (sz : Nat) (μ : Mem) {π : Nat → PS} {κ σ f w q r : Nat} {N D W : PS} (hA : AB Λ μ π) (hI : INV G Λ) (hK : kitK Λ κ) (hS : spK Λ σ κ) (hkw : polyK Λ w) (hFq : fracK Λ q) (hFr : fracK Λ r) (hFf : fracK Λ f) (hord : κ + 16 < σ ∧ σ + 16 < f ∧ f + 4 < r ∧ r + 4 < w ∧ w + 1 < q) (hw : π w = W) (hf1 : π (f + 1) = N) (hf3 : π (f + 3) = D) (hD0 : D ≠ PS.zero) (hDm : D.mnc) (hz : Hid (D.size ≤ 20 ∧ N.size ≤ 40 ∧ W.size ≤ 4 ∧ gdI N D W ≤ 10)) (hN0 : N = PS.zero → D = PS.one) : Sp l G yX9_run cX9_run 7 none 5 [.ref σ, .ref f, .ref w, .ref q, .ref r] Λ sz μ (pV (fun μ' => ∃ π', Chg Λ (fun c => c = q + 1 ∨ c = q + 3 ∨ c = r + 1 ∨ c = r + 3 ∨ (σ < c ∧ c < σ + 17) ∨ (κ < c ∧ c < κ + 17)) μ μ' π π' ∧ π' (q + 1) = rdN (spQ N D W) D.thn ∧ π' (q + 3) = rdD (spQ N D W) D.thn ∧ π' (r + 1) = rdN (spR N D W) (PS.dv D D.thn) ∧ π' (r + 3) = rdD (spR N D W) (PS.dv D D.thn))) := by
  refine Sp.intro (by decide) (Nat.le_of_ble_eq_true rfl) (fun x hx hBD => ?_)
  refine v_lv [(0, .ref σ), (1, .ref f), (2, .ref w), (3, .ref q), (4, .ref r)] rfl ?_
  have lW : W.fin := ⟨_, hw ▸ (hA w hkw).1.1⟩
  have lN0 : N.lt 48 := hf1 ▸ (hA (f + 1) hFf.2.1).1.1
  have lN : N.fin := ⟨_, lN0⟩
  have lD : D.fin := ⟨_, hf3 ▸ (hA (f + 3) hFf.2.2).1.1⟩
  have hstart := HI.start lN lD hD0 (by have hz2 := hz; unfold Hid at hz2; omega) hDm lW
  have hth := PS.thn_spec lD hD0 (by have hz2 := hz; unfold Hid at hz2; omega)
  have sN := PS.size_le lN0
  have hch0 : Chg Λ (fun c => c = q + 1 ∨ c = q + 3 ∨ c = r + 1 ∨ c = r + 3 ∨ (σ < c ∧ c < σ + 17) ∨ (κ < c ∧ c < κ + 17)) μ μ π π := Chg.rf hA
  have L48 : ∀ (nf : Nat) (k : Int) (t n : Nat) (Q R M : PS) (Ma : Mem) (πk : Nat → PS), (50 - k < (nf : Int)) → (Chg Λ (fun c => c = q + 1 ∨ c = q + 3 ∨ c = r + 1 ∨ c = r + 3 ∨ (σ < c ∧ c < σ + 17) ∨ (κ < c ∧ c < κ + 17)) μ Ma π πk) → (πk w = W) → (πk (q + 1) = Q) → (πk (q + 3) = D.thn) → (πk (r + 1) = R) → (πk (r + 3) = M) → (0 ≤ k ∧ t + k ≤ 48) → (HI N D W Q R M n) → ((M.thk t).size ≤ 1 ∧ (∀ j, j < t → 1 < (M.thk j).size)) → (0 < t → πk (σ + 1) = M.thk (t - 1)) → V G x (0, 0) Λ sz Ma 48 [(6, iv k), (5, iv (t : Int)), (0, .ref σ), (1, .ref f), (2, .ref w), (3, .ref q), (4, .ref r)] [] := by
    intro nf
    induction nf with
    | zero => intro k t n Q R M Ma πk hm hchπk vπk_0 vπk_1 vπk_2 vπk_3 vπk_4 hk hH hch hfc; exact absurd hm (by omega)
    | succ nf ih =>
      intro k t n Q R M Ma πk hm hchπk vπk_0 vπk_1 vπk_2 vπk_3 vπk_4 hk hH hch hfc
      have hAπk := hchπk.1
      refine v_iload hx DX9_run_48 0 rfl ?_
      refine v_push hx DX9_run_50 ?_
      refine v_icmp_ge hx DX9_run_52 (by omega) (by decide) (fun c52 => ?_) (fun c52 => ?_)
      · skip
        refine v_aload hx DX9_run_88 2 rfl ?_
        refine v_aload hx DX9_run_89 4 rfl ?_
        refine v_aload hx DX9_run_90 5 rfl ?_
        refine v_aload hx DX9_run_91 6 rfl ?_
        refine v_cVv hx DX9_run_93 CVRX9_93 [.ref w, .ref q, .ref r] (q_moveWhole (E := D.thn) (W := W) (Q := Q) (R := R) (M := M) l G Λ sz Ma hAπk hI hK hS (by omega) hkw hFq hFr (by omega) (by omega) (by omega) (by omega) vπk_0 vπk_1 vπk_2 vπk_3 vπk_4 hH.2.1.2.1 (run_mw hH hz)) hS.1 rfl rfl (Nat.le_of_ble_eq_true rfl) (by decide) ⟨Nat.le_refl _, Nat.le_refl _⟩ (fun μ1 hμ1 => ?_)
        obtain ⟨π1, hc1, he1_0, he1_1, he1_2, Hh, Gg, hMW, hqq, hrr⟩ := hμ1
        have hA1 := hc1.1
        have hch1 := hchπk.trans (hc1.mono (fun c hc => by first | omega | (dsimp only at hc ⊢; omega)))
        have hend := her_end hH (by rcases (show t = 0 ∨ t = 1 by omega) with z | z; subst z; exact thk_const hH.2.1.1 hH.2.1.2.1 hch.1; subst z; exact hch.1)
        have hspl := spl_of hH hend hMW
        have heq := hspl.eq lN lD hD0 (by have hz2 := hz; unfold Hid at hz2; omega) (by have hz2 := hz; unfold Hid at hz2; omega) lW
        rw [PS.am1, ← heq.1] at hqq
        rw [PS.am1, ← heq.2] at hrr
        refine v_aload hx DX9_run_96 2 rfl ?_
        refine v_get hx DX9_run_97 FLRX9_39 hS.1 (v := .ref κ) rfl ?_
        refine v_aload hx DX9_run_100 5 rfl ?_
        refine v_cVv hx DX9_run_101 CVRX9_97 [.ref q] (q_reduce l G Λ sz μ1 hA1 hI hK hFq (by omega) (by rw [he1_0]; exact hth.2.1)) hK.1 rfl rfl (Nat.le_of_ble_eq_true rfl) (by decide) ⟨Nat.le_refl _, Nat.le_refl _⟩ (fun μ2 hμ2 => ?_)
        obtain ⟨π2, hc2, he2_0, he2_1⟩ := hμ2
        have hA2 := hc2.1
        have hch2 := hch1.trans (hc2.mono (fun c hc => by first | omega | (dsimp only at hc ⊢; omega)))
        have v2_1 : π2 (r + 3) = M := (hc2.2.1 (r + 3) (by first | omega | (dsimp only; omega))).trans he1_1
        have v2_2 : π2 w = W := (hc2.2.1 w (by first | omega | (dsimp only; omega))).trans he1_2
        have g2_0 : π2 (q + 1) = rdN (spQ N D W) D.thn := he2_0.trans (by rw [hqq, he1_0])
        have g2_1 : π2 (q + 3) = rdD (spQ N D W) D.thn := he2_1.trans (by rw [hqq, he1_0])
        have hrr2 : π2 (r + 1) = spR N D W := (hc2.2.1 (r + 1) (by first | omega | (dsimp only; omega))).trans hrr
        refine v_aload hx DX9_run_104 2 rfl ?_
        refine v_get hx DX9_run_105 FLRX9_39 hS.1 (v := .ref κ) rfl ?_
        refine v_aload hx DX9_run_108 6 rfl ?_
        refine v_cVv hx DX9_run_110 CVRX9_97 [.ref r] (q_reduce l G Λ sz μ2 hA2 hI hK hFr (by omega) (by rw [v2_1]; exact hH.2.1.2.1)) hK.1 rfl rfl (Nat.le_of_ble_eq_true rfl) (by decide) ⟨Nat.le_refl _, Nat.le_refl _⟩ (fun μ3 hμ3 => ?_)
        obtain ⟨π3, hc3, he3_0, he3_1⟩ := hμ3
        have hA3 := hc3.1
        have hch3 := hch2.trans (hc3.mono (fun c hc => by first | omega | (dsimp only at hc ⊢; omega)))
        have v3_1 : π3 w = W := (hc3.2.1 w (by first | omega | (dsimp only; omega))).trans v2_2
        have v3_2 : π3 (q + 1) = rdN (spQ N D W) D.thn := (hc3.2.1 (q + 1) (by first | omega | (dsimp only; omega))).trans g2_0
        have v3_3 : π3 (q + 3) = rdD (spQ N D W) D.thn := (hc3.2.1 (q + 3) (by first | omega | (dsimp only; omega))).trans g2_1
        have g3_0 : π3 (r + 1) = rdN (spR N D W) (PS.dv D D.thn) := he3_0.trans (by rw [hrr2, v2_1, hend])
        have g3_1 : π3 (r + 3) = rdD (spR N D W) (PS.dv D D.thn) := he3_1.trans (by rw [hrr2, v2_1, hend])
        exact v_rv hx hBD DX9_run_113 (⟨π3, hch3, v3_2, v3_3, g3_0, g3_1⟩)
      · skip
        refine v_iload hx DX9_run_55 1 rfl ?_
        refine v_push hx DX9_run_57 ?_
        refine v_icmp_le hx DX9_run_58 (by omega) (by decide) (fun c58 => ?_) (fun c58 => ?_)
        · skip
          refine v_aload hx DX9_run_88 2 rfl ?_
          refine v_aload hx DX9_run_89 4 rfl ?_
          refine v_aload hx DX9_run_90 5 rfl ?_
          refine v_aload hx DX9_run_91 6 rfl ?_
          refine v_cVv hx DX9_run_93 CVRX9_93 [.ref w, .ref q, .ref r] (q_moveWhole (E := D.thn) (W := W) (Q := Q) (R := R) (M := M) l G Λ sz Ma hAπk hI hK hS (by omega) hkw hFq hFr (by omega) (by omega) (by omega) (by omega) vπk_0 vπk_1 vπk_2 vπk_3 vπk_4 hH.2.1.2.1 (run_mw hH hz)) hS.1 rfl rfl (Nat.le_of_ble_eq_true rfl) (by decide) ⟨Nat.le_refl _, Nat.le_refl _⟩ (fun μ4 hμ4 => ?_)
          obtain ⟨π4, hc4, he4_0, he4_1, he4_2, Hh, Gg, hMW, hqq, hrr⟩ := hμ4
          have hA4 := hc4.1
          have hch4 := hchπk.trans (hc4.mono (fun c hc => by first | omega | (dsimp only at hc ⊢; omega)))
          have hend := her_end hH (by rcases (show t = 0 ∨ t = 1 by omega) with z | z; subst z; exact thk_const hH.2.1.1 hH.2.1.2.1 hch.1; subst z; exact hch.1)
          have hspl := spl_of hH hend hMW
          have heq := hspl.eq lN lD hD0 (by have hz2 := hz; unfold Hid at hz2; omega) (by have hz2 := hz; unfold Hid at hz2; omega) lW
          rw [PS.am1, ← heq.1] at hqq
          rw [PS.am1, ← heq.2] at hrr
          refine v_aload hx DX9_run_96 2 rfl ?_
          refine v_get hx DX9_run_97 FLRX9_39 hS.1 (v := .ref κ) rfl ?_
          refine v_aload hx DX9_run_100 5 rfl ?_
          refine v_cVv hx DX9_run_101 CVRX9_97 [.ref q] (q_reduce l G Λ sz μ4 hA4 hI hK hFq (by omega) (by rw [he4_0]; exact hth.2.1)) hK.1 rfl rfl (Nat.le_of_ble_eq_true rfl) (by decide) ⟨Nat.le_refl _, Nat.le_refl _⟩ (fun μ5 hμ5 => ?_)
          obtain ⟨π5, hc5, he5_0, he5_1⟩ := hμ5
          have hA5 := hc5.1
          have hch5 := hch4.trans (hc5.mono (fun c hc => by first | omega | (dsimp only at hc ⊢; omega)))
          have v5_1 : π5 (r + 3) = M := (hc5.2.1 (r + 3) (by first | omega | (dsimp only; omega))).trans he4_1
          have v5_2 : π5 w = W := (hc5.2.1 w (by first | omega | (dsimp only; omega))).trans he4_2
          have g5_0 : π5 (q + 1) = rdN (spQ N D W) D.thn := he5_0.trans (by rw [hqq, he4_0])
          have g5_1 : π5 (q + 3) = rdD (spQ N D W) D.thn := he5_1.trans (by rw [hqq, he4_0])
          have hrr2 : π5 (r + 1) = spR N D W := (hc5.2.1 (r + 1) (by first | omega | (dsimp only; omega))).trans hrr
          refine v_aload hx DX9_run_104 2 rfl ?_
          refine v_get hx DX9_run_105 FLRX9_39 hS.1 (v := .ref κ) rfl ?_
          refine v_aload hx DX9_run_108 6 rfl ?_
          refine v_cVv hx DX9_run_110 CVRX9_97 [.ref r] (q_reduce l G Λ sz μ5 hA5 hI hK hFr (by omega) (by rw [v5_1]; exact hH.2.1.2.1)) hK.1 rfl rfl (Nat.le_of_ble_eq_true rfl) (by decide) ⟨Nat.le_refl _, Nat.le_refl _⟩ (fun μ6 hμ6 => ?_)
          obtain ⟨π6, hc6, he6_0, he6_1⟩ := hμ6
          have hA6 := hc6.1
          have hch6 := hch5.trans (hc6.mono (fun c hc => by first | omega | (dsimp only at hc ⊢; omega)))
          have v6_1 : π6 w = W := (hc6.2.1 w (by first | omega | (dsimp only; omega))).trans v5_2
          have v6_2 : π6 (q + 1) = rdN (spQ N D W) D.thn := (hc6.2.1 (q + 1) (by first | omega | (dsimp only; omega))).trans g5_0
          have v6_3 : π6 (q + 3) = rdD (spQ N D W) D.thn := (hc6.2.1 (q + 3) (by first | omega | (dsimp only; omega))).trans g5_1
          have g6_0 : π6 (r + 1) = rdN (spR N D W) (PS.dv D D.thn) := he6_0.trans (by rw [hrr2, v5_1, hend])
          have g6_1 : π6 (r + 3) = rdD (spR N D W) (PS.dv D D.thn) := he6_1.trans (by rw [hrr2, v5_1, hend])
          exact v_rv hx hBD DX9_run_113 (⟨π6, hch6, v6_2, v6_3, g6_0, g6_1⟩)
        · skip
          refine v_aload hx DX9_run_61 2 rfl ?_
          refine v_iload hx DX9_run_62 1 rfl ?_
          refine v_aload hx DX9_run_64 4 rfl ?_
          refine v_aload hx DX9_run_65 5 rfl ?_
          refine v_aload hx DX9_run_66 6 rfl ?_
          refine v_cVv hx DX9_run_68 CVRX9_89 [iv (t : Int), .ref w, .ref q, .ref r] (q_lower (t := t) (N := N) (D := D) (W := W) (Q := Q) (R := R) (M := M) (n := n) l G Λ sz Ma hAπk hI hK hS (by omega) hkw hFq hFr (by omega) (by omega) (by omega) (by omega) vπk_0 vπk_1 vπk_2 vπk_3 vπk_4 (hfc (by omega)) hH (by omega) (hch.2 (t - 1) (by omega)) hch.1 (by have hz2 := hz; unfold Hid at hz2; omega) (by have hz2 := hz; unfold Hid at hz2; omega) (by have hz2 := hz; unfold Hid at hz2; omega)) hS.1 rfl rfl (Nat.le_of_ble_eq_true rfl) (by decide) ⟨Nat.le_refl _, Nat.le_refl _⟩ (fun μ7 hμ7 => ?_)
          obtain ⟨π7, hc7, he7_0, he7_1, he7_2, he7_3, he7_4⟩ := hμ7
          have hA7 := hc7.1
          have hch7 := hchπk.trans (hc7.mono (fun c hc => by first | omega | (dsimp only at hc ⊢; omega)))
          have hH2 := (her_step hH (by omega) (by omega) (hch.2 (t - 1) (by omega)) hch.1).2.2.2
          refine v_aload hx DX9_run_71 2 rfl ?_
          refine v_aload hx DX9_run_72 6 rfl ?_
          refine v_get hx DX9_run_74 FLRX9_82 hFr.1 (v := .ref (r + 3)) rfl ?_
          refine v_cVi hx DX9_run_77 CVRX9_85 [.ref (r + 3)] (q_highest l G Λ sz μ7 hA7 hI hK hS (by omega) hFr.2.2 (by omega) (by rw [he7_3]; exact hH2.2.1.2.1)) hS.1 rfl rfl (Nat.le_of_ble_eq_true rfl) (by decide) ⟨Nat.le_refl _, Nat.le_refl _⟩ (fun z8 μ8 hμ8 => ?_)
          obtain ⟨π8, hc8, t1, hz0, ht48, ht1, ht2, htl, hfa⟩ := hμ8
          have hA8 := hc8.1
          have hch8 := hch7.trans (hc8.mono (fun c hc => by first | omega | (dsimp only at hc ⊢; omega)))
          have v8_0 : π8 (q + 1) = PS.am Q (PS.mul (D.thn.dv (hY M t)) (hB R M t)) (fi 1) 0 := (hc8.2.1 (q + 1) (by first | omega | (dsimp only; omega))).trans he7_0
          have v8_1 : π8 (q + 3) = D.thn := (hc8.2.1 (q + 3) (by first | omega | (dsimp only; omega))).trans he7_1
          have v8_2 : π8 (r + 1) = hR2 W R M t := (hc8.2.1 (r + 1) (by first | omega | (dsimp only; omega))).trans he7_2
          have v8_3 : π8 (r + 3) = PS.mul (hU M t) (hY M t) := (hc8.2.1 (r + 3) (by first | omega | (dsimp only; omega))).trans he7_3
          have v8_4 : π8 w = W := (hc8.2.1 w (by first | omega | (dsimp only; omega))).trans he7_4
          rw [he7_3] at ht1 ht2 htl hfa
          subst hz0
          have htn := her_le hH2 ht2
          refine v_istore hx DX9_run_80 [(5, iv (t1 : Int)), (6, iv k), (0, .ref σ), (1, .ref f), (2, .ref w), (3, .ref q), (4, .ref r)] rfl (by decide) ?_
          refine v_iinc hx DX9_run_82 1 rfl [(6, iv (k + 1)), (5, iv (t1 : Int)), (0, .ref σ), (1, .ref f), (2, .ref w), (3, .ref q), (4, .ref r)] rfl (by decide) ?_
          refine v_goto hx DX9_run_85 ?_
          exact v_sub [0, 1, 2, 3, 4, 5, 6] _ rfl (ih (k + 1) t1 (t - 1) (PS.am Q (PS.mul (D.thn.dv (hY M t)) (hB R M t)) (fi 1) 0) (hR2 W R M t) (PS.mul (hU M t) (hY M t)) μ8 π8 (by omega) hch8 v8_4 v8_0 v8_1 v8_2 v8_3 (by omega) hH2 ⟨ht1, ht2⟩ (fun h => hfa h))
  refine v_aload hx DX9_run_0 3 rfl ?_
  refine v_push hx DX9_run_1 ?_
  refine v_cVv hx DX9_run_2 CVRX9_66 [iv 0] (q_fset l G Λ sz μ hA hFq (by omega)) hFq.1 rfl rfl (Nat.le_of_ble_eq_true rfl) (by decide) ⟨Nat.le_refl _, Nat.le_refl _⟩ (fun μ9 hμ9 => ?_)
  obtain ⟨π9, hc9, he9_0, he9_1⟩ := hμ9
  have hA9 := hc9.1
  have hch9 := hch0.trans (hc9.mono (fun c hc => by first | omega | (dsimp only at hc ⊢; omega)))
  have v9_0 : π9 w = W := (hc9.2.1 w (by first | omega | (dsimp only; omega))).trans hw
  have v9_1 : π9 (f + 1) = N := (hc9.2.1 (f + 1) (by first | omega | (dsimp only; omega))).trans hf1
  have v9_2 : π9 (f + 3) = D := (hc9.2.1 (f + 3) (by first | omega | (dsimp only; omega))).trans hf3
  have g9_0 : π9 (q + 1) = PS.zero := he9_0.trans PS.C0
  refine v_aload hx DX9_run_5 4 rfl ?_
  refine v_aload hx DX9_run_7 1 rfl ?_
  refine v_cVv hx DX9_run_8 CVRX9_72 [.ref f] (q_fbecome l G Λ sz μ9 hA9 hFr hFf (by omega)) hFr.1 rfl rfl (Nat.le_of_ble_eq_true rfl) (by decide) ⟨Nat.le_refl _, Nat.le_refl _⟩ (fun μ10 hμ10 => ?_)
  obtain ⟨π10, hc10, he10_0, he10_1⟩ := hμ10
  have hA10 := hc10.1
  have hch10 := hch9.trans (hc10.mono (fun c hc => by first | omega | (dsimp only at hc ⊢; omega)))
  have v10_0 : π10 w = W := (hc10.2.1 w (by first | omega | (dsimp only; omega))).trans v9_0
  have v10_1 : π10 (f + 1) = N := (hc10.2.1 (f + 1) (by first | omega | (dsimp only; omega))).trans v9_1
  have v10_2 : π10 (f + 3) = D := (hc10.2.1 (f + 3) (by first | omega | (dsimp only; omega))).trans v9_2
  have v10_3 : π10 (q + 1) = PS.zero := (hc10.2.1 (q + 1) (by first | omega | (dsimp only; omega))).trans g9_0
  have v10_4 : π10 (q + 3) = PS.one := (hc10.2.1 (q + 3) (by first | omega | (dsimp only; omega))).trans he9_1
  have g10_0 : π10 (r + 1) = N := he10_0.trans v9_1
  have g10_1 : π10 (r + 3) = D := he10_1.trans v9_2
  refine v_aload hx DX9_run_11 1 rfl ?_
  refine v_get hx DX9_run_12 FLRX9_75 hFf.1 (v := .ref (f + 1)) rfl ?_
  refine v_get hx DX9_run_15 FLRX9_78 hFf.2.1.1 (fv_i rfl ((AB.get hA10 hFf.2.1 v10_1).2) : _ = iv ((N.size : Int) - 1)) ?_
  refine v_if_ge hx DX9_run_18 (by omega) (fun c18 => ?_) (fun c18 => ?_)
  · skip
    refine v_aload hx DX9_run_22 0 rfl ?_
    refine v_aload hx DX9_run_23 1 rfl ?_
    refine v_get hx DX9_run_24 FLRX9_82 hFf.1 (v := .ref (f + 3)) rfl ?_
    refine v_aload hx DX9_run_27 3 rfl ?_
    refine v_get hx DX9_run_28 FLRX9_82 hFq.1 (v := .ref (q + 3)) rfl ?_
    refine v_cVv hx DX9_run_31 CVRX9_47 [.ref (f + 3), .ref (q + 3)] (q_thin l G Λ sz μ10 hA10 hI hK hS (by omega) hFf.2.2 hFq.2.2 (by omega) (by omega)) hS.1 rfl rfl (Nat.le_of_ble_eq_true rfl) (by decide) ⟨Nat.le_refl _, Nat.le_refl _⟩ (fun μ11 hμ11 => ?_)
    obtain ⟨π11, hc11, he11_0⟩ := hμ11
    have hA11 := hc11.1
    have hch11 := hch10.trans (hc11.mono (fun c hc => by first | omega | (dsimp only at hc ⊢; omega)))
    have v11_0 : π11 w = W := (hc11.2.1 w (by first | omega | (dsimp only; omega))).trans v10_0
    have v11_1 : π11 (f + 1) = N := (hc11.2.1 (f + 1) (by first | omega | (dsimp only; omega))).trans v10_1
    have v11_2 : π11 (f + 3) = D := (hc11.2.1 (f + 3) (by first | omega | (dsimp only; omega))).trans v10_2
    have v11_3 : π11 (q + 1) = PS.zero := (hc11.2.1 (q + 1) (by first | omega | (dsimp only; omega))).trans v10_3
    have v11_5 : π11 (r + 1) = N := (hc11.2.1 (r + 1) (by first | omega | (dsimp only; omega))).trans g10_0
    have v11_6 : π11 (r + 3) = D := (hc11.2.1 (r + 3) (by first | omega | (dsimp only; omega))).trans g10_1
    have g11_0 : π11 (q + 3) = PS.thn D := he11_0.trans (by rw [v10_2])
    refine v_aload hx DX9_run_34 0 rfl ?_
    refine v_aload hx DX9_run_35 4 rfl ?_
    refine v_get hx DX9_run_37 FLRX9_82 hFr.1 (v := .ref (r + 3)) rfl ?_
    refine v_cVi hx DX9_run_40 CVRX9_85 [.ref (r + 3)] (q_highest l G Λ sz μ11 hA11 hI hK hS (by omega) hFr.2.2 (by omega) (by rw [v11_6]; exact hD0)) hS.1 rfl rfl (Nat.le_of_ble_eq_true rfl) (by decide) ⟨Nat.le_refl _, Nat.le_refl _⟩ (fun z12 μ12 hμ12 => ?_)
    obtain ⟨π12, hc12, t0, hz0, ht48, ht1, ht2, htl, hfa⟩ := hμ12
    have hA12 := hc12.1
    have hch12 := hch11.trans (hc12.mono (fun c hc => by first | omega | (dsimp only at hc ⊢; omega)))
    have v12_0 : π12 w = W := (hc12.2.1 w (by first | omega | (dsimp only; omega))).trans v11_0
    have v12_1 : π12 (f + 1) = N := (hc12.2.1 (f + 1) (by first | omega | (dsimp only; omega))).trans v11_1
    have v12_2 : π12 (f + 3) = D := (hc12.2.1 (f + 3) (by first | omega | (dsimp only; omega))).trans v11_2
    have v12_3 : π12 (q + 1) = PS.zero := (hc12.2.1 (q + 1) (by first | omega | (dsimp only; omega))).trans v11_3
    have v12_4 : π12 (r + 1) = N := (hc12.2.1 (r + 1) (by first | omega | (dsimp only; omega))).trans v11_5
    have v12_5 : π12 (r + 3) = D := (hc12.2.1 (r + 3) (by first | omega | (dsimp only; omega))).trans v11_6
    have v12_6 : π12 (q + 3) = PS.thn D := (hc12.2.1 (q + 3) (by first | omega | (dsimp only; omega))).trans g11_0
    rw [v11_6] at ht1 ht2 htl hfa
    subst hz0
    have ht0n := her_top lD hD0 (by have hz2 := hz; unfold Hid at hz2; omega) ht2
    refine v_istore hx DX9_run_43 [(5, iv (t0 : Int)), (0, .ref σ), (1, .ref f), (2, .ref w), (3, .ref q), (4, .ref r)] rfl (by decide) ?_
    refine v_push hx DX9_run_45 ?_
    refine v_istore hx DX9_run_46 [(6, iv 0), (5, iv (t0 : Int)), (0, .ref σ), (1, .ref f), (2, .ref w), (3, .ref q), (4, .ref r)] rfl (by decide) ?_
    exact v_sub [0, 1, 2, 3, 4, 5, 6] _ rfl (L48 100 0 t0 48 PS.zero N D μ12 π12 (by omega) hch12 v12_0 v12_3 v12_6 v12_4 v12_5 (by omega) hstart ⟨ht1, ht2⟩ (fun h => hfa h))
  · skip
    have hNz : N = PS.zero := (PS.size_eq_zero lN0).mp (by omega)
    have hsp := spl_zero lD hD0 (by have hz2 := hz; unfold Hid at hz2; omega) lW hNz
    have hD1 := hN0 hNz
    exact v_rv hx hBD DX9_run_21 (⟨π10, hch10, by rw [hsp.1, v10_3]; unfold rdN; rw [if_pos rfl], by rw [hsp.1, v10_4]; unfold rdD; rw [if_pos rfl], by rw [hsp.2, g10_0, hNz]; unfold rdN; rw [if_pos rfl], by rw [hsp.2, g10_1, hD1]; unfold rdD; rw [if_pos rfl]⟩)
