theorem r_laysResidues (l : Launch) (G : Gl) (Λ : Lay) (sz : Nat) (μ : Mem) {ν : Nat} {ρ : Nat → PS} {X : FP2} (hR : refK Λ ν) (hw : RW μ ν ρ) (hX : RFI ρ 24 X) (hP : RDP X.1 X.2) (hz : X.1.size ≤ 40 ∧ X.2.size ≤ 40) : Sp l G yX12_laysResidues cX12_laysResidues 7 none 4 [.ref ν] Λ sz μ (pV (fun μ' => ∃ σ, RW μ' ν σ ∧ σ 149 = rsP X.1 X.2 ∧ (∀ r : Nat, r < 140 → σ r = ρ r) ∧ Fr [ν + 1, ν + 2, ν + 9, ν + 10, ν + 11] μ μ')) := by
  refine Sp.intro (by decide) (Nat.le_of_ble_eq_true rfl) (fun x hx hBD => ?_)
  refine v_lv [(0, .ref ν)] rfl ?_
  have hx1 : ρ 48 = X.1 := hX.1
  have hx2 : ρ 49 = X.2 := hX.2
  have ps := PS.fpos hP.2.1 hP.2.2.1
  obtain ⟨nn, en, zs⟩ := PS.fne_isz hP.2.1 hP.2.2.1
  have en2 : nn = (X.2.size - 1) := by omega
  rw [en2] at zs
  have hmo : X.2 (X.2.size - 1) = 1 := hP.2.2.2.1
  have L179 : ∀ (nf : Nat) (k i sm : Int) (m : Mem), (k + 1 - i < (nf : Int)) → (1 ≤ k ∧ k ≤ ((X.2.size : Int) - 1)) → (1 ≤ i ∧ i ≤ k + 1) → (fi sm = pSm (rsS X.1 X.2) k.toNat (i.toNat - 1)) → (-10000 * (i - 1) ≤ sm ∧ sm ≤ 10000 * (i - 1)) → (RSm m ν (rsS X.1 X.2) (((X.2.size : Int) - 1) + 1)) → (RPt m ν (rsS X.1 X.2) k) → (∀ (sq : Int), (fi sq = pSm (rsS X.1 X.2) k.toNat k.toNat) → (-600000 ≤ sq ∧ sq ≤ 600000) → V G x (0, 0) Λ sz m 229 [(5, iv sq), (4, iv k), (0, .ref ν), (1, iv ((2 * 24 : Nat) : Int)), (2, iv ((2 * 24 + 1 : Nat) : Int)), (3, iv ((X.2.size : Int) - 1))] []) → V G x (0, 0) Λ sz m 179 [(6, iv i), (5, iv sm), (4, iv k), (0, .ref ν), (1, iv ((2 * 24 : Nat) : Int)), (2, iv ((2 * 24 + 1 : Nat) : Int)), (3, iv ((X.2.size : Int) - 1))] [] := by
    intro nf
    induction nf with
    | zero => intro k i sm m hm hk hi hsm hb hSm hPt hC; exact absurd hm (by omega)
    | succ nf ih =>
      intro k i sm m hm hk hi hsm hb hSm hPt hC
      have c1 := vrng (sg (k - i).toNat * nw (rsS X.1 X.2) (k - i).toNat)
      have c2 := vrng ((rsS X.1 X.2) i.toNat)
      have c3 := mulb (a := ((sg (k - i).toNat * nw (rsS X.1 X.2) (k - i).toNat).val : Int)) (b := (((rsS X.1 X.2) i.toNat).val : Int)) (A := 100) (B := 100) c1.1 c1.2 c2.1 c2.2
      refine v_iload hx DX12_laysResidues_179 0 rfl ?_
      refine v_iload hx DX12_laysResidues_181 2 rfl ?_
      refine v_icmp_gt hx DX12_laysResidues_183 (by omega) (by omega) (fun c183 => ?_) (fun c183 => ?_)
      · skip
        exact v_sub [1, 2, 3, 4, 5, 6] _ rfl (hC sm (by rw [hsm, show i.toNat - 1 = k.toNat by omega]) (by omega))
      · skip
        refine v_iload hx DX12_laysResidues_186 1 rfl ?_
        refine v_iload hx DX12_laysResidues_188 0 rfl ?_
        refine v_push hx DX12_laysResidues_190 ?_
        refine v_irem hx (by omega) (by decide) DX12_laysResidues_191 ?_
        refine v_push hx DX12_laysResidues_192 ?_
        refine v_icmp_ne hx DX12_laysResidues_193 (by omega) (by decide) (fun c193 => ?_) (fun c193 => ?_)
        · skip
          have par := c193
          refine v_push hx DX12_laysResidues_200 ?_
          refine v_aload hx DX12_laysResidues_201 3 rfl ?_
          refine v_get hx DX12_laysResidues_202 FLRX12_96 hR.o (v := .ref (ν + 11)) rfl ?_
          refine v_iload hx DX12_laysResidues_205 2 rfl ?_
          refine v_iload hx DX12_laysResidues_207 0 rfl ?_
          refine v_isub hx DX12_laysResidues_209 ?_
          refine v_iald hx DX12_laysResidues_210 hR.parts (by omega) (by decide) (z := ((sg (k - i).toNat * nw (rsS X.1 X.2) (k - i).toNat).val : Int)) (by have q := hPt (k - i).toNat (by omega); rwa [Int.toNat_of_nonneg (by omega)] at q) ?_
          refine v_imul hx DX12_laysResidues_211 ?_
          refine v_top (z' := -((sg (k - i).toNat * nw (rsS X.1 X.2) (k - i).toNat).val : Int)) (by omega) ?_
          refine v_aload hx DX12_laysResidues_212 3 rfl ?_
          refine v_get hx DX12_laysResidues_213 FLRX12_93 hR.o (v := .ref (ν + 10)) rfl ?_
          refine v_iload hx DX12_laysResidues_216 0 rfl ?_
          refine v_iald hx DX12_laysResidues_218 hR.sums (by omega) (by decide) (z := (((rsS X.1 X.2) i.toNat).val : Int)) (by have q := hSm i.toNat (by omega) (by omega); rwa [Int.toNat_of_nonneg (by omega)] at q) ?_
          refine v_imul hx DX12_laysResidues_219 ?_
          refine v_top (z' := -(((sg (k - i).toNat * nw (rsS X.1 X.2) (k - i).toNat).val : Int) * (((rsS X.1 X.2) i.toNat).val : Int))) (Int.neg_mul _ _) ?_
          refine v_iadd hx DX12_laysResidues_220 ?_
          have hq : fi (sm + -(((sg (k - i).toNat * nw (rsS X.1 X.2) (k - i).toNat).val : Int) * (((rsS X.1 X.2) i.toNat).val : Int))) = fi sm + (- sg i.toNat * (sg (k - i).toNat * nw (rsS X.1 X.2) (k - i).toNat)) * (rsS X.1 X.2) i.toNat := by
            rw [show -(((sg (k - i).toNat * nw (rsS X.1 X.2) (k - i).toNat).val : Int) * (((rsS X.1 X.2) i.toNat).val : Int)) = (-1) * (((sg (k - i).toNat * nw (rsS X.1 X.2) (k - i).toNat).val : Int) * (((rsS X.1 X.2) i.toNat).val : Int)) by omega, fi_add, fi_mul, fi_mul, fi_v, fi_v, show fi (-1) = -1 from by decide]
            have : sg i.toNat = 1 := by unfold sg; rw [if_pos (by omega)]
            rw [this]
            grind
          refine v_istore hx DX12_laysResidues_221 [(5, iv (sm + (-(((sg (k - i).toNat * nw (rsS X.1 X.2) (k - i).toNat).val : Int) * (((rsS X.1 X.2) i.toNat).val : Int))))), (6, iv i), (4, iv k), (0, .ref ν), (1, iv ((2 * 24 : Nat) : Int)), (2, iv ((2 * 24 + 1 : Nat) : Int)), (3, iv ((X.2.size : Int) - 1))] rfl (by decide) ?_
          refine v_iinc hx DX12_laysResidues_223 1 rfl [(6, iv (i + 1)), (5, iv (sm + (-(((sg (k - i).toNat * nw (rsS X.1 X.2) (k - i).toNat).val : Int) * (((rsS X.1 X.2) i.toNat).val : Int))))), (4, iv k), (0, .ref ν), (1, iv ((2 * 24 : Nat) : Int)), (2, iv ((2 * 24 + 1 : Nat) : Int)), (3, iv ((X.2.size : Int) - 1))] rfl (by decide) ?_
          refine v_goto hx DX12_laysResidues_226 ?_
          exact v_sub [0, 1, 2, 3, 4, 5, 6] _ rfl (ih k (i + 1) (sm + (-(((sg (k - i).toNat * nw (rsS X.1 X.2) (k - i).toNat).val : Int) * (((rsS X.1 X.2) i.toNat).val : Int)))) m (by omega) hk (by omega) (by rw [hq, hsm, show (i + 1).toNat - 1 = i.toNat - 1 + 1 by omega]; show _ = fsum _ (i.toNat - 1) + (- sg (i.toNat - 1 + 1) * (sg (k.toNat - (i.toNat - 1 + 1)) * nw (rsS X.1 X.2) (k.toNat - (i.toNat - 1 + 1)))) * (rsS X.1 X.2) (i.toNat - 1 + 1); rw [show i.toNat - 1 + 1 = i.toNat by omega, show k.toNat - i.toNat = (k - i).toNat by omega]; rfl) (by omega) hSm hPt hC)
        · skip
          refine v_push hx DX12_laysResidues_196 ?_
          refine v_goto hx DX12_laysResidues_197 ?_
          refine v_aload hx DX12_laysResidues_201 3 rfl ?_
          refine v_get hx DX12_laysResidues_202 FLRX12_96 hR.o (v := .ref (ν + 11)) rfl ?_
          refine v_iload hx DX12_laysResidues_205 2 rfl ?_
          refine v_iload hx DX12_laysResidues_207 0 rfl ?_
          refine v_isub hx DX12_laysResidues_209 ?_
          refine v_iald hx DX12_laysResidues_210 hR.parts (by omega) (by decide) (z := ((sg (k - i).toNat * nw (rsS X.1 X.2) (k - i).toNat).val : Int)) (by have q := hPt (k - i).toNat (by omega); rwa [Int.toNat_of_nonneg (by omega)] at q) ?_
          refine v_imul hx DX12_laysResidues_211 ?_
          refine v_top (z' := ((sg (k - i).toNat * nw (rsS X.1 X.2) (k - i).toNat).val : Int)) (by omega) ?_
          refine v_aload hx DX12_laysResidues_212 3 rfl ?_
          refine v_get hx DX12_laysResidues_213 FLRX12_93 hR.o (v := .ref (ν + 10)) rfl ?_
          refine v_iload hx DX12_laysResidues_216 0 rfl ?_
          refine v_iald hx DX12_laysResidues_218 hR.sums (by omega) (by decide) (z := (((rsS X.1 X.2) i.toNat).val : Int)) (by have q := hSm i.toNat (by omega) (by omega); rwa [Int.toNat_of_nonneg (by omega)] at q) ?_
          refine v_imul hx DX12_laysResidues_219 ?_
          refine v_iadd hx DX12_laysResidues_220 ?_
          have hq : fi (sm + ((sg (k - i).toNat * nw (rsS X.1 X.2) (k - i).toNat).val : Int) * (((rsS X.1 X.2) i.toNat).val : Int)) = fi sm + (- sg i.toNat * (sg (k - i).toNat * nw (rsS X.1 X.2) (k - i).toNat)) * (rsS X.1 X.2) i.toNat := by
            rw [fi_add, fi_mul, fi_v, fi_v]
            unfold sg
            rw [if_neg (show ¬ i.toNat % 2 = 0 by omega)]
            grind
          refine v_istore hx DX12_laysResidues_221 [(5, iv (sm + (((sg (k - i).toNat * nw (rsS X.1 X.2) (k - i).toNat).val : Int) * (((rsS X.1 X.2) i.toNat).val : Int)))), (6, iv i), (4, iv k), (0, .ref ν), (1, iv ((2 * 24 : Nat) : Int)), (2, iv ((2 * 24 + 1 : Nat) : Int)), (3, iv ((X.2.size : Int) - 1))] rfl (by decide) ?_
          refine v_iinc hx DX12_laysResidues_223 1 rfl [(6, iv (i + 1)), (5, iv (sm + (((sg (k - i).toNat * nw (rsS X.1 X.2) (k - i).toNat).val : Int) * (((rsS X.1 X.2) i.toNat).val : Int)))), (4, iv k), (0, .ref ν), (1, iv ((2 * 24 : Nat) : Int)), (2, iv ((2 * 24 + 1 : Nat) : Int)), (3, iv ((X.2.size : Int) - 1))] rfl (by decide) ?_
          refine v_goto hx DX12_laysResidues_226 ?_
          exact v_sub [0, 1, 2, 3, 4, 5, 6] _ rfl (ih k (i + 1) (sm + (((sg (k - i).toNat * nw (rsS X.1 X.2) (k - i).toNat).val : Int) * (((rsS X.1 X.2) i.toNat).val : Int))) m (by omega) hk (by omega) (by rw [hq, hsm, show (i + 1).toNat - 1 = i.toNat - 1 + 1 by omega]; show _ = fsum _ (i.toNat - 1) + (- sg (i.toNat - 1 + 1) * (sg (k.toNat - (i.toNat - 1 + 1)) * nw (rsS X.1 X.2) (k.toNat - (i.toNat - 1 + 1)))) * (rsS X.1 X.2) (i.toNat - 1 + 1); rw [show i.toNat - 1 + 1 = i.toNat by omega, show k.toNat - i.toNat = (k - i).toNat by omega]; rfl) (by omega) hSm hPt hC)
  have L167 : ∀ (nf : Nat) (k : Int) (m : Mem) (σ : Nat → PS), (((X.2.size : Int) - 1) + 1 - k < (nf : Int)) → (1 ≤ k ∧ k ≤ ((X.2.size : Int) - 1) + 1) → (1 ≤ ((X.2.size : Int) - 1)) → (RW m ν σ) → (σ 149 = rsK (rsS X.1 X.2) (X.2.size - 1) k.toNat) → (∀ r : Nat, r < 140 → σ r = ρ r) → (RSm m ν (rsS X.1 X.2) (((X.2.size : Int) - 1) + 1)) → (RPt m ν (rsS X.1 X.2) k) → (Fr [ν + 1, ν + 2, ν + 9, ν + 10, ν + 11] μ m) → V G x (0, 0) Λ sz m 167 [(4, iv k), (0, .ref ν), (1, iv ((2 * 24 : Nat) : Int)), (2, iv ((2 * 24 + 1 : Nat) : Int)), (3, iv ((X.2.size : Int) - 1))] [] := by
    intro nf
    induction nf with
    | zero => intro k m σ hm hk hn1 h1 e9 hk3 hSm hPt hf; exact absurd hm (by omega)
    | succ nf ih =>
      intro k m σ hm hk hn1 h1 e9 hk3 hSm hPt hf
      refine v_iload hx DX12_laysResidues_167 0 rfl ?_
      refine v_iload hx DX12_laysResidues_169 4 rfl ?_
      refine v_icmp_gt hx DX12_laysResidues_170 (by omega) (by omega) (fun c170 => ?_) (fun c170 => ?_)
      · skip
        exact v_rv hx hBD DX12_laysResidues_297 (⟨σ, h1, by rw [e9]; unfold rsP; rw [show k.toNat = (X.2.size - 1) + 1 by omega], hk3, hf⟩)
      · skip
        refine v_push hx DX12_laysResidues_173 ?_
        refine v_istore hx DX12_laysResidues_174 [(5, iv 0), (4, iv k), (0, .ref ν), (1, iv ((2 * 24 : Nat) : Int)), (2, iv ((2 * 24 + 1 : Nat) : Int)), (3, iv ((X.2.size : Int) - 1))] rfl (by decide) ?_
        refine v_push hx DX12_laysResidues_176 ?_
        refine v_istore hx DX12_laysResidues_177 [(6, iv 1), (5, iv 0), (4, iv k), (0, .ref ν), (1, iv ((2 * 24 : Nat) : Int)), (2, iv ((2 * 24 + 1 : Nat) : Int)), (3, iv ((X.2.size : Int) - 1))] rfl (by decide) ?_
        refine v_sub [0, 1, 2, 3, 4, 5, 6] _ rfl (L179 100 k 1 0 m (by omega) (by omega) (by omega) (show fi 0 = (0 : F) by decide) (by omega) hSm hPt (fun sq eT hb2 => ?_))
        refine v_aload hx DX12_laysResidues_229 2 rfl ?_
        refine v_get hx DX12_laysResidues_230 FLRX12_96 hR.o (v := .ref (ν + 11)) rfl ?_
        refine v_iload hx DX12_laysResidues_233 1 rfl ?_
        refine v_iload hx DX12_laysResidues_235 0 rfl ?_
        refine v_cSp hx DX12_laysResidues_237 CSRX12_11 [iv sq] (r_mod l G Λ sz m (by omega)) rfl rfl (Nat.le_of_ble_eq_true rfl) (by decide) ⟨Nat.le_refl _, Nat.le_refl _⟩ ?_
        refine v_iload hx DX12_laysResidues_240 1 rfl ?_
        refine v_cSp hx DX12_laysResidues_242 CSRX12_24 [iv k] (r_over l G Λ sz m (by omega)) rfl rfl (Nat.le_of_ble_eq_true rfl) (by decide) ⟨Nat.le_refl _, Nat.le_refl _⟩ ?_
        have vi := ivI_rng k
        have mb := mulb (a := sq % 101) (b := ivI k) (A := 100) (B := 100) (by omega) (by omega) vi.1 vi.2
        refine v_imul hx DX12_laysResidues_245 ?_
        refine v_push hx DX12_laysResidues_246 ?_
        refine v_irem hx (by omega) (by decide) DX12_laysResidues_248 ?_
        refine v_iastm hx DX12_laysResidues_249 hR.parts (by omega) (by decide) (fun μ5 eμ5 => ?_)
        have hv : sq % 101 * ivI k % 101 = ((sg k.toNat * nw (rsS X.1 X.2) k.toNat).val : Int) := val_of (by rw [fi_mul, fi_mod, eT, fi_ivI, show k = (k.toNat : Int) by omega, Int.toNat_natCast]; exact pSm_end (rsS X.1 X.2) (by omega))
        have vr := vrng (sg k.toNat * nw (rsS X.1 X.2) k.toNat)
        refine v_aload hx DX12_laysResidues_250 2 rfl ?_
        refine v_get hx DX12_laysResidues_251 FLRX12_3 hR.o (v := .ref (ν + 1)) rfl ?_
        refine v_push hx DX12_laysResidues_254 ?_
        refine v_iload hx DX12_laysResidues_257 5 rfl ?_
        refine v_iadd hx DX12_laysResidues_258 ?_
        refine v_iload hx DX12_laysResidues_259 1 rfl ?_
        refine v_isub hx DX12_laysResidues_261 ?_
        refine v_iload hx DX12_laysResidues_262 1 rfl ?_
        refine v_push hx DX12_laysResidues_264 ?_
        refine v_irem hx (by omega) (by decide) DX12_laysResidues_265 ?_
        refine v_if_ne hx DX12_laysResidues_266 (by omega) (fun c266 => ?_) (fun c266 => ?_)
        · skip
          refine v_aload hx DX12_laysResidues_279 2 rfl ?_
          refine v_get hx DX12_laysResidues_280 FLRX12_96 hR.o (v := .ref (ν + 11)) rfl ?_
          refine v_iload hx DX12_laysResidues_283 1 rfl ?_
          refine v_iald hx DX12_laysResidues_285 hR.parts (by omega) (by decide) (z := ((sg k.toNat * nw (rsS X.1 X.2) k.toNat).val : Int)) (by rw [eμ5, mI_at, if_pos rfl]; exact hv) ?_
          refine v_ineg hx DX12_laysResidues_286 ?_
          refine v_cSp hx DX12_laysResidues_287 CSRX12_11 [iv (-((sg k.toNat * nw (rsS X.1 X.2) k.toNat).val : Int))] (r_mod l G Λ sz μ5 (by omega)) rfl rfl (Nat.le_of_ble_eq_true rfl) (by decide) ⟨Nat.le_refl _, Nat.le_refl _⟩ ?_
          have hnw : (-((sg k.toNat * nw (rsS X.1 X.2) k.toNat).val : Int)) % 101 = ((nw (rsS X.1 X.2) k.toNat).val : Int) := val_of (by rw [show (-((sg k.toNat * nw (rsS X.1 X.2) k.toNat).val : Int)) = (-1) * ((sg k.toNat * nw (rsS X.1 X.2) k.toNat).val : Int) by omega, fi_mul, fi_v, show fi (-1) = -1 from by decide]; have q := nw_sg (rsS X.1 X.2) k.toNat; have e : sg k.toNat = -1 := (by unfold sg; rw [if_neg (by omega)]); rw [e] at q ⊢; exact q.symm)
          refine v_iastm hx DX12_laysResidues_290 hR.p (by omega) (by decide) (fun μ8 eμ8 => ?_)
          obtain ⟨σ3, w3, x3, k3⟩ : ∃ τ, RW μ8 ν τ ∧ τ 149 = rsK (rsS X.1 X.2) (X.2.size - 1) (k + 1).toNat ∧ (∀ r, r ≠ 149 → τ r = σ r) := ⟨_, by rw [eμ8, show 14304 + ((X.2.size : Int) - 1) - k = 96 * ((149 : Nat) : Int) + (((X.2.size : Int) - 1) - k) by omega]; exact (h1.fr (by rw [eμ5, mI_ne (by omega)])).put1 (c := nw (rsS X.1 X.2) k.toNat) (by omega) (by omega) hnw (by decide), by rw [up_at, e9, show (((X.2.size : Int) - 1) - k).toNat = (X.2.size - 1) - k.toNat by omega, show (k + 1).toNat = k.toNat + 1 by omega]; exact rsK_set _ (by omega), fun r h => up_ne h⟩
          refine v_iinc hx DX12_laysResidues_291 1 rfl [(4, iv (k + 1)), (5, iv sq), (0, .ref ν), (1, iv ((2 * 24 : Nat) : Int)), (2, iv ((2 * 24 + 1 : Nat) : Int)), (3, iv ((X.2.size : Int) - 1))] rfl (by decide) ?_
          refine v_goto hx DX12_laysResidues_294 ?_
          exact v_sub [0, 2, 3, 4, 5] _ rfl (ih (k + 1) μ8 σ3 (by omega) (by omega) hn1 w3 x3 (fun r hr => (k3 r (by omega)).trans (hk3 r hr)) (fun j h0 h1 => by rw [eμ8, mI_ne (by omega), eμ5, mI_ne (by omega)]; exact hSm j h0 h1) (fun j hj => by rw [eμ8, mI_ne (by omega), eμ5, mI_at]; exact (Classical.em ((j : Int) = k)).elim (fun q => by rw [if_pos q, show j = k.toNat by omega]; exact hv) (fun q => by rw [if_neg q]; exact hPt j (by omega))) ((hf.trans (by rw [eμ8, eμ5]; exact (Fr.mI (by simp)).trans (Fr.mI (by simp))))))
        · skip
          refine v_aload hx DX12_laysResidues_269 2 rfl ?_
          refine v_get hx DX12_laysResidues_270 FLRX12_96 hR.o (v := .ref (ν + 11)) rfl ?_
          refine v_iload hx DX12_laysResidues_273 1 rfl ?_
          refine v_iald hx DX12_laysResidues_275 hR.parts (by omega) (by decide) (z := ((sg k.toNat * nw (rsS X.1 X.2) k.toNat).val : Int)) (by rw [eμ5, mI_at, if_pos rfl]; exact hv) ?_
          refine v_goto hx DX12_laysResidues_276 ?_
          refine v_cSp hx DX12_laysResidues_287 CSRX12_11 [iv ((sg k.toNat * nw (rsS X.1 X.2) k.toNat).val : Int)] (r_mod l G Λ sz μ5 (by omega)) rfl rfl (Nat.le_of_ble_eq_true rfl) (by decide) ⟨Nat.le_refl _, Nat.le_refl _⟩ ?_
          have hnw : (((sg k.toNat * nw (rsS X.1 X.2) k.toNat).val : Int)) % 101 = ((nw (rsS X.1 X.2) k.toNat).val : Int) := val_of (by rw [fi_v]; have e : sg k.toNat = 1 := (by unfold sg; rw [if_pos (by omega)]); rw [e]; grind)
          refine v_iastm hx DX12_laysResidues_290 hR.p (by omega) (by decide) (fun μ11 eμ11 => ?_)
          obtain ⟨σ3, w3, x3, k3⟩ : ∃ τ, RW μ11 ν τ ∧ τ 149 = rsK (rsS X.1 X.2) (X.2.size - 1) (k + 1).toNat ∧ (∀ r, r ≠ 149 → τ r = σ r) := ⟨_, by rw [eμ11, show 14304 + ((X.2.size : Int) - 1) - k = 96 * ((149 : Nat) : Int) + (((X.2.size : Int) - 1) - k) by omega]; exact (h1.fr (by rw [eμ5, mI_ne (by omega)])).put1 (c := nw (rsS X.1 X.2) k.toNat) (by omega) (by omega) hnw (by decide), by rw [up_at, e9, show (((X.2.size : Int) - 1) - k).toNat = (X.2.size - 1) - k.toNat by omega, show (k + 1).toNat = k.toNat + 1 by omega]; exact rsK_set _ (by omega), fun r h => up_ne h⟩
          refine v_iinc hx DX12_laysResidues_291 1 rfl [(4, iv (k + 1)), (5, iv sq), (0, .ref ν), (1, iv ((2 * 24 : Nat) : Int)), (2, iv ((2 * 24 + 1 : Nat) : Int)), (3, iv ((X.2.size : Int) - 1))] rfl (by decide) ?_
          refine v_goto hx DX12_laysResidues_294 ?_
          exact v_sub [0, 2, 3, 4, 5] _ rfl (ih (k + 1) μ11 σ3 (by omega) (by omega) hn1 w3 x3 (fun r hr => (k3 r (by omega)).trans (hk3 r hr)) (fun j h0 h1 => by rw [eμ11, mI_ne (by omega), eμ5, mI_ne (by omega)]; exact hSm j h0 h1) (fun j hj => by rw [eμ11, mI_ne (by omega), eμ5, mI_at]; exact (Classical.em ((j : Int) = k)).elim (fun q => by rw [if_pos q, show j = k.toNat by omega]; exact hv) (fun q => by rw [if_neg q]; exact hPt j (by omega))) ((hf.trans (by rw [eμ11, eμ5]; exact (Fr.mI (by simp)).trans (Fr.mI (by simp))))))
  have L106 : ∀ (nf : Nat) (k : Int) (m : Mem) (σ : Nat → PS), (((X.2.size : Int) - 1) + 1 - k < (nf : Int)) → (1 ≤ k ∧ k ≤ ((X.2.size : Int) - 1) + 1) → (1 ≤ ((X.2.size : Int) - 1)) → (RW m ν σ) → (σ 149 = PS.mo (X.2.size - 1)) → (σ 150 = rtP X.1 X.2) → (σ 143 = pkP X.1 X.2 (k.toNat - 1)) → (∀ r : Nat, r < 140 → σ r = ρ r) → (RO m ν X.2 (X.2.size - 1)) → (RSm m ν (rsS X.1 X.2) k) → (Fr [ν + 1, ν + 2, ν + 9, ν + 10, ν + 11] μ m) → V G x (0, 0) Λ sz m 106 [(4, iv k), (0, .ref ν), (1, iv ((2 * 24 : Nat) : Int)), (2, iv ((2 * 24 + 1 : Nat) : Int)), (3, iv ((X.2.size : Int) - 1))] [] := by
    intro nf
    induction nf with
    | zero => intro k m σ hm hk hn1 h1 e9 e0 e3 hk3 hO hSm hf; exact absurd hm (by omega)
    | succ nf ih =>
      intro k m σ hm hk hn1 h1 e9 e0 e3 hk3 hO hSm hf
      have s49 : σ 49 = X.2 := (hk3 49 (by omega)).trans hx2
      refine v_iload hx DX12_laysResidues_106 0 rfl ?_
      refine v_iload hx DX12_laysResidues_108 4 rfl ?_
      refine v_icmp_gt hx DX12_laysResidues_109 (by omega) (by omega) (fun c109 => ?_) (fun c109 => ?_)
      · skip
        refine v_aload hx DX12_laysResidues_157 1 rfl ?_
        refine v_get hx DX12_laysResidues_158 FLRX12_96 hR.o (v := .ref (ν + 11)) rfl ?_
        refine v_push hx DX12_laysResidues_161 ?_
        refine v_push hx DX12_laysResidues_162 ?_
        refine v_iastm hx DX12_laysResidues_163 hR.parts (by omega) (by decide) (fun μ12 eμ12 => ?_)
        refine v_push hx DX12_laysResidues_164 ?_
        refine v_istore hx DX12_laysResidues_165 [(4, iv 1), (0, .ref ν), (1, iv ((2 * 24 : Nat) : Int)), (2, iv ((2 * 24 + 1 : Nat) : Int)), (3, iv ((X.2.size : Int) - 1))] rfl (by decide) ?_
        exact v_sub [0, 1, 2, 3, 4] _ rfl (L167 100 1 μ12 σ (by omega) (by omega) hn1 (h1.fr (by rw [eμ12, mI_ne (by omega)])) (e9.trans (rsK_one _ _).symm) hk3 (fun j h0 h1 => by rw [eμ12, mI_ne (by omega)]; exact hSm j h0 (by omega)) (fun j hj => by rw [eμ12, mI_at, if_pos (by omega), show j = 0 by omega]; rfl) (hf.trans (by rw [eμ12]; exact Fr.mI (by simp))))
      · skip
        have rl := rt_lt zs hP.1 hP.2.2.1
        have pl := pkP_lt zs hP.1 hP.2.2.1 (by omega) (k.toNat - 1)
        have pkl := pkP_lt zs hP.1 hP.2.2.1 (by omega) k.toNat
        refine v_aload hx DX12_laysResidues_112 1 rfl ?_
        refine v_push hx DX12_laysResidues_113 ?_
        refine v_push hx DX12_laysResidues_116 ?_
        refine v_push hx DX12_laysResidues_119 ?_
        refine v_cVv hx DX12_laysResidues_122 CVRX12_50 [iv 143, iv 143, iv 150] (r_times (s := 143) (a := 143) (b := 150) l G Λ sz m hR h1 (by decide) (by decide) (by decide)) hR.o rfl rfl (Nat.le_of_ble_eq_true rfl) (by decide) ⟨Nat.le_refl _, Nat.le_refl _⟩ (fun μ13 hμ13 => ?_)
        obtain ⟨σ1, w1, a1, k1⟩ := RW.abs2 (B := (pkP X.1 X.2 (k.toNat - 1)).mul (rtP X.1 X.2)) hμ13.1 (by rw [e3, e0]) (PS.lt_mul' pl rl (by omega))
        have f1 := hμ13.2
        have s19 : σ1 49 = X.2 := (k1 49 (by omega)).trans s49
        refine v_aload hx DX12_laysResidues_125 1 rfl ?_
        refine v_push hx DX12_laysResidues_126 ?_
        refine v_push hx DX12_laysResidues_129 ?_
        refine v_iload hx DX12_laysResidues_132 3 rfl ?_
        refine v_cVv hx DX12_laysResidues_133 CVRX12_31 [iv 145, iv 143, iv ((2 * 24 + 1 : Nat) : Int)] (r_divides (o := 145) (s := 143) (y := 49) l G Λ sz μ13 hR w1 (by decide) (by decide) (by decide) (by decide) (by decide) (by decide) (by rw [s19]; exact hP.2.2.1)) hR.o rfl rfl (Nat.le_of_ble_eq_true rfl) (by decide) ⟨Nat.le_refl _, Nat.le_refl _⟩ (fun μ15 hμ15 => ?_)
        have h133 := hμ15
        obtain ⟨σ2, w2, a2, k2⟩ : ∃ τ, RW μ15 ν τ ∧ τ 143 = pkP X.1 X.2 k.toNat ∧ (∀ r, r ≠ 145 → r ≠ 143 → τ r = σ1 r) := ⟨_, h133.1, by rw [up_at, a1, s19]; have e : pkP X.1 X.2 (k.toNat - 1 + 1) = ((pkP X.1 X.2 (k.toNat - 1)).mul (rtP X.1 X.2)).md X.2 := rfl; rw [show k.toNat - 1 + 1 = k.toNat by omega] at e; exact e.symm, fun r g1 g2 => by rw [up_ne g2, up_ne g1]⟩
        have f2 : Fr [ν + 1, ν + 2] m μ15 := f1.trans (h133.2.mono (by simp))
        refine v_aload hx DX12_laysResidues_136 1 rfl ?_
        refine v_get hx DX12_laysResidues_137 FLRX12_93 hR.o (v := .ref (ν + 10)) rfl ?_
        refine v_iload hx DX12_laysResidues_140 0 rfl ?_
        refine v_aload hx DX12_laysResidues_142 1 rfl ?_
        refine v_push hx DX12_laysResidues_143 ?_
        refine v_iload hx DX12_laysResidues_146 4 rfl ?_
        refine v_cVp hx DX12_laysResidues_147 CVRX12_293 [iv 143, iv ((X.2.size : Int) - 1)] (r_trace (t := 143) (n := ((X.2.size : Int) - 1)) (p := X.2) l G Λ sz μ15 hR w2 (by decide) (by omega) (by rw [show (((X.2.size : Int) - 1)).toNat = (X.2.size - 1) by omega]; exact zs) (by rw [show (((X.2.size : Int) - 1)).toNat = (X.2.size - 1) by omega]; exact hmo) (by rw [a2, show (((X.2.size : Int) - 1)).toNat = (X.2.size - 1) by omega]; exact pkl) (by rw [show (((X.2.size : Int) - 1)).toNat = (X.2.size - 1) by omega]; exact fun j hj => by rw [f2.1 _ (by simp)]; exact hO j hj)) hR.o rfl rfl (Nat.le_of_ble_eq_true rfl) (by decide) ⟨Nat.le_refl _, Nat.le_refl _⟩ ?_
        rw [a2, show (((X.2.size : Int) - 1)).toNat = (X.2.size - 1) by omega, show trc X.2 (X.2.size - 1) (pkP X.1 X.2 k.toNat) = (rsS X.1 X.2) k.toNat from rfl]
        refine v_iastm hx DX12_laysResidues_150 hR.sums (by omega) (by decide) (fun μ19 eμ19 => ?_)
        refine v_iinc hx DX12_laysResidues_151 0 rfl [(4, iv (k + 1)), (0, .ref ν), (1, iv ((2 * 24 : Nat) : Int)), (2, iv ((2 * 24 + 1 : Nat) : Int)), (3, iv ((X.2.size : Int) - 1))] rfl (by decide) ?_
        refine v_goto hx DX12_laysResidues_154 ?_
        exact v_sub [0, 1, 2, 3, 4] _ rfl (ih (k + 1) μ19 σ2 (by omega) (by omega) hn1 (w2.fr (by rw [eμ19, mI_ne (by omega)])) ((k2 149 (by omega) (by omega)).trans ((k1 149 (by omega)).trans e9)) ((k2 150 (by omega) (by omega)).trans ((k1 150 (by omega)).trans e0)) (by rw [a2, show (k + 1).toNat - 1 = k.toNat by omega]) (fun r hr => (k2 r (by omega) (by omega)).trans ((k1 r (by omega)).trans (hk3 r hr))) (fun j hj => by rw [eμ19, mI_ne (by omega), f2.1 _ (by simp)]; exact hO j hj) (fun j h0 h1 => by rw [eμ19, mI_at]; exact (Classical.em ((j : Int) = k)).elim (fun q => by rw [if_pos q, show k.toNat = j by omega]) (fun q => by rw [if_neg q, f2.1 _ (by simp)]; exact hSm j h0 (by omega))) ((hf.trans (f2.mono (by simp))).trans (by rw [eμ19]; exact Fr.mI (by simp))))
  refine v_push hx DX12_laysResidues_0 ?_
  refine v_cSp hx DX12_laysResidues_2 CSRX12_38 [iv 24] (r_above (f := 24) l G Λ sz μ) rfl rfl (Nat.le_of_ble_eq_true rfl) (by decide) ⟨Nat.le_refl _, Nat.le_refl _⟩ ?_
  refine v_istore hx DX12_laysResidues_5 [(1, iv ((2 * 24 : Nat) : Int)), (0, .ref ν)] rfl (by decide) ?_
  refine v_push hx DX12_laysResidues_6 ?_
  refine v_cSp hx DX12_laysResidues_8 CSRX12_41 [iv 24] (r_below (f := 24) l G Λ sz μ) rfl rfl (Nat.le_of_ble_eq_true rfl) (by decide) ⟨Nat.le_refl _, Nat.le_refl _⟩ ?_
  refine v_istore hx DX12_laysResidues_11 [(2, iv ((2 * 24 + 1 : Nat) : Int)), (1, iv ((2 * 24 : Nat) : Int)), (0, .ref ν)] rfl (by decide) ?_
  refine v_aload hx DX12_laysResidues_12 2 rfl ?_
  refine v_iload hx DX12_laysResidues_13 0 rfl ?_
  refine v_cVp hx DX12_laysResidues_14 CVRX12_15 [iv ((2 * 24 + 1 : Nat) : Int)] (r_degree (s := 49) l G Λ sz μ hR hw (by decide)) hR.o rfl rfl (Nat.le_of_ble_eq_true rfl) (by decide) ⟨Nat.le_refl _, Nat.le_refl _⟩ ?_
  rw [hx2]
  refine v_istore hx DX12_laysResidues_17 [(3, iv ((X.2.size : Int) - 1)), (2, iv ((2 * 24 + 1 : Nat) : Int)), (1, iv ((2 * 24 : Nat) : Int)), (0, .ref ν)] rfl (by decide) ?_
  refine v_aload hx DX12_laysResidues_18 3 rfl ?_
  refine v_push hx DX12_laysResidues_19 ?_
  refine v_cVv hx DX12_laysResidues_22 CVRX12_7 [iv 149] (r_zero (s := 149) l G Λ sz μ hR hw (by decide)) hR.o rfl rfl (Nat.le_of_ble_eq_true rfl) (by decide) ⟨Nat.le_refl _, Nat.le_refl _⟩ (fun μ26 hμ26 => ?_)
  obtain ⟨σ1, w1, a1, k1⟩ := RW.abs hμ26.1
  have f1 := hμ26.2
  refine v_aload hx DX12_laysResidues_25 3 rfl ?_
  refine v_get hx DX12_laysResidues_26 FLRX12_3 hR.o (v := .ref (ν + 1)) rfl ?_
  refine v_push hx DX12_laysResidues_29 ?_
  refine v_iload hx DX12_laysResidues_32 0 rfl ?_
  refine v_iadd hx DX12_laysResidues_33 ?_
  refine v_push hx DX12_laysResidues_34 ?_
  refine v_iastm hx DX12_laysResidues_35 hR.p (by omega) (by decide) (fun μ28 eμ28 => ?_)
  obtain ⟨σ2, w2, x2, k2⟩ : ∃ τ, RW μ28 ν τ ∧ τ 149 = PS.mo (X.2.size - 1) ∧ (∀ r, r ≠ 149 → τ r = ρ r) := ⟨_, by rw [eμ28, show 14304 + ((X.2.size : Int) - 1) = 96 * ((149 : Nat) : Int) + ((X.2.size : Int) - 1) by omega]; exact w1.put1 (c := 1) (by omega) (by omega) (by decide) (by decide), by rw [up_at, a1, show (((X.2.size : Int) - 1)).toNat = (X.2.size - 1) by omega]; rfl, fun r h => by rw [up_ne h, k1 r h]⟩
  have f2 : Fr [ν + 1] μ μ28 := f1.trans (by rw [eμ28]; exact Fr.mI (by simp))
  have s2 : σ2 49 = X.2 := (k2 49 (by omega)).trans hx2
  have s1 : σ2 48 = X.1 := (k2 48 (by omega)).trans hx1
  refine v_iload hx DX12_laysResidues_36 0 rfl ?_
  refine v_if_ne hx DX12_laysResidues_37 (by omega) (fun c37 => ?_) (fun c37 => ?_)
  · skip
    refine v_aload hx DX12_laysResidues_41 3 rfl ?_
    refine v_iload hx DX12_laysResidues_42 1 rfl ?_
    refine v_iload hx DX12_laysResidues_43 0 rfl ?_
    refine v_cVv hx DX12_laysResidues_44 CVRX12_287 [iv ((2 * 24 + 1 : Nat) : Int), iv ((X.2.size : Int) - 1)] (r_laysRoots (s := 49) (n := ((X.2.size : Int) - 1)) l G Λ sz μ28 hR w2 (by decide) (by omega) (by rw [s2, show (((X.2.size : Int) - 1)).toNat = (X.2.size - 1) by omega]; exact zs) (by rw [s2, show (((X.2.size : Int) - 1)).toNat = (X.2.size - 1) by omega]; exact hmo)) hR.o rfl rfl (Nat.le_of_ble_eq_true rfl) (by decide) ⟨Nat.le_refl _, Nat.le_refl _⟩ (fun μ29 hμ29 => ?_)
    have h44 := hμ29
    rw [s2, show (((X.2.size : Int) - 1)).toNat = (X.2.size - 1) by omega] at h44
    have w3 := w2.fr (h44.2.1 (ν + 1) (by simp))
    refine v_aload hx DX12_laysResidues_47 3 rfl ?_
    refine v_push hx DX12_laysResidues_48 ?_
    refine v_iload hx DX12_laysResidues_51 1 rfl ?_
    refine v_cVv hx DX12_laysResidues_52 CVRX12_59 [iv 144, iv ((2 * 24 + 1 : Nat) : Int)] (r_derives (s := 144) (t := 49) l G Λ sz μ29 hR w3 (by decide) (by decide)) hR.o rfl rfl (Nat.le_of_ble_eq_true rfl) (by decide) ⟨Nat.le_refl _, Nat.le_refl _⟩ (fun μ31 hμ31 => ?_)
    obtain ⟨σ4, w4, a4, k4⟩ := RW.abs hμ31.1
    have f4 := hμ31.2
    have d4 : σ4 144 = X.2.der := by rw [a4, s2]
    have ds := PS.der_size hP.2.1
    have s4 : σ4 49 = X.2 := (k4 49 (by omega)).trans s2
    refine v_aload hx DX12_laysResidues_55 3 rfl ?_
    refine v_push hx DX12_laysResidues_56 ?_
    refine v_iload hx DX12_laysResidues_59 1 rfl ?_
    refine v_cVv hx DX12_laysResidues_60 CVRX12_290 [iv 144, iv ((2 * 24 + 1 : Nat) : Int)] (r_undoes (a := 144) (s := 49) l G Λ sz μ31 hR w4 (Or.inr rfl) (by decide) (by rw [s4, d4]; omega)) hR.o rfl rfl (Nat.le_of_ble_eq_true rfl) (by decide) ⟨Nat.le_refl _, Nat.le_refl _⟩ (fun μ33 hμ33 => ?_)
    obtain ⟨σ5, w5, a5, k5, f5⟩ := hμ33
    rw [d4, s4] at a5
    have fi5 : (X.2.der.inv X.2).fin := PS.inv_fin (PS.fin_der hP.2.1) hP.2.1 hP.2.2.1
    have md5 := md_dvd zs fi5
    have s48 : σ5 48 = X.1 := (k5 48 (by omega)).trans ((k4 48 (by omega)).trans s1)
    have s49 : σ5 49 = X.2 := (k5 49 (by omega)).trans s4
    refine v_aload hx DX12_laysResidues_63 3 rfl ?_
    refine v_push hx DX12_laysResidues_64 ?_
    refine v_push hx DX12_laysResidues_67 ?_
    refine v_iload hx DX12_laysResidues_70 2 rfl ?_
    refine v_cVv hx DX12_laysResidues_71 CVRX12_50 [iv 142, iv 142, iv ((2 * 24 : Nat) : Int)] (r_times (s := 142) (a := 142) (b := 48) l G Λ sz μ33 hR w5 (by decide) (by decide) (by decide)) hR.o rfl rfl (Nat.le_of_ble_eq_true rfl) (by decide) ⟨Nat.le_refl _, Nat.le_refl _⟩ (fun μ35 hμ35 => ?_)
    obtain ⟨σ6, w6, a6, k6⟩ := RW.abs2 (B := ((X.2.der.inv X.2).md X.2).mul X.1) hμ35.1 (by rw [a5, s48]) (PS.lt_mul' md5.2 (PS.flt hP.1) (by omega))
    have f6 := hμ35.2
    have s69 : σ6 49 = X.2 := (k6 49 (by omega)).trans s49
    refine v_aload hx DX12_laysResidues_74 3 rfl ?_
    refine v_push hx DX12_laysResidues_75 ?_
    refine v_push hx DX12_laysResidues_78 ?_
    refine v_iload hx DX12_laysResidues_81 1 rfl ?_
    refine v_cVv hx DX12_laysResidues_82 CVRX12_31 [iv 145, iv 142, iv ((2 * 24 + 1 : Nat) : Int)] (r_divides (o := 145) (s := 142) (y := 49) l G Λ sz μ35 hR w6 (by decide) (by decide) (by decide) (by decide) (by decide) (by decide) (by rw [s69]; exact hP.2.2.1)) hR.o rfl rfl (Nat.le_of_ble_eq_true rfl) (by decide) ⟨Nat.le_refl _, Nat.le_refl _⟩ (fun μ37 hμ37 => ?_)
    have h82 := hμ37
    obtain ⟨σ7, w7, a7, k7⟩ : ∃ τ, RW μ37 ν τ ∧ τ 142 = rtP X.1 X.2 ∧ (∀ r, r ≠ 145 → r ≠ 142 → τ r = σ6 r) := ⟨_, h82.1, by rw [up_at, a6, s69, md_mul zs fi5 hP.1, PS.mul_comm]; rfl, fun r g1 g2 => by rw [up_ne g2, up_ne g1]⟩
    refine v_aload hx DX12_laysResidues_85 3 rfl ?_
    refine v_push hx DX12_laysResidues_86 ?_
    refine v_push hx DX12_laysResidues_89 ?_
    refine v_cVv hx DX12_laysResidues_92 CVRX12_27 [iv 150, iv 142] (r_lays (s := 150) (t := 142) l G Λ sz μ37 hR w7 (by decide) (by decide)) hR.o rfl rfl (Nat.le_of_ble_eq_true rfl) (by decide) ⟨Nat.le_refl _, Nat.le_refl _⟩ (fun μ39 hμ39 => ?_)
    obtain ⟨σ8, w8, a8, k8⟩ := RW.abs hμ39.1
    have f8 := hμ39.2
    refine v_aload hx DX12_laysResidues_95 3 rfl ?_
    refine v_push hx DX12_laysResidues_96 ?_
    refine v_push hx DX12_laysResidues_99 ?_
    refine v_cVv hx DX12_laysResidues_100 CVRX12_47 [iv 143, iv 1] (r_number (s := 143) l G Λ sz μ39 hR w8 (by decide) (by decide)) hR.o rfl rfl (Nat.le_of_ble_eq_true rfl) (by decide) ⟨Nat.le_refl _, Nat.le_refl _⟩ (fun μ41 hμ41 => ?_)
    obtain ⟨σ9, w9, a9, k9⟩ := RW.abs hμ41.1
    have f9 := hμ41.2
    have kk9 : ∀ r : Nat, (r < 140 ∨ r = 149) → σ9 r = σ2 r := fun r hr => (k9 r (by omega)).trans ((k8 r (by omega)).trans ((k7 r (by omega) (by omega)).trans ((k6 r (by omega)).trans ((k5 r (by omega)).trans (k4 r (by omega))))))
    have ff9 : Fr [ν + 1, ν + 2, ν + 9, ν + 10, ν + 11] μ μ41 := ((((((f2.mono (by simp)).trans (h44.2.mono (by simp))).trans (f4.mono (by simp))).trans (f5.mono (by simp))).trans (f6.mono (by simp))).trans (h82.2.mono (by simp))).trans ((f8.trans f9).mono (by simp))
    have fo : Fr [ν + 1, ν + 2] μ29 μ41 := ((((f4.mono (by simp)).trans f5).trans f6).trans (h82.2.mono (by simp))).trans ((f8.trans f9).mono (by simp))
    refine v_push hx DX12_laysResidues_103 ?_
    refine v_istore hx DX12_laysResidues_104 [(4, iv 1), (3, iv ((X.2.size : Int) - 1)), (2, iv ((2 * 24 + 1 : Nat) : Int)), (1, iv ((2 * 24 : Nat) : Int)), (0, .ref ν)] rfl (by decide) ?_
    exact v_sub [0, 4, 3, 2, 1] _ rfl (L106 100 1 μ41 σ9 (by omega) (by omega) (by omega) w9 ((kk9 149 (by omega)).trans x2) ((k9 150 (by omega)).trans (a8.trans a7)) (a9.trans PS.C1) (fun r hr => (kk9 r (by omega)).trans (k2 r (by omega))) (fun j hj => by rw [fo.1 _ (by simp)]; exact h44.1 j hj) (fun j h0 h1 => by omega) ff9)
  · skip
    exact v_rv hx hBD DX12_laysResidues_40 (⟨σ2, w2, by rw [x2]; unfold rsP; rw [show (X.2.size - 1) = 0 by omega]; exact (rsK_one _ _).symm, fun r hr => k2 r (by omega), f2.mono (by simp)⟩)
