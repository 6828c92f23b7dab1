/-! ===== the reference: splits ===== -/
theorem mo_der (k : Nat) : (PS.mo k).der = (if (k : Int) - 1 < 0 then PS.zero else PS.zero.set ((k : Int) - 1).toNat 1).sm (fi (k : Int)) := PS.ext fun j => by
  show fi ((j : Int) + 1) * (if j + 1 = k then (1 : F) else 0) = fi (k : Int) * (if (k : Int) - 1 < 0 then PS.zero else PS.zero.set ((k : Int) - 1).toNat 1) j
  by_cases c : (k : Int) - 1 < 0
  · rw [if_pos c, if_neg (by omega)]
    show fi ((j : Int) + 1) * 0 = fi (k : Int) * 0
    grind
  · rw [if_neg c]
    show fi ((j : Int) + 1) * (if j + 1 = k then (1 : F) else 0) = fi (k : Int) * (if j = ((k : Int) - 1).toNat then (1 : F) else 0)
    by_cases d : j + 1 = k
    · rw [if_pos d, if_pos (by omega), show (k : Int) = (j : Int) + 1 by omega]
    · rw [if_neg d, if_neg (by omega)]; grind
theorem PS.add_sm (p q : PS) : p.add (q.sm (fi (-1))) = p.sub q := PS.ext fun k => by
  show p k + fi (-1) * q k = p k - q k
  rw [show fi (-1) = -1 from by decide]; grind
theorem pH_col {W D : PS} {k w d : Nat} (hW : W.lt (w + 1)) (hD : D.lt (d + 1)) (hk : k + w + d < 90) : ((((if (k : Int) - 1 < 0 then PS.zero else PS.zero.set ((k : Int) - 1).toNat 1).sm (fi (k : Int))).add ((((PS.mo k).mul W).tr 96).sm (fi 1))).mul D).tr 96 = TH W D (PS.mo k) := by
  rw [← mo_der, PS.tr_end (PS.lt_mul' (PS.mo_lt k) hW (by omega)), fi_1, PS.sm_one, PS.mul_comm (PS.mo k) W]
  exact PS.tr_end (PS.lt_mono (TH_lt hW hD (PS.mo_lt k)) (by omega))
theorem pA_col {W M S : PS} {k w d s : Nat} (hW : W.lt (w + 1)) (hM : M.lt (d + 1)) (hS : S.lt (s + 1)) (hk : k + w + d < 90) (hk2 : k + s < 90) : (((((if (k : Int) - 1 < 0 then PS.zero else PS.zero.set ((k : Int) - 1).toNat 1).sm (fi (k : Int))).add ((((PS.mo k).mul W).tr 96).sm (fi 1))).mul M).tr 96).add ((((PS.mo k).mul S).tr 96).sm (fi (-1))) = TA W M S (PS.mo k) := by
  rw [pH_col hW hM hk, PS.tr_end (PS.lt_mul' (PS.mo_lt k) hS (by omega)), PS.add_sm]
  rfl
/-- what the rows hold while the columns are made -/
def SpS (σ : Nat → PS) (N D W S : PS) (f w nh low : Nat) : Prop := σ 144 = D.thn ∧ σ 149 = D.dv D.thn ∧ σ 150 = S ∧ σ w = W ∧ σ (2 * f) = N ∧ σ (2 * f + 1) = D ∧ SysC N D W S (D.thn.size - 1) ((D.dv D.thn).size - 1) nh low (W.size - 1)
noncomputable abbrev clS (N D W S : PS) (nh low : Nat) : Nat → PS := cols W (D.dv D.thn) S D.thn D (D.thn.size - 1) ((D.dv D.thn).size - 1) nh low
def SpI (μ m : Mem) (ν : Nat) (σ0 σ : Nat → PS) (Z : Mx) (cl : Nat → PS) (n : Nat) : Prop := RW m ν σ ∧ (∀ r, r ≠ 142 → r ≠ 143 → r ≠ 145 → σ r = σ0 r) ∧ MXI m ν Z ∧ (∀ r j, r < 96 → j < n → Z r j = cl j r) ∧ m.1 ν 16 = (n : Int) ∧ FrN ν [ν + 1, ν + 2, ν + 7] [16] μ m
theorem SpI.col {μ m m1 m2 : Mem} {ν : Nat} {σ0 σ σ1 : Nat → PS} {Z : Mx} {cl : Nat → PS} {n : Nat} (h : SpI μ m ν σ0 σ Z cl n) (w1 : RW m1 ν σ1) (g1 : ∀ r, r ≠ 142 → r ≠ 143 → r ≠ 145 → σ1 r = σ0 r) (f1 : Fr [ν + 1, ν + 2] m m1) (e : σ1 142 = cl n) (hc : MXI m2 ν (setC Z n (σ1 142)) ∧ m2.1 ν 16 = (n : Int) + 1 ∧ FrN ν [ν + 7] [16] m1 m2) : SpI μ m2 ν σ0 σ1 (setC Z n (σ1 142)) cl (n + 1) := by
  refine ⟨w1.fr (hc.2.2.1 _ (by omega) (by simp)), g1, hc.1, fun r j hr hj => ?_, by rw [hc.2.1]; omega, (h.2.2.2.2.2.trans (FrN.of (f1.mono (by simp)) (by simp))).trans (hc.2.2.mono (by simp) (by simp))⟩
  unfold setC
  by_cases c : j = n
  · rw [if_pos c, c, e]
  · rw [if_neg c]; exact h.2.2.2.1 r j hr (by omega)
theorem r_splits (l : Launch) (G : Gl) (Λ : Lay) (sz : Nat) (μ : Mem) {ν : Nat} {ρ : Nat → PS} {f w : Nat} {q lf : Int} {N D W : PS} (hR : refK Λ ν) (hw : RW μ ν ρ) (hf : f < 70) (hw0 : w < 140) (hq : (0 ≤ q ∧ q < 70) ∧ (0 ≤ lf ∧ lf < 70) ∧ q ≠ lf) (eN : ρ (2 * f) = N) (eD : ρ (2 * f + 1) = D) (eW : ρ w = W) (hN : N.size ≤ 40) (hD : D ≠ PS.zero ∧ D.size ≤ 39 ∧ D.mnc) (hW : W.size ≤ 4) (hg : gdI N D W ≤ 12) (hX : ∃ X, MXI μ ν X) : Sp l G yX12_splits cX12_splits 14 none 6 [.ref ν, iv (f : Int), iv q, iv lf, iv (w : Int)] Λ sz μ (pV (fun μ' => ∃ σ, RW μ' ν σ ∧ RFI σ q (frd (spQ N D W) D.thn) ∧ RFI σ lf (frd (spR N D W) (D.dv D.thn)) ∧ (∀ r : Nat, (r < 140 ∨ r = 148) → r ≠ 2 * q.toNat → r ≠ 2 * q.toNat + 1 → r ≠ 2 * lf.toNat → r ≠ 2 * lf.toNat + 1 → σ r = ρ r) ∧ (∃ X, MXI μ' ν X) ∧ FrN ν [ν + 1, ν + 2, ν + 7, ν + 8] [16] μ μ')) := by
  refine Sp.intro (by decide) (Nat.le_of_ble_eq_true rfl) (fun x hx hBD => ?_)
  refine v_lv [(0, .ref ν), (1, iv (f : Int)), (2, iv q), (3, iv lf), (4, iv (w : Int))] rfl ?_
  have fN : N.fin := eN ▸ ⟨_, (hw (2 * f) (by omega)).1⟩
  have fD : D.fin := eD ▸ ⟨_, (hw (2 * f + 1) (by omega)).1⟩
  have fW : W.fin := eW ▸ ⟨_, (hw w (by omega)).1⟩
  obtain ⟨tE, tE0, tEd, tEs⟩ := PS.thn_spec fD hD.1 (by omega)
  obtain ⟨eDM, tM, tM0, tMs⟩ := thn_dv fD hD.1 (by omega)
  have pE := PS.fpos tE tE0
  have pM := PS.fpos tM tM0
  obtain ⟨X, hX⟩ := hX
  have L425 : ∀ (nf : Nat) (k lo hi : Int) (m : Mem) (σ0 σ : Nat → PS) (Z : Mx) (S : PS) (nh low : Nat), (10 - k < (nf : Int)) → (SpS σ0 N D W S f w nh low) → (lo = (low : Int)) → ((hi < lo ∧ nh = 0) ∨ (nh : Int) = hi - lo + 1) → ((-1000 ≤ hi ∧ hi ≤ 1000) ∧ lo ≤ 1) → (∀ r : Nat, (r < 140 ∨ r = 148) → σ0 r = ρ r) → (0 ≤ k ∧ (k ≤ ((W.size : Int) - 1) ∨ k = 0)) → (SpI μ m ν σ0 σ Z (clS N D W S nh low) ((D.thn.size - 1) + ((D.dv D.thn).size - 1) + nh + k.toNat)) → V G x (0, 0) Λ sz m 425 [(13, iv k), (0, .ref ν), (1, iv (f : Int)), (2, iv q), (3, iv lf), (4, iv (w : Int)), (5, iv ((2 * f : Nat) : Int)), (6, iv ((2 * f + 1 : Nat) : Int)), (7, iv ((D.thn.size : Int) - 1)), (8, iv (((D.dv D.thn).size : Int) - 1)), (9, iv ((W.size : Int) - 1)), (11, iv lo), (12, iv hi)] [] := by
    intro nf
    induction nf with
    | zero => intro k lo hi m σ0 σ Z S nh low hm hS hlo hhi hir hk3 hk hI; exact absurd hm (by omega)
    | succ nf ih =>
      intro k lo hi m σ0 σ Z S nh low hm hS hlo hhi hir hk3 hk hI
      obtain ⟨s1, s2, s3, s4, s5, s6, s7⟩ := hS
      have hS : SpS σ0 N D W S f w nh low := ⟨s1, s2, s3, s4, s5, s6, s7⟩
      have sf := s7.few
      have sN := s7.1
      have sD := s7.2.1
      have sW := s7.2.2.1
      have sS := s7.2.2.2.2.1
      have lW := PS.lt_mono (PS.flt sW.1) sW.2
      have lD := PS.lt_mono (PS.flt sD.1) (show D.size ≤ 39 + 1 by omega)
      have lS := PS.lt_mono (PS.flt sS.1) (show S.size ≤ 39 + 1 by omega)
      have tM := (thn_dv sD.1 sD.2.1 (by omega)).2.1
      have tE := (PS.thn_spec sD.1 sD.2.1 (by omega)).1
      have lM := PS.lt_mono (PS.flt tM) (show (D.dv D.thn).size ≤ 39 + 1 by omega)
      have lE := PS.lt_mono (PS.flt tE) (show D.thn.size ≤ 39 + 1 by omega)
      have i1 := hI.1
      have g0 := hI.2.1
      refine v_iload hx DX12_splits_425 0 rfl ?_
      refine v_iload hx DX12_splits_427 10 rfl ?_
      refine v_icmp_ge hx DX12_splits_429 (by omega) (by omega) (fun c429 => ?_) (fun c429 => ?_)
      · skip
        have hnn : (D.thn.size - 1) + ((D.dv D.thn).size - 1) + nh + k.toNat = (D.thn.size - 1) + ((D.dv D.thn).size - 1) + nh + (W.size - 1) := by omega
        have hZ : ∀ r j, r < 96 → j < (D.thn.size - 1) + ((D.dv D.thn).size - 1) + nh + (W.size - 1) → Z r j = cols W (D.dv D.thn) S D.thn D (D.thn.size - 1) ((D.dv D.thn).size - 1) nh low j r := fun r j hr hj => hI.2.2.2.1 r j hr (by omega)
        have eN2 : σ (2 * f) = N := (g0 _ (by omega) (by omega) (by omega)).trans s5
        obtain ⟨y, hy1, hy2, hQ, hRr⟩ := s7.sol hZ
        have hInd := s7.ind hZ
        rw [← eN2] at hy2 hInd
        refine v_aload hx DX12_splits_466 1 rfl ?_
        refine v_iload hx DX12_splits_467 6 rfl ?_
        refine v_cVv hx DX12_splits_469 CVRX12_268 [iv ((2 * f : Nat) : Int)] (r_solves (s := 2 * f) (n := (D.thn.size - 1) + ((D.dv D.thn).size - 1) + nh + (W.size - 1)) (Z := Z) (y := y) l G Λ sz m hR hI.1 hI.2.2.1 (by omega) (by rw [hI.2.2.2.2.1, hnn]) (by omega) hInd hy1 hy2) hR.o rfl rfl (Nat.le_of_ble_eq_true rfl) (by decide) ⟨Nat.le_refl _, Nat.le_refl _⟩ (fun μ1 hμ1 => ?_)
        have hso := hμ1
        refine v_aload hx DX12_splits_472 1 rfl ?_
        refine v_iload hx DX12_splits_473 3 rfl ?_
        refine v_iload hx DX12_splits_474 4 rfl ?_
        refine v_iload hx DX12_splits_475 11 rfl ?_
        refine v_iload hx DX12_splits_477 12 rfl ?_
        refine v_iload hx DX12_splits_479 10 rfl ?_
        refine v_cVv hx DX12_splits_481 CVRX12_271 [iv q, iv lf, iv lo, iv hi, iv ((W.size : Int) - 1)] (r_solved (y := y) (de := (D.thn.size - 1)) (dr := ((D.dv D.thn).size - 1)) (nh := nh) (low := low) (dw := (W.size - 1)) l G Λ sz μ1 hR (hI.1.fr (hso.2.2.1 _ (by omega) (by simp))) hq (by rw [g0 144 (by omega) (by omega) (by omega), s1]; omega) (by rw [g0 149 (by omega) (by omega) (by omega), s2]; omega) hlo hhi (by omega) (by omega) (fun c hc => hso.1 c (by omega)) (by omega)) hR.o rfl rfl (Nat.le_of_ble_eq_true rfl) (by decide) ⟨Nat.le_refl _, Nat.le_refl _⟩ (fun μ3 hμ3 => ?_)
        exact v_rv hx hBD DX12_splits_484 (by obtain ⟨σ9, v1, v2, v3, v4, v5⟩ := hμ3; rw [g0 144 (by omega) (by omega) (by omega), g0 149 (by omega) (by omega) (by omega), s1, s2, ← hQ, ← hRr] at *; exact ⟨σ9, v1, v2, v3, fun r h0 h1 h2 h3 h4 => (v4 r h0 h1 h2 h3 h4).trans ((g0 r (by omega) (by omega) (by omega)).trans (hk3 r h0)), hso.2.1.elim (fun X h => ⟨X, h.fr (v5.1 _ (by simp))⟩), ((hI.2.2.2.2.2.mono (by simp) (by simp)).trans (hso.2.2.mono (by simp) (by simp))).trans (FrN.of (v5.mono (by simp)) (by simp))⟩)
      · skip
        refine v_aload hx DX12_splits_432 1 rfl ?_
        refine v_push hx DX12_splits_433 ?_
        refine v_iload hx DX12_splits_436 0 rfl ?_
        refine v_cVv hx DX12_splits_438 CVRX12_262 [iv 143, iv k] (r_power (s := 143) l G Λ sz m hR i1 (by decide) (by omega)) hR.o rfl rfl (Nat.le_of_ble_eq_true rfl) (by decide) ⟨Nat.le_refl _, Nat.le_refl _⟩ (fun μ5 hμ5 => ?_)
        obtain ⟨σ1, w1, a1, k1⟩ := RW.abs hμ5.1
        have g1 : ∀ r, r ≠ 142 → r ≠ 143 → r ≠ 145 → σ1 r = σ0 r := fun r h1 h2 h3 => (k1 r h2).trans (g0 r h1 h2 h3)
        have f1 := hμ5.2
        refine v_aload hx DX12_splits_441 1 rfl ?_
        refine v_push hx DX12_splits_442 ?_
        refine v_push hx DX12_splits_445 ?_
        refine v_iload hx DX12_splits_448 7 rfl ?_
        refine v_cVv hx DX12_splits_450 CVRX12_50 [iv 142, iv 143, iv ((2 * f + 1 : Nat) : Int)] (r_times (s := 142) (a := 143) (b := 2 * f + 1) l G Λ sz μ5 hR w1 (by decide) (by omega) (by omega)) hR.o rfl rfl (Nat.le_of_ble_eq_true rfl) (by decide) ⟨Nat.le_refl _, Nat.le_refl _⟩ (fun μ7 hμ7 => ?_)
        obtain ⟨σ2, w2, a2, k2⟩ := RW.abs hμ7.1
        have g2 : ∀ r, r ≠ 142 → r ≠ 143 → r ≠ 145 → σ2 r = σ0 r := fun r h1 h2 h3 => (k2 r h1).trans (g1 r h1 h2 h3)
        have f2 := hμ7.2
        have fx : Fr [ν + 1, ν + 2] m μ7 := ((Fr.rf.trans (f1.mono (by simp))).trans (f2.mono (by simp)))
        have eC : σ2 142 = clS N D W S nh low ((D.thn.size - 1) + ((D.dv D.thn).size - 1) + nh + k.toNat) := by
          rw [a2, a1, if_neg (by omega), g1 (2 * f + 1) (by omega) (by omega) (by omega), s6]
          unfold clS cols
          rw [if_neg (by omega), if_neg (by omega), if_neg (by omega), show (D.thn.size - 1) + ((D.dv D.thn).size - 1) + nh + k.toNat - ((D.thn.size - 1) + ((D.dv D.thn).size - 1) + nh) = k.toNat by omega]
          exact PS.tr_end (PS.lt_mul' (PS.mo_lt k.toNat) lD (by omega))
        refine v_aload hx DX12_splits_453 1 rfl ?_
        refine v_push hx DX12_splits_454 ?_
        refine v_cVv hx DX12_splits_457 CVRX12_265 [iv 142] (r_column (n := (D.thn.size - 1) + ((D.dv D.thn).size - 1) + nh + k.toNat) (s := 142) l G Λ sz μ7 hR w2 (hI.2.2.1.fr (fx.1 _ (by simp))) (by omega) (by rw [fx.1 ν (by simp)]; exact hI.2.2.2.2.1) (by decide)) hR.o rfl rfl (Nat.le_of_ble_eq_true rfl) (by decide) ⟨Nat.le_refl _, Nat.le_refl _⟩ (fun μ9 hμ9 => ?_)
        have hcol := hμ9
        refine v_iinc hx DX12_splits_460 0 rfl [(13, iv (k + 1)), (0, .ref ν), (1, iv (f : Int)), (2, iv q), (3, iv lf), (4, iv (w : Int)), (5, iv ((2 * f : Nat) : Int)), (6, iv ((2 * f + 1 : Nat) : Int)), (7, iv ((D.thn.size : Int) - 1)), (8, iv (((D.dv D.thn).size : Int) - 1)), (9, iv ((W.size : Int) - 1)), (11, iv lo), (12, iv hi)] rfl (by decide) ?_
        refine v_goto hx DX12_splits_463 ?_
        exact v_sub [0, 1, 2, 3, 4, 5, 6, 7, 8, 9, 10, 11, 12] _ rfl (ih (k + 1) lo hi μ9 σ0 σ2 (setC Z ((D.thn.size - 1) + ((D.dv D.thn).size - 1) + nh + k.toNat) (σ2 142)) S nh low (by omega) hS hlo hhi hir hk3 (by omega) (by have q := hI.col w2 g2 fx eC hcol; rwa [show (D.thn.size - 1) + ((D.dv D.thn).size - 1) + nh + k.toNat + 1 = (D.thn.size - 1) + ((D.dv D.thn).size - 1) + nh + (k + 1).toNat by omega] at q))
  have L338 : ∀ (nf : Nat) (k lo hi : Int) (m : Mem) (σ0 σ : Nat → PS) (Z : Mx) (S : PS) (nh low : Nat), (2000 - k < (nf : Int)) → (SpS σ0 N D W S f w nh low) → (lo = (low : Int)) → ((hi < lo ∧ nh = 0) ∨ (nh : Int) = hi - lo + 1) → ((-1000 ≤ hi ∧ hi ≤ 1000) ∧ lo ≤ 1) → (∀ r : Nat, (r < 140 ∨ r = 148) → σ0 r = ρ r) → (lo ≤ k ∧ (k ≤ hi + 1 ∨ k = lo)) → (SpI μ m ν σ0 σ Z (clS N D W S nh low) ((D.thn.size - 1) + ((D.dv D.thn).size - 1) + (k - lo).toNat)) → V G x (0, 0) Λ sz m 338 [(13, iv k), (0, .ref ν), (1, iv (f : Int)), (2, iv q), (3, iv lf), (4, iv (w : Int)), (5, iv ((2 * f : Nat) : Int)), (6, iv ((2 * f + 1 : Nat) : Int)), (7, iv ((D.thn.size : Int) - 1)), (8, iv (((D.dv D.thn).size : Int) - 1)), (9, iv ((W.size : Int) - 1)), (11, iv lo), (12, iv hi)] [] := by
    intro nf
    induction nf with
    | zero => intro k lo hi m σ0 σ Z S nh low hm hS hlo hhi hir hk3 hk hI; exact absurd hm (by omega)
    | succ nf ih =>
      intro k lo hi m σ0 σ Z S nh low hm hS hlo hhi hir hk3 hk hI
      obtain ⟨s1, s2, s3, s4, s5, s6, s7⟩ := hS
      have hS : SpS σ0 N D W S f w nh low := ⟨s1, s2, s3, s4, s5, s6, s7⟩
      have sf := s7.few
      have sN := s7.1
      have sD := s7.2.1
      have sW := s7.2.2.1
      have sS := s7.2.2.2.2.1
      have lW := PS.lt_mono (PS.flt sW.1) sW.2
      have lD := PS.lt_mono (PS.flt sD.1) (show D.size ≤ 39 + 1 by omega)
      have lS := PS.lt_mono (PS.flt sS.1) (show S.size ≤ 39 + 1 by omega)
      have tM := (thn_dv sD.1 sD.2.1 (by omega)).2.1
      have tE := (PS.thn_spec sD.1 sD.2.1 (by omega)).1
      have lM := PS.lt_mono (PS.flt tM) (show (D.dv D.thn).size ≤ 39 + 1 by omega)
      have lE := PS.lt_mono (PS.flt tE) (show D.thn.size ≤ 39 + 1 by omega)
      have i1 := hI.1
      have g0 := hI.2.1
      refine v_iload hx DX12_splits_338 0 rfl ?_
      refine v_iload hx DX12_splits_340 12 rfl ?_
      refine v_icmp_gt hx DX12_splits_342 (by omega) (by omega) (fun c342 => ?_) (fun c342 => ?_)
      · skip
        refine v_push hx DX12_splits_422 ?_
        refine v_istore hx DX12_splits_423 [(13, iv 0), (0, .ref ν), (1, iv (f : Int)), (2, iv q), (3, iv lf), (4, iv (w : Int)), (5, iv ((2 * f : Nat) : Int)), (6, iv ((2 * f + 1 : Nat) : Int)), (7, iv ((D.thn.size : Int) - 1)), (8, iv (((D.dv D.thn).size : Int) - 1)), (9, iv ((W.size : Int) - 1)), (11, iv lo), (12, iv hi)] rfl (by decide) ?_
        exact v_sub [0, 1, 2, 3, 4, 5, 6, 7, 8, 9, 10, 11, 12] _ rfl (L425 100 0 lo hi m σ0 σ Z S nh low (by omega) hS hlo hhi hir hk3 (by omega) (by have q := hI; rwa [show (D.thn.size - 1) + ((D.dv D.thn).size - 1) + (k - lo).toNat = (D.thn.size - 1) + ((D.dv D.thn).size - 1) + nh + (0 : Int).toNat by omega] at q))
      · skip
        refine v_aload hx DX12_splits_345 1 rfl ?_
        refine v_push hx DX12_splits_346 ?_
        refine v_iload hx DX12_splits_349 0 rfl ?_
        refine v_push hx DX12_splits_351 ?_
        refine v_isub hx DX12_splits_352 ?_
        refine v_cVv hx DX12_splits_353 CVRX12_262 [iv 142, iv (k - 1)] (r_power (s := 142) l G Λ sz m hR i1 (by decide) (by omega)) hR.o rfl rfl (Nat.le_of_ble_eq_true rfl) (by decide) ⟨Nat.le_refl _, Nat.le_refl _⟩ (fun μ11 hμ11 => ?_)
        obtain ⟨σ1, w1, a1, k1⟩ := RW.abs hμ11.1
        have g1 : ∀ r, r ≠ 142 → r ≠ 143 → r ≠ 145 → σ1 r = σ0 r := fun r h1 h2 h3 => (k1 r h1).trans (g0 r h1 h2 h3)
        have f1 := hμ11.2
        refine v_aload hx DX12_splits_356 1 rfl ?_
        refine v_push hx DX12_splits_357 ?_
        refine v_iload hx DX12_splits_360 0 rfl ?_
        refine v_cVv hx DX12_splits_362 CVRX12_35 [iv 142, iv k] (r_scale (s := 142) l G Λ sz μ11 hR w1 (by decide) (by omega)) hR.o rfl rfl (Nat.le_of_ble_eq_true rfl) (by decide) ⟨Nat.le_refl _, Nat.le_refl _⟩ (fun μ13 hμ13 => ?_)
        obtain ⟨σ2, w2, a2, k2⟩ := RW.abs hμ13.1
        have g2 : ∀ r, r ≠ 142 → r ≠ 143 → r ≠ 145 → σ2 r = σ0 r := fun r h1 h2 h3 => (k2 r h1).trans (g1 r h1 h2 h3)
        have f2 := hμ13.2
        refine v_aload hx DX12_splits_365 1 rfl ?_
        refine v_push hx DX12_splits_366 ?_
        refine v_iload hx DX12_splits_369 0 rfl ?_
        refine v_cVv hx DX12_splits_371 CVRX12_262 [iv 143, iv k] (r_power (s := 143) l G Λ sz μ13 hR w2 (by decide) (by omega)) hR.o rfl rfl (Nat.le_of_ble_eq_true rfl) (by decide) ⟨Nat.le_refl _, Nat.le_refl _⟩ (fun μ15 hμ15 => ?_)
        obtain ⟨σ3, w3, a3, k3⟩ := RW.abs hμ15.1
        have g3 : ∀ r, r ≠ 142 → r ≠ 143 → r ≠ 145 → σ3 r = σ0 r := fun r h1 h2 h3 => (k3 r h2).trans (g2 r h1 h2 h3)
        have f3 := hμ15.2
        refine v_aload hx DX12_splits_374 1 rfl ?_
        refine v_push hx DX12_splits_375 ?_
        refine v_push hx DX12_splits_378 ?_
        refine v_iload hx DX12_splits_381 5 rfl ?_
        refine v_cVv hx DX12_splits_383 CVRX12_50 [iv 145, iv 143, iv (w : Int)] (r_times (s := 145) (a := 143) (b := w) l G Λ sz μ15 hR w3 (by decide) (by omega) (by omega)) hR.o rfl rfl (Nat.le_of_ble_eq_true rfl) (by decide) ⟨Nat.le_refl _, Nat.le_refl _⟩ (fun μ17 hμ17 => ?_)
        obtain ⟨σ4, w4, a4, k4⟩ := RW.abs hμ17.1
        have g4 : ∀ r, r ≠ 142 → r ≠ 143 → r ≠ 145 → σ4 r = σ0 r := fun r h1 h2 h3 => (k4 r h3).trans (g3 r h1 h2 h3)
        have f4 := hμ17.2
        refine v_aload hx DX12_splits_386 1 rfl ?_
        refine v_push hx DX12_splits_387 ?_
        refine v_push hx DX12_splits_390 ?_
        refine v_push hx DX12_splits_393 ?_
        refine v_cVv hx DX12_splits_394 CVRX12_53 [iv 142, iv 145, iv 1] (r_adds (s := 142) (t := 145) l G Λ sz μ17 hR w4 (by decide) (by decide) (by decide)) hR.o rfl rfl (Nat.le_of_ble_eq_true rfl) (by decide) ⟨Nat.le_refl _, Nat.le_refl _⟩ (fun μ19 hμ19 => ?_)
        obtain ⟨σ5, w5, a5, k5⟩ := RW.abs hμ19.1
        have g5 : ∀ r, r ≠ 142 → r ≠ 143 → r ≠ 145 → σ5 r = σ0 r := fun r h1 h2 h3 => (k5 r h1).trans (g4 r h1 h2 h3)
        have f5 := hμ19.2
        refine v_aload hx DX12_splits_397 1 rfl ?_
        refine v_push hx DX12_splits_398 ?_
        refine v_push hx DX12_splits_401 ?_
        refine v_iload hx DX12_splits_404 7 rfl ?_
        refine v_cVv hx DX12_splits_406 CVRX12_50 [iv 142, iv 142, iv ((2 * f + 1 : Nat) : Int)] (r_times (s := 142) (a := 142) (b := 2 * f + 1) l G Λ sz μ19 hR w5 (by decide) (by omega) (by omega)) hR.o rfl rfl (Nat.le_of_ble_eq_true rfl) (by decide) ⟨Nat.le_refl _, Nat.le_refl _⟩ (fun μ21 hμ21 => ?_)
        obtain ⟨σ6, w6, a6, k6⟩ := RW.abs hμ21.1
        have g6 : ∀ r, r ≠ 142 → r ≠ 143 → r ≠ 145 → σ6 r = σ0 r := fun r h1 h2 h3 => (k6 r h1).trans (g5 r h1 h2 h3)
        have f6 := hμ21.2
        have fx : Fr [ν + 1, ν + 2] m μ21 := ((((((Fr.rf.trans (f1.mono (by simp))).trans (f2.mono (by simp))).trans (f3.mono (by simp))).trans (f4.mono (by simp))).trans (f5.mono (by simp))).trans (f6.mono (by simp)))
        have m3 : σ3 143 = PS.mo k.toNat := by rw [a3, if_neg (by omega)]; rfl
        have kc : (k : Int) = (k.toNat : Int) := by omega
        have eC : σ6 142 = clS N D W S nh low ((D.thn.size - 1) + ((D.dv D.thn).size - 1) + (k - lo).toNat) := by
          rw [a6, a5, k4 142 (by omega), k3 142 (by omega), a2, a1, a4, m3, g3 w (by omega) (by omega) (by omega), s4, g5 (2 * f + 1) (by omega) (by omega) (by omega), s6]
          have pc := pH_col (W := W) (D := D) (k := k.toNat) lW lD (by omega)
          rw [← kc] at pc
          rw [pc]
          unfold clS cols
          rw [if_neg (by omega), if_neg (by omega), if_pos (by omega), show low + ((D.thn.size - 1) + ((D.dv D.thn).size - 1) + (k - lo).toNat - ((D.thn.size - 1) + ((D.dv D.thn).size - 1))) = k.toNat by omega]
        refine v_aload hx DX12_splits_409 1 rfl ?_
        refine v_push hx DX12_splits_410 ?_
        refine v_cVv hx DX12_splits_413 CVRX12_265 [iv 142] (r_column (n := (D.thn.size - 1) + ((D.dv D.thn).size - 1) + (k - lo).toNat) (s := 142) l G Λ sz μ21 hR w6 (hI.2.2.1.fr (fx.1 _ (by simp))) (by omega) (by rw [fx.1 ν (by simp)]; exact hI.2.2.2.2.1) (by decide)) hR.o rfl rfl (Nat.le_of_ble_eq_true rfl) (by decide) ⟨Nat.le_refl _, Nat.le_refl _⟩ (fun μ23 hμ23 => ?_)
        have hcol := hμ23
        refine v_iinc hx DX12_splits_416 0 rfl [(13, iv (k + 1)), (0, .ref ν), (1, iv (f : Int)), (2, iv q), (3, iv lf), (4, iv (w : Int)), (5, iv ((2 * f : Nat) : Int)), (6, iv ((2 * f + 1 : Nat) : Int)), (7, iv ((D.thn.size : Int) - 1)), (8, iv (((D.dv D.thn).size : Int) - 1)), (9, iv ((W.size : Int) - 1)), (11, iv lo), (12, iv hi)] rfl (by decide) ?_
        refine v_goto hx DX12_splits_419 ?_
        exact v_sub [0, 1, 2, 3, 4, 5, 6, 7, 8, 9, 10, 11, 12] _ rfl (ih (k + 1) lo hi μ23 σ0 σ6 (setC Z ((D.thn.size - 1) + ((D.dv D.thn).size - 1) + (k - lo).toNat) (σ6 142)) S nh low (by omega) hS hlo hhi hir hk3 (by omega) (by have q := hI.col w6 g6 fx eC hcol; rwa [show (D.thn.size - 1) + ((D.dv D.thn).size - 1) + (k - lo).toNat + 1 = (D.thn.size - 1) + ((D.dv D.thn).size - 1) + (k + 1 - lo).toNat by omega] at q))
  have L292 : ∀ (nf : Nat) (k lo hi : Int) (m : Mem) (σ0 σ : Nat → PS) (Z : Mx) (S : PS) (nh low : Nat), ((((D.dv D.thn).size : Int) - 1) - k < (nf : Int)) → (SpS σ0 N D W S f w nh low) → (lo = (low : Int)) → ((hi < lo ∧ nh = 0) ∨ (nh : Int) = hi - lo + 1) → ((-1000 ≤ hi ∧ hi ≤ 1000) ∧ lo ≤ 1) → (∀ r : Nat, (r < 140 ∨ r = 148) → σ0 r = ρ r) → (0 ≤ k ∧ k ≤ (((D.dv D.thn).size : Int) - 1)) → (SpI μ m ν σ0 σ Z (clS N D W S nh low) ((D.thn.size - 1) + k.toNat)) → V G x (0, 0) Λ sz m 292 [(13, iv k), (0, .ref ν), (1, iv (f : Int)), (2, iv q), (3, iv lf), (4, iv (w : Int)), (5, iv ((2 * f : Nat) : Int)), (6, iv ((2 * f + 1 : Nat) : Int)), (7, iv ((D.thn.size : Int) - 1)), (8, iv (((D.dv D.thn).size : Int) - 1)), (9, iv ((W.size : Int) - 1)), (11, iv lo), (12, iv hi)] [] := by
    intro nf
    induction nf with
    | zero => intro k lo hi m σ0 σ Z S nh low hm hS hlo hhi hir hk3 hk hI; exact absurd hm (by omega)
    | succ nf ih =>
      intro k lo hi m σ0 σ Z S nh low hm hS hlo hhi hir hk3 hk hI
      obtain ⟨s1, s2, s3, s4, s5, s6, s7⟩ := hS
      have hS : SpS σ0 N D W S f w nh low := ⟨s1, s2, s3, s4, s5, s6, s7⟩
      have sf := s7.few
      have sN := s7.1
      have sD := s7.2.1
      have sW := s7.2.2.1
      have sS := s7.2.2.2.2.1
      have lW := PS.lt_mono (PS.flt sW.1) sW.2
      have lD := PS.lt_mono (PS.flt sD.1) (show D.size ≤ 39 + 1 by omega)
      have lS := PS.lt_mono (PS.flt sS.1) (show S.size ≤ 39 + 1 by omega)
      have tM := (thn_dv sD.1 sD.2.1 (by omega)).2.1
      have tE := (PS.thn_spec sD.1 sD.2.1 (by omega)).1
      have lM := PS.lt_mono (PS.flt tM) (show (D.dv D.thn).size ≤ 39 + 1 by omega)
      have lE := PS.lt_mono (PS.flt tE) (show D.thn.size ≤ 39 + 1 by omega)
      have i1 := hI.1
      have g0 := hI.2.1
      refine v_iload hx DX12_splits_292 0 rfl ?_
      refine v_iload hx DX12_splits_294 9 rfl ?_
      refine v_icmp_ge hx DX12_splits_296 (by omega) (by omega) (fun c296 => ?_) (fun c296 => ?_)
      · skip
        refine v_iload hx DX12_splits_334 11 rfl ?_
        refine v_istore hx DX12_splits_336 [(13, iv lo), (0, .ref ν), (1, iv (f : Int)), (2, iv q), (3, iv lf), (4, iv (w : Int)), (5, iv ((2 * f : Nat) : Int)), (6, iv ((2 * f + 1 : Nat) : Int)), (7, iv ((D.thn.size : Int) - 1)), (8, iv (((D.dv D.thn).size : Int) - 1)), (9, iv ((W.size : Int) - 1)), (11, iv lo), (12, iv hi)] rfl (by decide) ?_
        exact v_sub [0, 1, 2, 3, 4, 5, 6, 7, 8, 9, 10, 11, 12] _ rfl (L338 4000 lo lo hi m σ0 σ Z S nh low (by omega) hS hlo hhi hir hk3 (by omega) (by have q := hI; rwa [show (D.thn.size - 1) + k.toNat = (D.thn.size - 1) + ((D.dv D.thn).size - 1) + (lo - lo).toNat by omega] at q))
      · skip
        refine v_aload hx DX12_splits_299 1 rfl ?_
        refine v_push hx DX12_splits_300 ?_
        refine v_iload hx DX12_splits_303 0 rfl ?_
        refine v_cVv hx DX12_splits_305 CVRX12_262 [iv 143, iv k] (r_power (s := 143) l G Λ sz m hR i1 (by decide) (by omega)) hR.o rfl rfl (Nat.le_of_ble_eq_true rfl) (by decide) ⟨Nat.le_refl _, Nat.le_refl _⟩ (fun μ25 hμ25 => ?_)
        obtain ⟨σ1, w1, a1, k1⟩ := RW.abs hμ25.1
        have g1 : ∀ r, r ≠ 142 → r ≠ 143 → r ≠ 145 → σ1 r = σ0 r := fun r h1 h2 h3 => (k1 r h2).trans (g0 r h1 h2 h3)
        have f1 := hμ25.2
        refine v_aload hx DX12_splits_308 1 rfl ?_
        refine v_push hx DX12_splits_309 ?_
        refine v_push hx DX12_splits_312 ?_
        refine v_push hx DX12_splits_315 ?_
        refine v_cVv hx DX12_splits_318 CVRX12_50 [iv 142, iv 143, iv 144] (r_times (s := 142) (a := 143) (b := 144) l G Λ sz μ25 hR w1 (by decide) (by omega) (by omega)) hR.o rfl rfl (Nat.le_of_ble_eq_true rfl) (by decide) ⟨Nat.le_refl _, Nat.le_refl _⟩ (fun μ27 hμ27 => ?_)
        obtain ⟨σ2, w2, a2, k2⟩ := RW.abs hμ27.1
        have g2 : ∀ r, r ≠ 142 → r ≠ 143 → r ≠ 145 → σ2 r = σ0 r := fun r h1 h2 h3 => (k2 r h1).trans (g1 r h1 h2 h3)
        have f2 := hμ27.2
        have fx : Fr [ν + 1, ν + 2] m μ27 := ((Fr.rf.trans (f1.mono (by simp))).trans (f2.mono (by simp)))
        have eC : σ2 142 = clS N D W S nh low ((D.thn.size - 1) + k.toNat) := by
          rw [a2, a1, if_neg (by omega), g1 144 (by omega) (by omega) (by omega), s1]
          unfold clS cols
          rw [if_neg (by omega), if_pos (by omega), show (D.thn.size - 1) + k.toNat - (D.thn.size - 1) = k.toNat by omega]
          exact PS.tr_end (PS.lt_mul' (PS.mo_lt k.toNat) lE (by omega))
        refine v_aload hx DX12_splits_321 1 rfl ?_
        refine v_push hx DX12_splits_322 ?_
        refine v_cVv hx DX12_splits_325 CVRX12_265 [iv 142] (r_column (n := (D.thn.size - 1) + k.toNat) (s := 142) l G Λ sz μ27 hR w2 (hI.2.2.1.fr (fx.1 _ (by simp))) (by omega) (by rw [fx.1 ν (by simp)]; exact hI.2.2.2.2.1) (by decide)) hR.o rfl rfl (Nat.le_of_ble_eq_true rfl) (by decide) ⟨Nat.le_refl _, Nat.le_refl _⟩ (fun μ29 hμ29 => ?_)
        have hcol := hμ29
        refine v_iinc hx DX12_splits_328 0 rfl [(13, iv (k + 1)), (0, .ref ν), (1, iv (f : Int)), (2, iv q), (3, iv lf), (4, iv (w : Int)), (5, iv ((2 * f : Nat) : Int)), (6, iv ((2 * f + 1 : Nat) : Int)), (7, iv ((D.thn.size : Int) - 1)), (8, iv (((D.dv D.thn).size : Int) - 1)), (9, iv ((W.size : Int) - 1)), (11, iv lo), (12, iv hi)] rfl (by decide) ?_
        refine v_goto hx DX12_splits_331 ?_
        exact v_sub [0, 1, 2, 3, 4, 5, 6, 7, 8, 9, 10, 11, 12] _ rfl (ih (k + 1) lo hi μ29 σ0 σ2 (setC Z ((D.thn.size - 1) + k.toNat) (σ2 142)) S nh low (by omega) hS hlo hhi hir hk3 (by omega) (by have q := hI.col w2 g2 fx eC hcol; rwa [show (D.thn.size - 1) + k.toNat + 1 = (D.thn.size - 1) + (k + 1).toNat by omega] at q))
  have L180 : ∀ (nf : Nat) (k lo hi : Int) (m : Mem) (σ0 σ : Nat → PS) (Z : Mx) (S : PS) (nh low : Nat), (((D.thn.size : Int) - 1) - k < (nf : Int)) → (SpS σ0 N D W S f w nh low) → (lo = (low : Int)) → ((hi < lo ∧ nh = 0) ∨ (nh : Int) = hi - lo + 1) → ((-1000 ≤ hi ∧ hi ≤ 1000) ∧ lo ≤ 1) → (∀ r : Nat, (r < 140 ∨ r = 148) → σ0 r = ρ r) → (0 ≤ k ∧ k ≤ ((D.thn.size : Int) - 1)) → (SpI μ m ν σ0 σ Z (clS N D W S nh low) (k.toNat)) → V G x (0, 0) Λ sz m 180 [(13, iv k), (0, .ref ν), (1, iv (f : Int)), (2, iv q), (3, iv lf), (4, iv (w : Int)), (5, iv ((2 * f : Nat) : Int)), (6, iv ((2 * f + 1 : Nat) : Int)), (7, iv ((D.thn.size : Int) - 1)), (8, iv (((D.dv D.thn).size : Int) - 1)), (9, iv ((W.size : Int) - 1)), (11, iv lo), (12, iv hi)] [] := by
    intro nf
    induction nf with
    | zero => intro k lo hi m σ0 σ Z S nh low hm hS hlo hhi hir hk3 hk hI; exact absurd hm (by omega)
    | succ nf ih =>
      intro k lo hi m σ0 σ Z S nh low hm hS hlo hhi hir hk3 hk hI
      obtain ⟨s1, s2, s3, s4, s5, s6, s7⟩ := hS
      have hS : SpS σ0 N D W S f w nh low := ⟨s1, s2, s3, s4, s5, s6, s7⟩
      have sf := s7.few
      have sN := s7.1
      have sD := s7.2.1
      have sW := s7.2.2.1
      have sS := s7.2.2.2.2.1
      have lW := PS.lt_mono (PS.flt sW.1) sW.2
      have lD := PS.lt_mono (PS.flt sD.1) (show D.size ≤ 39 + 1 by omega)
      have lS := PS.lt_mono (PS.flt sS.1) (show S.size ≤ 39 + 1 by omega)
      have tM := (thn_dv sD.1 sD.2.1 (by omega)).2.1
      have tE := (PS.thn_spec sD.1 sD.2.1 (by omega)).1
      have lM := PS.lt_mono (PS.flt tM) (show (D.dv D.thn).size ≤ 39 + 1 by omega)
      have lE := PS.lt_mono (PS.flt tE) (show D.thn.size ≤ 39 + 1 by omega)
      have i1 := hI.1
      have g0 := hI.2.1
      refine v_iload hx DX12_splits_180 0 rfl ?_
      refine v_iload hx DX12_splits_182 8 rfl ?_
      refine v_icmp_ge hx DX12_splits_184 (by omega) (by omega) (fun c184 => ?_) (fun c184 => ?_)
      · skip
        refine v_push hx DX12_splits_289 ?_
        refine v_istore hx DX12_splits_290 [(13, iv 0), (0, .ref ν), (1, iv (f : Int)), (2, iv q), (3, iv lf), (4, iv (w : Int)), (5, iv ((2 * f : Nat) : Int)), (6, iv ((2 * f + 1 : Nat) : Int)), (7, iv ((D.thn.size : Int) - 1)), (8, iv (((D.dv D.thn).size : Int) - 1)), (9, iv ((W.size : Int) - 1)), (11, iv lo), (12, iv hi)] rfl (by decide) ?_
        exact v_sub [0, 1, 2, 3, 4, 5, 6, 7, 8, 9, 10, 11, 12] _ rfl (L292 100 0 lo hi m σ0 σ Z S nh low (by omega) hS hlo hhi hir hk3 (by omega) (by have q := hI; rwa [show k.toNat = (D.thn.size - 1) + (0 : Int).toNat by omega] at q))
      · skip
        refine v_aload hx DX12_splits_187 1 rfl ?_
        refine v_push hx DX12_splits_188 ?_
        refine v_iload hx DX12_splits_191 0 rfl ?_
        refine v_push hx DX12_splits_193 ?_
        refine v_isub hx DX12_splits_194 ?_
        refine v_cVv hx DX12_splits_195 CVRX12_262 [iv 142, iv (k - 1)] (r_power (s := 142) l G Λ sz m hR i1 (by decide) (by omega)) hR.o rfl rfl (Nat.le_of_ble_eq_true rfl) (by decide) ⟨Nat.le_refl _, Nat.le_refl _⟩ (fun μ31 hμ31 => ?_)
        obtain ⟨σ1, w1, a1, k1⟩ := RW.abs hμ31.1
        have g1 : ∀ r, r ≠ 142 → r ≠ 143 → r ≠ 145 → σ1 r = σ0 r := fun r h1 h2 h3 => (k1 r h1).trans (g0 r h1 h2 h3)
        have f1 := hμ31.2
        refine v_aload hx DX12_splits_198 1 rfl ?_
        refine v_push hx DX12_splits_199 ?_
        refine v_iload hx DX12_splits_202 0 rfl ?_
        refine v_cVv hx DX12_splits_204 CVRX12_35 [iv 142, iv k] (r_scale (s := 142) l G Λ sz μ31 hR w1 (by decide) (by omega)) hR.o rfl rfl (Nat.le_of_ble_eq_true rfl) (by decide) ⟨Nat.le_refl _, Nat.le_refl _⟩ (fun μ33 hμ33 => ?_)
        obtain ⟨σ2, w2, a2, k2⟩ := RW.abs hμ33.1
        have g2 : ∀ r, r ≠ 142 → r ≠ 143 → r ≠ 145 → σ2 r = σ0 r := fun r h1 h2 h3 => (k2 r h1).trans (g1 r h1 h2 h3)
        have f2 := hμ33.2
        refine v_aload hx DX12_splits_207 1 rfl ?_
        refine v_push hx DX12_splits_208 ?_
        refine v_iload hx DX12_splits_211 0 rfl ?_
        refine v_cVv hx DX12_splits_213 CVRX12_262 [iv 143, iv k] (r_power (s := 143) l G Λ sz μ33 hR w2 (by decide) (by omega)) hR.o rfl rfl (Nat.le_of_ble_eq_true rfl) (by decide) ⟨Nat.le_refl _, Nat.le_refl _⟩ (fun μ35 hμ35 => ?_)
        obtain ⟨σ3, w3, a3, k3⟩ := RW.abs hμ35.1
        have g3 : ∀ r, r ≠ 142 → r ≠ 143 → r ≠ 145 → σ3 r = σ0 r := fun r h1 h2 h3 => (k3 r h2).trans (g2 r h1 h2 h3)
        have f3 := hμ35.2
        refine v_aload hx DX12_splits_216 1 rfl ?_
        refine v_push hx DX12_splits_217 ?_
        refine v_push hx DX12_splits_220 ?_
        refine v_iload hx DX12_splits_223 5 rfl ?_
        refine v_cVv hx DX12_splits_225 CVRX12_50 [iv 145, iv 143, iv (w : Int)] (r_times (s := 145) (a := 143) (b := w) l G Λ sz μ35 hR w3 (by decide) (by omega) (by omega)) hR.o rfl rfl (Nat.le_of_ble_eq_true rfl) (by decide) ⟨Nat.le_refl _, Nat.le_refl _⟩ (fun μ37 hμ37 => ?_)
        obtain ⟨σ4, w4, a4, k4⟩ := RW.abs hμ37.1
        have g4 : ∀ r, r ≠ 142 → r ≠ 143 → r ≠ 145 → σ4 r = σ0 r := fun r h1 h2 h3 => (k4 r h3).trans (g3 r h1 h2 h3)
        have f4 := hμ37.2
        refine v_aload hx DX12_splits_228 1 rfl ?_
        refine v_push hx DX12_splits_229 ?_
        refine v_push hx DX12_splits_232 ?_
        refine v_push hx DX12_splits_235 ?_
        refine v_cVv hx DX12_splits_236 CVRX12_53 [iv 142, iv 145, iv 1] (r_adds (s := 142) (t := 145) l G Λ sz μ37 hR w4 (by decide) (by decide) (by decide)) hR.o rfl rfl (Nat.le_of_ble_eq_true rfl) (by decide) ⟨Nat.le_refl _, Nat.le_refl _⟩ (fun μ39 hμ39 => ?_)
        obtain ⟨σ5, w5, a5, k5⟩ := RW.abs hμ39.1
        have g5 : ∀ r, r ≠ 142 → r ≠ 143 → r ≠ 145 → σ5 r = σ0 r := fun r h1 h2 h3 => (k5 r h1).trans (g4 r h1 h2 h3)
        have f5 := hμ39.2
        refine v_aload hx DX12_splits_239 1 rfl ?_
        refine v_push hx DX12_splits_240 ?_
        refine v_push hx DX12_splits_243 ?_
        refine v_push hx DX12_splits_246 ?_
        refine v_cVv hx DX12_splits_249 CVRX12_50 [iv 142, iv 142, iv 149] (r_times (s := 142) (a := 142) (b := 149) l G Λ sz μ39 hR w5 (by decide) (by omega) (by omega)) hR.o rfl rfl (Nat.le_of_ble_eq_true rfl) (by decide) ⟨Nat.le_refl _, Nat.le_refl _⟩ (fun μ41 hμ41 => ?_)
        obtain ⟨σ6, w6, a6, k6⟩ := RW.abs hμ41.1
        have g6 : ∀ r, r ≠ 142 → r ≠ 143 → r ≠ 145 → σ6 r = σ0 r := fun r h1 h2 h3 => (k6 r h1).trans (g5 r h1 h2 h3)
        have f6 := hμ41.2
        refine v_aload hx DX12_splits_252 1 rfl ?_
        refine v_push hx DX12_splits_253 ?_
        refine v_push hx DX12_splits_256 ?_
        refine v_push hx DX12_splits_259 ?_
        refine v_cVv hx DX12_splits_262 CVRX12_50 [iv 145, iv 143, iv 150] (r_times (s := 145) (a := 143) (b := 150) l G Λ sz μ41 hR w6 (by decide) (by omega) (by omega)) hR.o rfl rfl (Nat.le_of_ble_eq_true rfl) (by decide) ⟨Nat.le_refl _, Nat.le_refl _⟩ (fun μ43 hμ43 => ?_)
        obtain ⟨σ7, w7, a7, k7⟩ := RW.abs hμ43.1
        have g7 : ∀ r, r ≠ 142 → r ≠ 143 → r ≠ 145 → σ7 r = σ0 r := fun r h1 h2 h3 => (k7 r h3).trans (g6 r h1 h2 h3)
        have f7 := hμ43.2
        refine v_aload hx DX12_splits_265 1 rfl ?_
        refine v_push hx DX12_splits_266 ?_
        refine v_push hx DX12_splits_269 ?_
        refine v_push hx DX12_splits_272 ?_
        refine v_cVv hx DX12_splits_273 CVRX12_53 [iv 142, iv 145, iv (-1)] (r_adds (s := 142) (t := 145) l G Λ sz μ43 hR w7 (by decide) (by decide) (by decide)) hR.o rfl rfl (Nat.le_of_ble_eq_true rfl) (by decide) ⟨Nat.le_refl _, Nat.le_refl _⟩ (fun μ45 hμ45 => ?_)
        obtain ⟨σ8, w8, a8, k8⟩ := RW.abs hμ45.1
        have g8 : ∀ r, r ≠ 142 → r ≠ 143 → r ≠ 145 → σ8 r = σ0 r := fun r h1 h2 h3 => (k8 r h1).trans (g7 r h1 h2 h3)
        have f8 := hμ45.2
        have fx : Fr [ν + 1, ν + 2] m μ45 := ((((((((Fr.rf.trans (f1.mono (by simp))).trans (f2.mono (by simp))).trans (f3.mono (by simp))).trans (f4.mono (by simp))).trans (f5.mono (by simp))).trans (f6.mono (by simp))).trans (f7.mono (by simp))).trans (f8.mono (by simp)))
        have m3 : σ3 143 = PS.mo k.toNat := by rw [a3, if_neg (by omega)]; rfl
        have kc : (k : Int) = (k.toNat : Int) := by omega
        have eC : σ8 142 = clS N D W S nh low k.toNat := by
          rw [a8, k7 142 (by omega), a6, a5, k4 142 (by omega), k3 142 (by omega), a2, a1, a4, m3, g3 w (by omega) (by omega) (by omega), s4, g5 149 (by omega) (by omega) (by omega), s2, a7, k6 143 (by omega), k5 143 (by omega), k4 143 (by omega), m3, g6 150 (by omega) (by omega) (by omega), s3]
          have pc := pA_col (W := W) (M := D.dv D.thn) (S := S) (k := k.toNat) lW lM lS (by omega) (by omega)
          rw [← kc] at pc
          rw [pc]
          unfold clS cols
          rw [if_pos (by omega)]
        refine v_aload hx DX12_splits_276 1 rfl ?_
        refine v_push hx DX12_splits_277 ?_
        refine v_cVv hx DX12_splits_280 CVRX12_265 [iv 142] (r_column (n := k.toNat) (s := 142) l G Λ sz μ45 hR w8 (hI.2.2.1.fr (fx.1 _ (by simp))) (by omega) (by rw [fx.1 ν (by simp)]; exact hI.2.2.2.2.1) (by decide)) hR.o rfl rfl (Nat.le_of_ble_eq_true rfl) (by decide) ⟨Nat.le_refl _, Nat.le_refl _⟩ (fun μ47 hμ47 => ?_)
        have hcol := hμ47
        refine v_iinc hx DX12_splits_283 0 rfl [(13, iv (k + 1)), (0, .ref ν), (1, iv (f : Int)), (2, iv q), (3, iv lf), (4, iv (w : Int)), (5, iv ((2 * f : Nat) : Int)), (6, iv ((2 * f + 1 : Nat) : Int)), (7, iv ((D.thn.size : Int) - 1)), (8, iv (((D.dv D.thn).size : Int) - 1)), (9, iv ((W.size : Int) - 1)), (11, iv lo), (12, iv hi)] rfl (by decide) ?_
        refine v_goto hx DX12_splits_286 ?_
        exact v_sub [0, 1, 2, 3, 4, 5, 6, 7, 8, 9, 10, 11, 12] _ rfl (ih (k + 1) lo hi μ47 σ0 σ8 (setC Z (k.toNat) (σ8 142)) S nh low (by omega) hS hlo hhi hir hk3 (by omega) (by have q := hI.col w8 g8 fx eC hcol; rwa [show k.toNat + 1 = (k + 1).toNat by omega] at q))
  refine v_iload hx DX12_splits_0 1 rfl ?_
  refine v_cSp hx DX12_splits_1 CSRX12_38 [iv (f : Int)] (r_above (f := f) l G Λ sz μ) rfl rfl (Nat.le_of_ble_eq_true rfl) (by decide) ⟨Nat.le_refl _, Nat.le_refl _⟩ ?_
  refine v_istore hx DX12_splits_4 [(5, iv ((2 * f : Nat) : Int)), (0, .ref ν), (1, iv (f : Int)), (2, iv q), (3, iv lf), (4, iv (w : Int))] rfl (by decide) ?_
  refine v_iload hx DX12_splits_6 2 rfl ?_
  refine v_cSp hx DX12_splits_7 CSRX12_41 [iv (f : Int)] (r_below (f := f) l G Λ sz μ) rfl rfl (Nat.le_of_ble_eq_true rfl) (by decide) ⟨Nat.le_refl _, Nat.le_refl _⟩ ?_
  refine v_istore hx DX12_splits_10 [(6, iv ((2 * f + 1 : Nat) : Int)), (5, iv ((2 * f : Nat) : Int)), (0, .ref ν), (1, iv (f : Int)), (2, iv q), (3, iv lf), (4, iv (w : Int))] rfl (by decide) ?_
  refine v_aload hx DX12_splits_12 2 rfl ?_
  refine v_push hx DX12_splits_13 ?_
  refine v_iload hx DX12_splits_16 0 rfl ?_
  refine v_cVv hx DX12_splits_18 CVRX12_59 [iv 140, iv ((2 * f + 1 : Nat) : Int)] (r_derives (s := 140) (t := 2 * f + 1) l G Λ sz μ hR hw (by decide) (by omega)) hR.o rfl rfl (Nat.le_of_ble_eq_true rfl) (by decide) ⟨Nat.le_refl _, Nat.le_refl _⟩ (fun μ53 hμ53 => ?_)
  obtain ⟨τ1, w1, a1, k1⟩ := RW.abs hμ53.1
  have f1 := hμ53.2
  refine v_aload hx DX12_splits_21 2 rfl ?_
  refine v_push hx DX12_splits_22 ?_
  refine v_iload hx DX12_splits_25 0 rfl ?_
  refine v_push hx DX12_splits_27 ?_
  refine v_cVv hx DX12_splits_30 CVRX12_44 [iv 144, iv ((2 * f + 1 : Nat) : Int), iv 140] (r_common (o := 144) (a := 2 * f + 1) (b := 140) l G Λ sz μ53 hR w1 (by decide) (by omega) (by decide)) hR.o rfl rfl (Nat.le_of_ble_eq_true rfl) (by decide) ⟨Nat.le_refl _, Nat.le_refl _⟩ (fun μ55 hμ55 => ?_)
  obtain ⟨τ2, w2, a2, k2, f2⟩ := hμ55
  have t2 : τ2 144 = D.thn := by rw [a2, a1, k1 (2 * f + 1) (by omega), eD]; rfl
  refine v_aload hx DX12_splits_33 2 rfl ?_
  refine v_push hx DX12_splits_34 ?_
  refine v_iload hx DX12_splits_37 0 rfl ?_
  refine v_cVv hx DX12_splits_39 CVRX12_27 [iv 143, iv ((2 * f + 1 : Nat) : Int)] (r_lays (s := 143) (t := 2 * f + 1) l G Λ sz μ55 hR w2 (by decide) (by omega)) hR.o rfl rfl (Nat.le_of_ble_eq_true rfl) (by decide) ⟨Nat.le_refl _, Nat.le_refl _⟩ (fun μ57 hμ57 => ?_)
  obtain ⟨τ3, w3, a3, k3⟩ := RW.abs hμ57.1
  have f3 := hμ57.2
  have t3 : τ3 143 = D := by rw [a3, k2 _ (by omega) (by omega), k1 _ (by omega), eD]
  have t34 : τ3 144 = D.thn := (k3 144 (by omega)).trans t2
  refine v_aload hx DX12_splits_42 2 rfl ?_
  refine v_push hx DX12_splits_43 ?_
  refine v_push hx DX12_splits_46 ?_
  refine v_push hx DX12_splits_49 ?_
  refine v_cVv hx DX12_splits_52 CVRX12_31 [iv 149, iv 143, iv 144] (r_divides (o := 149) (s := 143) (y := 144) l G Λ sz μ57 hR w3 (by decide) (by decide) (by decide) (by decide) (by decide) (by decide) (by rw [t34]; exact tE0)) hR.o rfl rfl (Nat.le_of_ble_eq_true rfl) (by decide) ⟨Nat.le_refl _, Nat.le_refl _⟩ (fun μ59 hμ59 => ?_)
  have h52 := hμ59
  obtain ⟨τ4, w4, a4, k4⟩ : ∃ τ4, RW μ59 ν τ4 ∧ τ4 149 = D.dv D.thn ∧ (∀ r, r ≠ 143 → r ≠ 149 → τ4 r = τ3 r) := ⟨_, h52.1, by rw [up_ne (by omega), up_at, t3, t34], fun r h1 h2 => by rw [up_ne h1, up_ne h2]⟩
  have t44 : τ4 144 = D.thn := (k4 144 (by omega) (by omega)).trans t34
  refine v_aload hx DX12_splits_55 2 rfl ?_
  refine v_push hx DX12_splits_56 ?_
  refine v_push hx DX12_splits_59 ?_
  refine v_cVv hx DX12_splits_62 CVRX12_59 [iv 142, iv 144] (r_derives (s := 142) (t := 144) l G Λ sz μ59 hR w4 (by decide) (by decide)) hR.o rfl rfl (Nat.le_of_ble_eq_true rfl) (by decide) ⟨Nat.le_refl _, Nat.le_refl _⟩ (fun μ61 hμ61 => ?_)
  obtain ⟨τ5, w5, a5, k5⟩ := RW.abs hμ61.1
  have f5 := hμ61.2
  have t54 : τ5 144 = D.thn := (k5 144 (by omega)).trans t44
  have t59 : τ5 149 = D.dv D.thn := (k5 149 (by omega)).trans a4
  refine v_aload hx DX12_splits_65 2 rfl ?_
  refine v_push hx DX12_splits_66 ?_
  refine v_push hx DX12_splits_69 ?_
  refine v_push hx DX12_splits_72 ?_
  refine v_cVv hx DX12_splits_75 CVRX12_50 [iv 142, iv 142, iv 149] (r_times (s := 142) (a := 142) (b := 149) l G Λ sz μ61 hR w5 (by decide) (by decide) (by decide)) hR.o rfl rfl (Nat.le_of_ble_eq_true rfl) (by decide) ⟨Nat.le_refl _, Nat.le_refl _⟩ (fun μ63 hμ63 => ?_)
  have dsz := PS.der_size tE
  obtain ⟨τ6, w6, a6, k6⟩ := RW.abs2 (B := D.thn.der.mul (D.dv D.thn)) hμ63.1 (by rw [a5, t44, t59]) (PS.lt_mul' (PS.flt (PS.fin_der tE)) (PS.flt tM) (by omega))
  have f6 := hμ63.2
  have t64 : τ6 144 = D.thn := (k6 144 (by omega)).trans t54
  refine v_aload hx DX12_splits_78 2 rfl ?_
  refine v_push hx DX12_splits_79 ?_
  refine v_push hx DX12_splits_82 ?_
  refine v_push hx DX12_splits_85 ?_
  refine v_cVv hx DX12_splits_88 CVRX12_31 [iv 150, iv 142, iv 144] (r_divides (o := 150) (s := 142) (y := 144) l G Λ sz μ63 hR w6 (by decide) (by decide) (by decide) (by decide) (by decide) (by decide) (by rw [t64]; exact tE0)) hR.o rfl rfl (Nat.le_of_ble_eq_true rfl) (by decide) ⟨Nat.le_refl _, Nat.le_refl _⟩ (fun μ65 hμ65 => ?_)
  have h88 := hμ65
  obtain ⟨σ0, w7, a7, k7⟩ : ∃ σ0, RW μ65 ν σ0 ∧ σ0 150 = (D.thn.der.mul (D.dv D.thn)).dv D.thn ∧ (∀ r, r ≠ 142 → r ≠ 150 → σ0 r = τ6 r) := ⟨_, h88.1, by rw [up_ne (by omega), up_at, a6, t64], fun r h1 h2 => by rw [up_ne h1, up_ne h2]⟩
  obtain ⟨eS, fS⟩ := PS.dvd_dv tE tE0 (thn_S fD hD.1 (by omega))
  have kA : ∀ r : Nat, (r < 140 ∨ r = 148) → σ0 r = ρ r := fun r hr => (k7 r (by omega) (by omega)).trans ((k6 r (by omega)).trans ((k5 r (by omega)).trans ((k4 r (by omega) (by omega)).trans ((k3 r (by omega)).trans ((k2 r (by omega) (by omega)).trans (k1 r (by omega)))))))
  have z4 : σ0 144 = D.thn := (k7 144 (by omega) (by omega)).trans t64
  have z9 : σ0 149 = D.dv D.thn := (k7 149 (by omega) (by omega)).trans ((k6 149 (by omega)).trans t59)
  have fA : Fr [ν + 1, ν + 2] μ μ65 := ((((((f1.mono (by simp)).trans (f2.mono (by simp))).trans (f3.mono (by simp))).trans (h52.2.mono (by simp))).trans (f5.mono (by simp))).trans f6).trans (h88.2.mono (by simp))
  have szS : ((D.thn.der.mul (D.dv D.thn)).dv D.thn).size ≤ 40 := by
    obtain ⟨en, hen, zE⟩ := PS.fne_isz tE tE0
    have lx : (D.thn.der.mul (D.dv D.thn)).lt (40 + en) := PS.lt_mono (PS.lt_mul (PS.flt (PS.fin_der tE)) (PS.flt tM)) (by omega)
    exact PS.size_le (PS.dv_lt zE lx)
  have hg2 := hg
  unfold gdI at hg2
  refine v_aload hx DX12_splits_91 2 rfl ?_
  refine v_push hx DX12_splits_92 ?_
  refine v_cVp hx DX12_splits_95 CVRX12_15 [iv 144] (r_degree (s := 144) l G Λ sz μ65 hR w7 (by decide)) hR.o rfl rfl (Nat.le_of_ble_eq_true rfl) (by decide) ⟨Nat.le_refl _, Nat.le_refl _⟩ ?_
  rw [z4]
  refine v_istore hx DX12_splits_98 [(7, iv ((D.thn.size : Int) - 1)), (6, iv ((2 * f + 1 : Nat) : Int)), (5, iv ((2 * f : Nat) : Int)), (0, .ref ν), (1, iv (f : Int)), (2, iv q), (3, iv lf), (4, iv (w : Int))] rfl (by decide) ?_
  refine v_aload hx DX12_splits_100 3 rfl ?_
  refine v_push hx DX12_splits_101 ?_
  refine v_cVp hx DX12_splits_104 CVRX12_15 [iv 149] (r_degree (s := 149) l G Λ sz μ65 hR w7 (by decide)) hR.o rfl rfl (Nat.le_of_ble_eq_true rfl) (by decide) ⟨Nat.le_refl _, Nat.le_refl _⟩ ?_
  rw [z9]
  refine v_istore hx DX12_splits_107 [(8, iv (((D.dv D.thn).size : Int) - 1)), (7, iv ((D.thn.size : Int) - 1)), (6, iv ((2 * f + 1 : Nat) : Int)), (5, iv ((2 * f : Nat) : Int)), (0, .ref ν), (1, iv (f : Int)), (2, iv q), (3, iv lf), (4, iv (w : Int))] rfl (by decide) ?_
  refine v_aload hx DX12_splits_109 4 rfl ?_
  refine v_iload hx DX12_splits_110 8 rfl ?_
  refine v_cVp hx DX12_splits_112 CVRX12_15 [iv (w : Int)] (r_degree (s := w) l G Λ sz μ65 hR w7 (by omega)) hR.o rfl rfl (Nat.le_of_ble_eq_true rfl) (by decide) ⟨Nat.le_refl _, Nat.le_refl _⟩ ?_
  rw [kA w (by omega), eW]
  refine v_istore hx DX12_splits_115 [(9, iv ((W.size : Int) - 1)), (8, iv (((D.dv D.thn).size : Int) - 1)), (7, iv ((D.thn.size : Int) - 1)), (6, iv ((2 * f + 1 : Nat) : Int)), (5, iv ((2 * f : Nat) : Int)), (0, .ref ν), (1, iv (f : Int)), (2, iv q), (3, iv lf), (4, iv (w : Int))] rfl (by decide) ?_
  refine v_aload hx DX12_splits_117 5 rfl ?_
  refine v_iload hx DX12_splits_118 4 rfl ?_
  refine v_cVp hx DX12_splits_120 CVRX12_15 [iv ((2 * f : Nat) : Int)] (r_degree (s := 2 * f) l G Λ sz μ65 hR w7 (by omega)) hR.o rfl rfl (Nat.le_of_ble_eq_true rfl) (by decide) ⟨Nat.le_refl _, Nat.le_refl _⟩ ?_
  rw [kA (2 * f) (by omega), eN]
  refine v_aload hx DX12_splits_123 5 rfl ?_
  refine v_iload hx DX12_splits_124 3 rfl ?_
  refine v_cVp hx DX12_splits_126 CVRX12_15 [iv ((2 * f + 1 : Nat) : Int)] (r_degree (s := 2 * f + 1) l G Λ sz μ65 hR w7 (by omega)) hR.o rfl rfl (Nat.le_of_ble_eq_true rfl) (by decide) ⟨Nat.le_refl _, Nat.le_refl _⟩ ?_
  rw [kA (2 * f + 1) (by omega), eD]
  refine v_isub hx DX12_splits_129 ?_
  refine v_istore hx DX12_splits_130 [(10, iv (((N.size : Int) - 1) - ((D.size : Int) - 1))), (9, iv ((W.size : Int) - 1)), (8, iv (((D.dv D.thn).size : Int) - 1)), (7, iv ((D.thn.size : Int) - 1)), (6, iv ((2 * f + 1 : Nat) : Int)), (5, iv ((2 * f : Nat) : Int)), (0, .ref ν), (1, iv (f : Int)), (2, iv q), (3, iv lf), (4, iv (w : Int))] rfl (by decide) ?_
  refine v_iload hx DX12_splits_132 1 rfl ?_
  refine v_if_ge hx DX12_splits_134 (by omega) (fun c134 => ?_) (fun c134 => ?_)
  · skip
    refine v_push hx DX12_splits_141 ?_
    refine v_istore hx DX12_splits_142 [(11, iv 0), (10, iv (((N.size : Int) - 1) - ((D.size : Int) - 1))), (9, iv ((W.size : Int) - 1)), (8, iv (((D.dv D.thn).size : Int) - 1)), (7, iv ((D.thn.size : Int) - 1)), (6, iv ((2 * f + 1 : Nat) : Int)), (5, iv ((2 * f : Nat) : Int)), (0, .ref ν), (1, iv (f : Int)), (2, iv q), (3, iv lf), (4, iv (w : Int))] rfl (by decide) ?_
    refine v_iload hx DX12_splits_144 1 rfl ?_
    refine v_if_ge hx DX12_splits_146 (by omega) (fun c146 => ?_) (fun c146 => ?_)
    · skip
      refine v_iload hx DX12_splits_153 2 rfl ?_
      refine v_if_ge hx DX12_splits_155 (by omega) (fun c155 => ?_) (fun c155 => ?_)
      · skip
        refine v_iload hx DX12_splits_165 1 rfl ?_
        refine v_iload hx DX12_splits_167 2 rfl ?_
        refine v_isub hx DX12_splits_169 ?_
        refine v_istore hx DX12_splits_170 [(12, iv ((((N.size : Int) - 1) - ((D.size : Int) - 1)) - ((W.size : Int) - 1))), (11, iv 0), (10, iv (((N.size : Int) - 1) - ((D.size : Int) - 1))), (9, iv ((W.size : Int) - 1)), (8, iv (((D.dv D.thn).size : Int) - 1)), (7, iv ((D.thn.size : Int) - 1)), (6, iv ((2 * f + 1 : Nat) : Int)), (5, iv ((2 * f : Nat) : Int)), (0, .ref ν), (1, iv (f : Int)), (2, iv q), (3, iv lf), (4, iv (w : Int))] rfl (by decide) ?_
        refine v_aload hx DX12_splits_172 8 rfl ?_
        refine v_push hx DX12_splits_173 ?_
        refine v_pI hx DX12_splits_174 FPRX12_259 hR.o rfl (ki := 16) rfl (fun μ77 eμ77 => ?_)
        have hcz : MXI μ77 ν X := (hX.fr (fA.1 _ (by simp))).fr (by rw [eμ77, mI_ne (by omega)])
        refine v_push hx DX12_splits_177 ?_
        refine v_istore hx DX12_splits_178 [(13, iv 0), (12, iv ((((N.size : Int) - 1) - ((D.size : Int) - 1)) - ((W.size : Int) - 1))), (11, iv 0), (10, iv (((N.size : Int) - 1) - ((D.size : Int) - 1))), (9, iv ((W.size : Int) - 1)), (8, iv (((D.dv D.thn).size : Int) - 1)), (7, iv ((D.thn.size : Int) - 1)), (6, iv ((2 * f + 1 : Nat) : Int)), (5, iv ((2 * f : Nat) : Int)), (0, .ref ν), (1, iv (f : Int)), (2, iv q), (3, iv lf), (4, iv (w : Int))] rfl (by decide) ?_
        exact v_sub [0, 9, 10, 11, 12, 13, 8, 7, 6, 5, 4, 2, 1] _ rfl (L180 100 0 0 ((((N.size : Int) - 1) - ((D.size : Int) - 1)) - ((W.size : Int) - 1)) μ77 σ0 σ0 X ((D.thn.der.mul (D.dv D.thn)).dv D.thn) ((((((N.size : Int) - 1) - ((D.size : Int) - 1)) - ((W.size : Int) - 1)) - (0) + 1).toNat) 0 (by omega) ⟨z4, z9, a7, (kA w (by omega)).trans eW, (kA _ (by omega)).trans eN, (kA _ (by omega)).trans eD, ⟨⟨fN, hN⟩, ⟨fD, hD⟩, ⟨fW, hW⟩, hg, ⟨fS, szS, eS.symm⟩, rfl, rfl, rfl, (fun c => by have q : W.size = 0 := (by rw [c, PS.zero_sz]); omega), (fun c => ⟨rfl, by split <;> omega⟩)⟩⟩ rfl (by omega) (by omega) kA (by omega) ⟨w7.fr (by rw [eμ77, mI_ne (by omega)]), fun r _ _ _ => rfl, hcz, fun r j _ hj => by omega, by rw [eμ77, mI_at, if_pos (by omega)]; rfl, (FrN.of (fA.mono (by simp)) (by simp)).trans (by rw [eμ77]; exact FrN.wJ (by simp))⟩)
      · exact absurd c155 (by omega)
    · skip
      refine v_push hx DX12_splits_149 ?_
      refine v_goto hx DX12_splits_150 ?_
      refine v_istore hx DX12_splits_170 [(12, iv (-1)), (11, iv 0), (10, iv (((N.size : Int) - 1) - ((D.size : Int) - 1))), (9, iv ((W.size : Int) - 1)), (8, iv (((D.dv D.thn).size : Int) - 1)), (7, iv ((D.thn.size : Int) - 1)), (6, iv ((2 * f + 1 : Nat) : Int)), (5, iv ((2 * f : Nat) : Int)), (0, .ref ν), (1, iv (f : Int)), (2, iv q), (3, iv lf), (4, iv (w : Int))] rfl (by decide) ?_
      refine v_aload hx DX12_splits_172 8 rfl ?_
      refine v_push hx DX12_splits_173 ?_
      refine v_pI hx DX12_splits_174 FPRX12_259 hR.o rfl (ki := 16) rfl (fun μ78 eμ78 => ?_)
      have hcz : MXI μ78 ν X := (hX.fr (fA.1 _ (by simp))).fr (by rw [eμ78, mI_ne (by omega)])
      refine v_push hx DX12_splits_177 ?_
      refine v_istore hx DX12_splits_178 [(13, iv 0), (12, iv (-1)), (11, iv 0), (10, iv (((N.size : Int) - 1) - ((D.size : Int) - 1))), (9, iv ((W.size : Int) - 1)), (8, iv (((D.dv D.thn).size : Int) - 1)), (7, iv ((D.thn.size : Int) - 1)), (6, iv ((2 * f + 1 : Nat) : Int)), (5, iv ((2 * f : Nat) : Int)), (0, .ref ν), (1, iv (f : Int)), (2, iv q), (3, iv lf), (4, iv (w : Int))] rfl (by decide) ?_
      exact v_sub [0, 9, 10, 11, 12, 13, 8, 7, 6, 5, 4, 2, 1] _ rfl (L180 100 0 0 (-1) μ78 σ0 σ0 X ((D.thn.der.mul (D.dv D.thn)).dv D.thn) ((((-1)) - (0) + 1).toNat) 0 (by omega) ⟨z4, z9, a7, (kA w (by omega)).trans eW, (kA _ (by omega)).trans eN, (kA _ (by omega)).trans eD, ⟨⟨fN, hN⟩, ⟨fD, hD⟩, ⟨fW, hW⟩, hg, ⟨fS, szS, eS.symm⟩, rfl, rfl, rfl, (fun c => by have q : W.size = 0 := (by rw [c, PS.zero_sz]); omega), (fun c => ⟨rfl, by split <;> omega⟩)⟩⟩ rfl (by omega) (by omega) kA (by omega) ⟨w7.fr (by rw [eμ78, mI_ne (by omega)]), fun r _ _ _ => rfl, hcz, fun r j _ hj => by omega, by rw [eμ78, mI_at, if_pos (by omega)]; rfl, (FrN.of (fA.mono (by simp)) (by simp)).trans (by rw [eμ78]; exact FrN.wJ (by simp))⟩)
  · skip
    refine v_push hx DX12_splits_137 ?_
    refine v_goto hx DX12_splits_138 ?_
    refine v_istore hx DX12_splits_142 [(11, iv 1), (10, iv (((N.size : Int) - 1) - ((D.size : Int) - 1))), (9, iv ((W.size : Int) - 1)), (8, iv (((D.dv D.thn).size : Int) - 1)), (7, iv ((D.thn.size : Int) - 1)), (6, iv ((2 * f + 1 : Nat) : Int)), (5, iv ((2 * f : Nat) : Int)), (0, .ref ν), (1, iv (f : Int)), (2, iv q), (3, iv lf), (4, iv (w : Int))] rfl (by decide) ?_
    refine v_iload hx DX12_splits_144 1 rfl ?_
    refine v_if_ge hx DX12_splits_146 (by omega) (fun c146 => ?_) (fun c146 => ?_)
    · skip
      refine v_iload hx DX12_splits_153 2 rfl ?_
      refine v_if_ge hx DX12_splits_155 (by omega) (fun c155 => ?_) (fun c155 => ?_)
      · exact absurd c155 (by omega)
      · skip
        refine v_iload hx DX12_splits_158 1 rfl ?_
        refine v_push hx DX12_splits_160 ?_
        refine v_iadd hx DX12_splits_161 ?_
        refine v_goto hx DX12_splits_162 ?_
        refine v_istore hx DX12_splits_170 [(12, iv ((((N.size : Int) - 1) - ((D.size : Int) - 1)) + 1)), (11, iv 1), (10, iv (((N.size : Int) - 1) - ((D.size : Int) - 1))), (9, iv ((W.size : Int) - 1)), (8, iv (((D.dv D.thn).size : Int) - 1)), (7, iv ((D.thn.size : Int) - 1)), (6, iv ((2 * f + 1 : Nat) : Int)), (5, iv ((2 * f : Nat) : Int)), (0, .ref ν), (1, iv (f : Int)), (2, iv q), (3, iv lf), (4, iv (w : Int))] rfl (by decide) ?_
        refine v_aload hx DX12_splits_172 8 rfl ?_
        refine v_push hx DX12_splits_173 ?_
        refine v_pI hx DX12_splits_174 FPRX12_259 hR.o rfl (ki := 16) rfl (fun μ79 eμ79 => ?_)
        have hcz : MXI μ79 ν X := (hX.fr (fA.1 _ (by simp))).fr (by rw [eμ79, mI_ne (by omega)])
        refine v_push hx DX12_splits_177 ?_
        refine v_istore hx DX12_splits_178 [(13, iv 0), (12, iv ((((N.size : Int) - 1) - ((D.size : Int) - 1)) + 1)), (11, iv 1), (10, iv (((N.size : Int) - 1) - ((D.size : Int) - 1))), (9, iv ((W.size : Int) - 1)), (8, iv (((D.dv D.thn).size : Int) - 1)), (7, iv ((D.thn.size : Int) - 1)), (6, iv ((2 * f + 1 : Nat) : Int)), (5, iv ((2 * f : Nat) : Int)), (0, .ref ν), (1, iv (f : Int)), (2, iv q), (3, iv lf), (4, iv (w : Int))] rfl (by decide) ?_
        exact v_sub [0, 9, 10, 11, 12, 13, 8, 7, 6, 5, 4, 2, 1] _ rfl (L180 100 0 1 ((((N.size : Int) - 1) - ((D.size : Int) - 1)) + 1) μ79 σ0 σ0 X ((D.thn.der.mul (D.dv D.thn)).dv D.thn) ((((((N.size : Int) - 1) - ((D.size : Int) - 1)) + 1) - (1) + 1).toNat) 1 (by omega) ⟨z4, z9, a7, (kA w (by omega)).trans eW, (kA _ (by omega)).trans eN, (kA _ (by omega)).trans eD, ⟨⟨fN, hN⟩, ⟨fD, hD⟩, ⟨fW, hW⟩, hg, ⟨fS, szS, eS.symm⟩, rfl, rfl, rfl, (fun c => ⟨rfl, by omega⟩), (fun c => by have := PS.fpos fW c; omega)⟩⟩ rfl (by omega) (by omega) kA (by omega) ⟨w7.fr (by rw [eμ79, mI_ne (by omega)]), fun r _ _ _ => rfl, hcz, fun r j _ hj => by omega, by rw [eμ79, mI_at, if_pos (by omega)]; rfl, (FrN.of (fA.mono (by simp)) (by simp)).trans (by rw [eμ79]; exact FrN.wJ (by simp))⟩)
    · skip
      refine v_push hx DX12_splits_149 ?_
      refine v_goto hx DX12_splits_150 ?_
      refine v_istore hx DX12_splits_170 [(12, iv (-1)), (11, iv 1), (10, iv (((N.size : Int) - 1) - ((D.size : Int) - 1))), (9, iv ((W.size : Int) - 1)), (8, iv (((D.dv D.thn).size : Int) - 1)), (7, iv ((D.thn.size : Int) - 1)), (6, iv ((2 * f + 1 : Nat) : Int)), (5, iv ((2 * f : Nat) : Int)), (0, .ref ν), (1, iv (f : Int)), (2, iv q), (3, iv lf), (4, iv (w : Int))] rfl (by decide) ?_
      refine v_aload hx DX12_splits_172 8 rfl ?_
      refine v_push hx DX12_splits_173 ?_
      refine v_pI hx DX12_splits_174 FPRX12_259 hR.o rfl (ki := 16) rfl (fun μ80 eμ80 => ?_)
      have hcz : MXI μ80 ν X := (hX.fr (fA.1 _ (by simp))).fr (by rw [eμ80, mI_ne (by omega)])
      refine v_push hx DX12_splits_177 ?_
      refine v_istore hx DX12_splits_178 [(13, iv 0), (12, iv (-1)), (11, iv 1), (10, iv (((N.size : Int) - 1) - ((D.size : Int) - 1))), (9, iv ((W.size : Int) - 1)), (8, iv (((D.dv D.thn).size : Int) - 1)), (7, iv ((D.thn.size : Int) - 1)), (6, iv ((2 * f + 1 : Nat) : Int)), (5, iv ((2 * f : Nat) : Int)), (0, .ref ν), (1, iv (f : Int)), (2, iv q), (3, iv lf), (4, iv (w : Int))] rfl (by decide) ?_
      exact v_sub [0, 9, 10, 11, 12, 13, 8, 7, 6, 5, 4, 2, 1] _ rfl (L180 100 0 1 (-1) μ80 σ0 σ0 X ((D.thn.der.mul (D.dv D.thn)).dv D.thn) ((((-1)) - (1) + 1).toNat) 1 (by omega) ⟨z4, z9, a7, (kA w (by omega)).trans eW, (kA _ (by omega)).trans eN, (kA _ (by omega)).trans eD, ⟨⟨fN, hN⟩, ⟨fD, hD⟩, ⟨fW, hW⟩, hg, ⟨fS, szS, eS.symm⟩, rfl, rfl, rfl, (fun c => ⟨rfl, by omega⟩), (fun c => by have := PS.fpos fW c; omega)⟩⟩ rfl (by omega) (by omega) kA (by omega) ⟨w7.fr (by rw [eμ80, mI_ne (by omega)]), fun r _ _ _ => rfl, hcz, fun r j _ hj => by omega, by rw [eμ80, mI_at, if_pos (by omega)]; rfl, (FrN.of (fA.mono (by simp)) (by simp)).trans (by rw [eμ80]; exact FrN.wJ (by simp))⟩)
