/-! ===== the reference: becomes, tower, join ===== -/
def StR (μ : Mem) (ν : Nat) (b : Bd) (h : Hs) : Prop := (∃ σ, RA μ ν σ b) ∧ RH μ ν h
theorem JR.low {ρ σ : Nat → PS} {J : Int → FP2} (h : JR ρ J) (e : ∀ r : Nat, 30 ≤ r → σ r = ρ r) : JR σ J := fun s h0 h1 => ⟨(e _ (by omega)).trans (h s h0 h1).1, (e _ (by omega)).trans (h s h0 h1).2⟩
theorem RFI.lt {μ : Mem} {ν : Nat} {ρ : Nat → PS} {k : Int} {a : FP2} (h : RFI ρ k a) (hw : RW μ ν ρ) (hk : 0 ≤ k ∧ k < 70) (hi : isT a.1 a.2 = 1) : a.1.lt 7 ∧ a.2.lt 5 := by
  have q := isT_one hi
  have h1 := PS.lt_size (hw (2 * k.toNat) (by omega)).1
  have h2 := PS.lt_size (hw (2 * k.toNat + 1) (by omega)).1
  rw [h.1] at h1
  rw [h.2] at h2
  exact ⟨PS.lt_mono h1 q.1, PS.lt_mono h2 q.2⟩
theorem okJ_no {J : Int → FP2} {k : Int} (h0 : -4 ≤ k) (h1 : k ≤ 4) (h : ¬ (isT (J k).1 (J k).2 = 1 ∧ ((k < -2 ∨ 2 < k) → (J k).1 = PS.zero))) : ¬ okJ J := fun q => h (q k h0 h1)
theorem keepA_no {b : Bd} {f : Int} {J : Int → FP2} (h : ¬ okJ J) : keepA b f J = -3 := if0 h
theorem keepA_yes {b : Bd} {f : Int} {J : Int → FP2} (h : okJ J) : keepA b f J = (kp b f J 5).fl f 5 := if1 h
theorem tw_at {a0 a1 a2 a3 : Int} {c : Int → Int} (j : Int) (g0 : 0 ≤ j) (g1 : j < 4) : (if j = 3 then a3 else if j = 2 then a2 else if j = 1 then a1 else if j = 0 then a0 else c j) = tw4 a0 a1 a2 a3 j := by
  unfold tw4
  have : j = 0 ∨ j = 1 ∨ j = 2 ∨ j = 3 := by omega
  rcases this with rfl | rfl | rfl | rfl <;> rfl
theorem tow_ok {b : Bd} {κ a0 a1 a2 a3 : Int} (h : b.ok) (h0 : 0 ≤ κ ∧ κ ≤ 2) (h1 : 0 ≤ a0 ∧ a0 ≤ 100) (h2 : 0 ≤ a1 ∧ a1 ≤ 100) (h3 : 0 ≤ a2 ∧ a2 ≤ 100) (h4 : 0 ≤ a3 ∧ a3 ≤ 100) : (b.tow κ a0 a1 a2 a3).ok := by
  refine ⟨h.1, fun j => ?_, h0, h.2.2.2⟩
  show 0 ≤ tw4 a0 a1 a2 a3 j ∧ tw4 a0 a1 a2 a3 j ≤ 100
  unfold tw4
  split <;> (try split) <;> (try split) <;> (try split) <;> omega
theorem r_becomes (l : Launch) (G : Gl) (Λ : Lay) (sz : Nat) (μ : Mem) {ν : Nat} {ρ : Nat → PS} {b : Bd} {h : Hs} {f : Int} {J : Int → FP2} (hR : refK Λ ν) (ha : RA μ ν ρ b) (hh : RH μ ν h) (hf : 0 ≤ f ∧ f < 3) (hJ : JR ρ J) : Sp l G yX12_becomes cX12_becomes 4 (some FieldType.int) 3 [.ref ν, iv f] Λ sz μ (pI (fun z μ' => z = keepA b f J ∧ ((¬ okJ J ∧ μ' = μ) ∨ (okJ J ∧ StR μ' ν (kp b f J 5) (h.push b) ∧ FrN ν [ν + 1, ν + 4] [5, 6] μ μ')))) := by
  refine Sp.intro (by decide) (Nat.le_of_ble_eq_true rfl) (fun x hx hBD => ?_)
  refine v_lv [(0, .ref ν), (1, iv f)] rfl ?_
  have L58 : ∀ (nf : Nat) (i : Int) (m : Mem) (σ : Nat → PS), (3 - i < (nf : Int)) → (-2 ≤ i ∧ i ≤ 3) → (RA m ν σ (kp b f J (i + 2).toNat)) → (JR σ J) → (okJ J) → (RH m ν (h.push b)) → (FrN ν [ν + 1, ν + 4] [5, 6] μ m) → V G x (0, 0) Λ sz m 58 [(2, iv i), (0, .ref ν), (1, iv f)] [] := by
    intro nf
    induction nf with
    | zero => intro i m σ hm hi h1 h2 hy h3 hf2; exact absurd hm (by omega)
    | succ nf ih =>
      intro i m σ hm hi h1 h2 hy h3 hf2
      refine v_iload hx DX12_becomes_58 0 rfl ?_
      refine v_push hx DX12_becomes_59 ?_
      refine v_icmp_gt hx DX12_becomes_60 (by omega) (by decide) (fun c60 => ?_) (fun c60 => ?_)
      · skip
        refine v_aload hx DX12_becomes_84 1 rfl ?_
        refine v_iload hx DX12_becomes_85 2 rfl ?_
        refine v_cVp hx DX12_becomes_86 CVRX12_196 [iv f] (r_presentOf l G Λ sz m hR h1 hf) hR.o rfl rfl (Nat.le_of_ble_eq_true rfl) (by decide) ⟨Nat.le_refl _, Nat.le_refl _⟩ ?_
        exact v_ri hx hBD DX12_becomes_89 (by have e5 : (i + 2).toNat = 5 := (by omega); rw [e5] at h1 ⊢; exact ⟨(keepA_yes hy).symm, Or.inr ⟨hy, ⟨⟨σ, h1⟩, h3⟩, hf2⟩⟩)
      · skip
        have jl := h2 i (by omega) (by omega)
        refine v_aload hx DX12_becomes_63 1 rfl ?_
        refine v_iload hx DX12_becomes_64 2 rfl ?_
        refine v_iload hx DX12_becomes_65 0 rfl ?_
        refine v_cSp hx DX12_becomes_66 CSRX12_155 [iv f, iv i] (r_term l G Λ sz m (by omega)) rfl rfl (Nat.le_of_ble_eq_true rfl) (by decide) ⟨Nat.le_refl _, Nat.le_refl _⟩ ?_
        refine v_push hx DX12_becomes_69 ?_
        refine v_iload hx DX12_becomes_71 0 rfl ?_
        refine v_iadd hx DX12_becomes_72 ?_
        refine v_push hx DX12_becomes_73 ?_
        refine v_iadd hx DX12_becomes_74 ?_
        refine v_cVv hx DX12_becomes_75 CVRX12_217 [iv ((5 * f + i + 2).toNat : Int), iv ((32 + i) + 4)] (r_takesF (A := J i) l G Λ sz m hR h1.1 (by omega) (by omega) jl) hR.o rfl rfl (Nat.le_of_ble_eq_true rfl) (by decide) ⟨Nat.le_refl _, Nat.le_refl _⟩ (fun μ5 hμ5 => ?_)
        refine v_iinc hx DX12_becomes_78 0 rfl [(2, iv (i + 1)), (0, .ref ν), (1, iv f)] rfl (by decide) ?_
        refine v_goto hx DX12_becomes_81 ?_
        exact v_sub [0, 1, 2] _ rfl (ih (i + 1) μ5 _ (by omega) (by omega) (by rw [show (i + 1 + 2).toNat = (i + 2).toNat + 1 by omega, kp, show (((i + 2).toNat : Int) - 2) = i by omega, show 5 * f + ((i + 2).toNat : Int) = ((5 * f + i + 2).toNat : Int) by omega]; exact h1.sto (by omega) hμ5.1 hμ5.2 (jl.lt h1.1 (by omega) (hy i (by omega) (by omega)).1).1 (jl.lt h1.1 (by omega) (hy i (by omega) (by omega)).1).2) (h2.low (fun r hr => by rw [up_ne (by omega), up_ne (by omega)])) hy (h3.frN (S := [ν + 1]) (J := []) (FrN.of hμ5.2 (by simp)) (by simp) (by simp) (by simp)) (hf2.trans (FrN.of (hμ5.2.mono (by simp)) (by simp))))
  have L3 : ∀ (nf : Nat) (k : Int), (5 - k < (nf : Int)) → (-4 ≤ k ∧ k ≤ 5) → (∀ s : Int, -4 ≤ s → s < k → isT (J s).1 (J s).2 = 1 ∧ ((s < -2 ∨ 2 < s) → (J s).1 = PS.zero)) → V G x (0, 0) Λ sz μ 3 [(2, iv k), (0, .ref ν), (1, iv f)] [] := by
    intro nf
    induction nf with
    | zero => intro k hm hk hy; exact absurd hm (by omega)
    | succ nf ih =>
      intro k hm hk hy
      have ir := isT_rng (J k).1 (J k).2
      refine v_iload hx DX12_becomes_3 0 rfl ?_
      refine v_push hx DX12_becomes_4 ?_
      refine v_icmp_gt hx DX12_becomes_5 (by omega) (by decide) (fun c5 => ?_) (fun c5 => ?_)
      · skip
        refine v_aload hx DX12_becomes_51 1 rfl ?_
        refine v_cVv hx DX12_becomes_52 CVRX12_211 [] (r_remembers l G Λ sz μ hR ha hh) hR.o rfl rfl (Nat.le_of_ble_eq_true rfl) (by decide) ⟨Nat.le_refl _, Nat.le_refl _⟩ (fun μ7 hμ7 => ?_)
        refine v_push hx DX12_becomes_55 ?_
        refine v_istore hx DX12_becomes_57 [(2, iv (-2)), (0, .ref ν), (1, iv f)] rfl (by decide) ?_
        exact v_sub [0, 1, 2] _ rfl (L58 100 (-2) μ7 ρ (by omega) (by omega) (ha.frN hμ7.2 (by simp) (by simp) (by simp) (by simp)) hJ (fun s h0 h1 => hy s h0 (by omega)) hμ7.1 (hμ7.2.mono (by simp) (by simp)))
      · skip
        
        refine v_push hx DX12_becomes_8 ?_
        refine v_iload hx DX12_becomes_10 0 rfl ?_
        refine v_iadd hx DX12_becomes_11 ?_
        refine v_push hx DX12_becomes_12 ?_
        refine v_iadd hx DX12_becomes_13 ?_
        refine v_istore hx DX12_becomes_14 [(3, iv ((32 + k) + 4)), (2, iv k), (0, .ref ν), (1, iv f)] rfl (by decide) ?_
        refine v_aload hx DX12_becomes_15 2 rfl ?_
        refine v_iload hx DX12_becomes_16 0 rfl ?_
        refine v_cVp hx DX12_becomes_17 CVRX12_214 [iv ((32 + k) + 4)] (r_isTermF l G Λ sz μ hR ha.1 (by omega) (hJ k (by omega) (by omega))) hR.o rfl rfl (Nat.le_of_ble_eq_true rfl) (by decide) ⟨Nat.le_refl _, Nat.le_refl _⟩ ?_
        refine v_if_eq hx DX12_becomes_20 (by omega) (fun c20 => ?_) (fun c20 => ?_)
        · skip
          have nk : ¬ okJ J := okJ_no (k := k) (by omega) (by omega) (fun q => by omega)
          refine v_push hx DX12_becomes_42 ?_
          exact v_ri hx hBD DX12_becomes_44 (⟨(keepA_no nk).symm, Or.inl ⟨nk, rfl⟩⟩)
        · skip
          refine v_iload hx DX12_becomes_23 1 rfl ?_
          refine v_push hx DX12_becomes_24 ?_
          refine v_icmp_lt hx DX12_becomes_26 (by omega) (by decide) (fun c26 => ?_) (fun c26 => ?_)
          · skip
            refine v_aload hx DX12_becomes_34 2 rfl ?_
            refine v_iload hx DX12_becomes_35 0 rfl ?_
            refine v_cVp hx DX12_becomes_36 CVRX12_186 [iv ((32 + k) + 4)] (r_isNoughtF l G Λ sz μ hR ha.1 (by omega) (hJ k (by omega) (by omega))) hR.o rfl rfl (Nat.le_of_ble_eq_true rfl) (by decide) ⟨Nat.le_refl _, Nat.le_refl _⟩ ?_
            have br36 := bz_rng ((J k).1 = PS.zero)
            refine v_if_ne hx DX12_becomes_39 (by omega) (fun c39 => ?_) (fun c39 => ?_)
            · skip
              have d39 := bzt c39
              refine v_iinc hx DX12_becomes_45 1 rfl [(2, iv (k + 1)), (3, iv ((32 + k) + 4)), (0, .ref ν), (1, iv f)] rfl (by decide) ?_
              refine v_goto hx DX12_becomes_48 ?_
              exact v_sub [0, 2, 3] _ rfl (ih (k + 1) (by omega) (by omega) (fun s h0 h1 => (Classical.em (s = k)).elim (fun q => by rw [q]; exact ⟨by omega, fun q => d39⟩) (fun q => hy s h0 (by omega))))
            · skip
              have d39 := bzf c39
              have nk : ¬ okJ J := okJ_no (k := k) (by omega) (by omega) (fun q => d39 (q.2 (by omega)))
              refine v_push hx DX12_becomes_42 ?_
              exact v_ri hx hBD DX12_becomes_44 (⟨(keepA_no nk).symm, Or.inl ⟨nk, rfl⟩⟩)
          · skip
            refine v_iload hx DX12_becomes_29 1 rfl ?_
            refine v_push hx DX12_becomes_30 ?_
            refine v_icmp_le hx DX12_becomes_31 (by omega) (by decide) (fun c31 => ?_) (fun c31 => ?_)
            · skip
              refine v_iinc hx DX12_becomes_45 1 rfl [(2, iv (k + 1)), (3, iv ((32 + k) + 4)), (0, .ref ν), (1, iv f)] rfl (by decide) ?_
              refine v_goto hx DX12_becomes_48 ?_
              exact v_sub [0, 2, 3] _ rfl (ih (k + 1) (by omega) (by omega) (fun s h0 h1 => (Classical.em (s = k)).elim (fun q => by rw [q]; exact ⟨by omega, fun q => by omega⟩) (fun q => hy s h0 (by omega))))
            · skip
              refine v_aload hx DX12_becomes_34 2 rfl ?_
              refine v_iload hx DX12_becomes_35 0 rfl ?_
              refine v_cVp hx DX12_becomes_36 CVRX12_186 [iv ((32 + k) + 4)] (r_isNoughtF l G Λ sz μ hR ha.1 (by omega) (hJ k (by omega) (by omega))) hR.o rfl rfl (Nat.le_of_ble_eq_true rfl) (by decide) ⟨Nat.le_refl _, Nat.le_refl _⟩ ?_
              have br36 := bz_rng ((J k).1 = PS.zero)
              refine v_if_ne hx DX12_becomes_39 (by omega) (fun c39 => ?_) (fun c39 => ?_)
              · skip
                have d39 := bzt c39
                refine v_iinc hx DX12_becomes_45 1 rfl [(2, iv (k + 1)), (3, iv ((32 + k) + 4)), (0, .ref ν), (1, iv f)] rfl (by decide) ?_
                refine v_goto hx DX12_becomes_48 ?_
                exact v_sub [0, 2, 3] _ rfl (ih (k + 1) (by omega) (by omega) (fun s h0 h1 => (Classical.em (s = k)).elim (fun q => by rw [q]; exact ⟨by omega, fun q => d39⟩) (fun q => hy s h0 (by omega))))
              · skip
                have d39 := bzf c39
                have nk : ¬ okJ J := okJ_no (k := k) (by omega) (by omega) (fun q => d39 (q.2 (by omega)))
                refine v_push hx DX12_becomes_42 ?_
                exact v_ri hx hBD DX12_becomes_44 (⟨(keepA_no nk).symm, Or.inl ⟨nk, rfl⟩⟩)
  refine v_push hx DX12_becomes_0 ?_
  refine v_istore hx DX12_becomes_2 [(2, iv (-4)), (0, .ref ν), (1, iv f)] rfl (by decide) ?_
  exact v_sub [0, 1, 2] _ rfl (L3 100 (-4) (by omega) (by omega) (fun s h0 h1 => by omega))
theorem r_tower (l : Launch) (G : Gl) (Λ : Lay) (sz : Nat) (μ : Mem) {ν : Nat} {ρ : Nat → PS} {b : Bd} {h : Hs} {κ a0 a1 a2 a3 : Int} (hR : refK Λ ν) (ha : RA μ ν ρ b) (hh : RH μ ν h) (rκ : inR κ) (ra0 : inR a0) (ra1 : inR a1) (ra2 : inR a2) (ra3 : inR a3) : Sp l G yX12_tower cX12_tower 9 (some FieldType.int) 3 [.ref ν, iv κ, iv a0, iv a1, iv a2, iv a3] Λ sz μ (pI (fun z μ' => z = towA b κ a0 a1 a2 a3 ∧ ((z < 0 ∧ μ' = μ) ∨ (0 ≤ z ∧ StR μ' ν (b.tow κ a0 a1 a2 a3) (h.push b) ∧ FrN ν [ν + 3, ν + 4] [2, 5, 6] μ μ')))) := by
  refine Sp.intro (by decide) (Nat.le_of_ble_eq_true rfl) (fun x hx hBD => ?_)
  refine v_lv [(0, .ref ν), (1, iv κ), (2, iv a0), (3, iv a1), (4, iv a2), (5, iv a3)] rfl ?_
  have uk := ha.2.1.2.2.1
  have u0 := ha.2.1.2.1 0
  have u1 := ha.2.1.2.1 1
  have u2 := ha.2.1.2.1 2
  have u3 := ha.2.1.2.1 3
  have L182 : ∀ (q : Int), (towOK κ a0 a1 a2 a3) → (q = mostI a1 a2 a3) → (q = towA b κ a0 a1 a2 a3) → V G x (0, 0) Λ sz μ 182 [(0, .ref ν), (1, iv κ), (2, iv a0), (3, iv a1), (4, iv a2), (5, iv a3), (7, iv q)] [] := by
    intro q ok hq hz
    obtain ⟨k0, k1, k2, k3, k4, k5⟩ := ok
    have qr : 0 ≤ q ∧ q ≤ 3 := by rw [hq]; unfold mostI; split <;> (try split) <;> (try split) <;> omega
    refine v_aload hx DX12_tower_182 0 rfl ?_
    refine v_cVv hx DX12_tower_183 CVRX12_211 [] (r_remembers l G Λ sz μ hR ha hh) hR.o rfl rfl (Nat.le_of_ble_eq_true rfl) (by decide) ⟨Nat.le_refl _, Nat.le_refl _⟩ (fun μ1 hμ1 => ?_)
    have h183 := hμ1
    refine v_aload hx DX12_tower_186 0 rfl ?_
    refine v_iload hx DX12_tower_187 1 rfl ?_
    refine v_pI hx DX12_tower_188 FPRX12_125 hR.o rfl (ki := 2) rfl (fun μ3 eμ3 => ?_)
    refine v_aload hx DX12_tower_191 0 rfl ?_
    refine v_get hx DX12_tower_192 FLRX12_68 hR.o (v := .ref (ν + 3)) rfl ?_
    refine v_push hx DX12_tower_195 ?_
    refine v_iload hx DX12_tower_196 2 rfl ?_
    refine v_iastm hx DX12_tower_197 hR.u (by omega) (by decide) (fun μ4 eμ4 => ?_)
    refine v_aload hx DX12_tower_198 0 rfl ?_
    refine v_get hx DX12_tower_199 FLRX12_68 hR.o (v := .ref (ν + 3)) rfl ?_
    refine v_push hx DX12_tower_202 ?_
    refine v_iload hx DX12_tower_203 3 rfl ?_
    refine v_iastm hx DX12_tower_204 hR.u (by omega) (by decide) (fun μ5 eμ5 => ?_)
    refine v_aload hx DX12_tower_205 0 rfl ?_
    refine v_get hx DX12_tower_206 FLRX12_68 hR.o (v := .ref (ν + 3)) rfl ?_
    refine v_push hx DX12_tower_209 ?_
    refine v_iload hx DX12_tower_210 4 rfl ?_
    refine v_iastm hx DX12_tower_212 hR.u (by omega) (by decide) (fun μ6 eμ6 => ?_)
    refine v_aload hx DX12_tower_213 0 rfl ?_
    refine v_get hx DX12_tower_214 FLRX12_68 hR.o (v := .ref (ν + 3)) rfl ?_
    refine v_push hx DX12_tower_217 ?_
    refine v_iload hx DX12_tower_218 5 rfl ?_
    refine v_iastm hx DX12_tower_220 hR.u (by omega) (by decide) (fun μ7 eμ7 => ?_)
    have fr2 : FrN ν [ν + 3] [2] μ1 μ7 := by
      rw [eμ7, eμ6, eμ5, eμ4, eμ3]
      exact ((((FrN.wJ (by simp)).trans (FrN.wI (by simp) (by omega))).trans (FrN.wI (by simp) (by omega))).trans (FrN.wI (by simp) (by omega))).trans (FrN.wI (by simp) (by omega))
    refine v_iload hx DX12_tower_221 6 rfl ?_
    exact v_ri hx hBD DX12_tower_223 (⟨hz, Or.inr ⟨by omega, ⟨⟨ρ, ⟨ha.1.fr (by rw [eμ7, mI_ne (by omega), eμ6, mI_ne (by omega), eμ5, mI_ne (by omega), eμ4, mI_ne (by omega), eμ3, mI_ne (by omega), h183.2.1 _ (by omega) (by simp)]), tow_ok ha.2.1 k0 k1 k2 k3 k4, ha.2.2.1, fun j g0 g1 => by rw [eμ7, mI_at, eμ6, mI_at, eμ5, mI_at, eμ4, mI_at]; exact tw_at j g0 g1, by rw [eμ7, mI_ne (by omega), eμ6, mI_ne (by omega), eμ5, mI_ne (by omega), eμ4, mI_ne (by omega), eμ3, mI_at, if_pos (by omega)]; rfl, by rw [eμ7, mI_ne (by omega), eμ6, mI_ne (by omega), eμ5, mI_ne (by omega), eμ4, mI_ne (by omega), eμ3, mI_at, if_neg (by omega), h183.2.2.1 4 (by simp)]; exact ha.2.2.2.2.2⟩⟩, h183.1.frN (S := [ν + 3]) (J := [2]) fr2 (by simp) (by simp) (by simp)⟩, (h183.2.mono (by simp) (by simp)).trans (fr2.mono (by simp) (by simp))⟩⟩)
  have L165 : ∀ (q e : Int), (towOK κ a0 a1 a2 a3) → (q = mostI a1 a2 a3) → (e = bz (b.twr κ a0 a1 a2 a3)) → V G x (0, 0) Λ sz μ 165 [(0, .ref ν), (1, iv κ), (2, iv a0), (3, iv a1), (4, iv a2), (5, iv a3), (7, iv q), (8, iv e)] [] := by
    intro q e ok hq he
    obtain ⟨k0, k1, k2, k3, k4, k5⟩ := ok
    have ok : towOK κ a0 a1 a2 a3 := ⟨k0, k1, k2, k3, k4, k5⟩
    have er := bz_rng (b.twr κ a0 a1 a2 a3)
    have qr : 0 ≤ q ∧ q ≤ 3 := by rw [hq]; unfold mostI; split <;> (try split) <;> (try split) <;> omega
    refine v_iload hx DX12_tower_165 7 rfl ?_
    refine v_if_ne hx DX12_tower_167 (by omega) (fun c167 => ?_) (fun c167 => ?_)
    · skip
      refine v_push hx DX12_tower_179 ?_
      exact v_ri hx hBD DX12_tower_181 (⟨by unfold towA; rw [if1 ok, if1 (Or.inl (bz_one.mp (by omega)))], Or.inl ⟨by omega, rfl⟩⟩)
    · skip
      refine v_iload hx DX12_tower_170 1 rfl ?_
      refine v_if_eq hx DX12_tower_171 (by omega) (fun c171 => ?_) (fun c171 => ?_)
      · skip
        exact v_sub [0, 1, 2, 3, 4, 5, 6] _ rfl (L182 q ok hq (by unfold towA; rw [if1 ok, if0 (fun w => w.elim (fun w => by rw [bz_pos w] at he; omega) (fun w => by omega))]; exact hq))
      · skip
        refine v_iload hx DX12_tower_174 6 rfl ?_
        refine v_if_ne hx DX12_tower_176 (by omega) (fun c176 => ?_) (fun c176 => ?_)
        · skip
          exact v_sub [0, 1, 2, 3, 4, 5, 6] _ rfl (L182 q ok hq (by unfold towA; rw [if1 ok, if0 (fun w => w.elim (fun w => by rw [bz_pos w] at he; omega) (fun w => by omega))]; exact hq))
        · skip
          refine v_push hx DX12_tower_179 ?_
          exact v_ri hx hBD DX12_tower_181 (⟨by unfold towA; rw [if1 ok, if1 (Or.inr ⟨by omega, by omega⟩)], Or.inl ⟨by omega, rfl⟩⟩)
  have L108 : ∀ (q : Int), (towOK κ a0 a1 a2 a3) → (q = mostI a1 a2 a3) → V G x (0, 0) Λ sz μ 108 [(0, .ref ν), (1, iv κ), (2, iv a0), (3, iv a1), (4, iv a2), (5, iv a3), (7, iv q)] [] := by
    intro q ok hq
    obtain ⟨k0, k1, k2, k3, k4, k5⟩ := ok
    have ok : towOK κ a0 a1 a2 a3 := ⟨k0, k1, k2, k3, k4, k5⟩
    have qr : 0 ≤ q ∧ q ≤ 3 := by rw [hq]; unfold mostI; split <;> (try split) <;> (try split) <;> omega
    refine v_iload hx DX12_tower_108 1 rfl ?_
    refine v_aload hx DX12_tower_109 0 rfl ?_
    refine v_get hx DX12_tower_110 FLRX12_125 hR.o (fv_i rfl ha.2.2.2.2.1 : _ = iv b.2.2.1) ?_
    refine v_icmp_ne hx DX12_tower_113 (by omega) (by omega) (fun c113 => ?_) (fun c113 => ?_)
    · skip
      refine v_push hx DX12_tower_162 ?_
      refine v_istore hx DX12_tower_163 [(8, iv 0), (0, .ref ν), (1, iv κ), (2, iv a0), (3, iv a1), (4, iv a2), (5, iv a3), (7, iv q)] rfl (by decide) ?_
      exact v_sub [1, 2, 3, 4, 5, 6, 7, 0] _ rfl (L165 q 0 ok hq (bz_neg (fun w => by obtain ⟨w1, w2, w3, w4, w5⟩ := w; omega)).symm)
    · skip
      refine v_iload hx DX12_tower_116 2 rfl ?_
      refine v_aload hx DX12_tower_117 0 rfl ?_
      refine v_get hx DX12_tower_118 FLRX12_68 hR.o (v := .ref (ν + 3)) rfl ?_
      refine v_push hx DX12_tower_121 ?_
      refine v_iald hx DX12_tower_122 hR.u (by omega) (by decide) (z := b.2.1 0) (ha.2.2.2.1 0 (by omega) (by omega)) ?_
      refine v_icmp_ne hx DX12_tower_123 (by omega) (by omega) (fun c123 => ?_) (fun c123 => ?_)
      · skip
        refine v_push hx DX12_tower_162 ?_
        refine v_istore hx DX12_tower_163 [(8, iv 0), (0, .ref ν), (1, iv κ), (2, iv a0), (3, iv a1), (4, iv a2), (5, iv a3), (7, iv q)] rfl (by decide) ?_
        exact v_sub [1, 2, 3, 4, 5, 6, 7, 0] _ rfl (L165 q 0 ok hq (bz_neg (fun w => by obtain ⟨w1, w2, w3, w4, w5⟩ := w; omega)).symm)
      · skip
        refine v_iload hx DX12_tower_126 3 rfl ?_
        refine v_aload hx DX12_tower_127 0 rfl ?_
        refine v_get hx DX12_tower_128 FLRX12_68 hR.o (v := .ref (ν + 3)) rfl ?_
        refine v_push hx DX12_tower_131 ?_
        refine v_iald hx DX12_tower_132 hR.u (by omega) (by decide) (z := b.2.1 1) (ha.2.2.2.1 1 (by omega) (by omega)) ?_
        refine v_icmp_ne hx DX12_tower_133 (by omega) (by omega) (fun c133 => ?_) (fun c133 => ?_)
        · skip
          refine v_push hx DX12_tower_162 ?_
          refine v_istore hx DX12_tower_163 [(8, iv 0), (0, .ref ν), (1, iv κ), (2, iv a0), (3, iv a1), (4, iv a2), (5, iv a3), (7, iv q)] rfl (by decide) ?_
          exact v_sub [1, 2, 3, 4, 5, 6, 7, 0] _ rfl (L165 q 0 ok hq (bz_neg (fun w => by obtain ⟨w1, w2, w3, w4, w5⟩ := w; omega)).symm)
        · skip
          refine v_iload hx DX12_tower_136 4 rfl ?_
          refine v_aload hx DX12_tower_138 0 rfl ?_
          refine v_get hx DX12_tower_139 FLRX12_68 hR.o (v := .ref (ν + 3)) rfl ?_
          refine v_push hx DX12_tower_142 ?_
          refine v_iald hx DX12_tower_143 hR.u (by omega) (by decide) (z := b.2.1 2) (ha.2.2.2.1 2 (by omega) (by omega)) ?_
          refine v_icmp_ne hx DX12_tower_144 (by omega) (by omega) (fun c144 => ?_) (fun c144 => ?_)
          · skip
            refine v_push hx DX12_tower_162 ?_
            refine v_istore hx DX12_tower_163 [(8, iv 0), (0, .ref ν), (1, iv κ), (2, iv a0), (3, iv a1), (4, iv a2), (5, iv a3), (7, iv q)] rfl (by decide) ?_
            exact v_sub [1, 2, 3, 4, 5, 6, 7, 0] _ rfl (L165 q 0 ok hq (bz_neg (fun w => by obtain ⟨w1, w2, w3, w4, w5⟩ := w; omega)).symm)
          · skip
            refine v_iload hx DX12_tower_147 5 rfl ?_
            refine v_aload hx DX12_tower_149 0 rfl ?_
            refine v_get hx DX12_tower_150 FLRX12_68 hR.o (v := .ref (ν + 3)) rfl ?_
            refine v_push hx DX12_tower_153 ?_
            refine v_iald hx DX12_tower_154 hR.u (by omega) (by decide) (z := b.2.1 3) (ha.2.2.2.1 3 (by omega) (by omega)) ?_
            refine v_icmp_ne hx DX12_tower_155 (by omega) (by omega) (fun c155 => ?_) (fun c155 => ?_)
            · skip
              refine v_push hx DX12_tower_162 ?_
              refine v_istore hx DX12_tower_163 [(8, iv 0), (0, .ref ν), (1, iv κ), (2, iv a0), (3, iv a1), (4, iv a2), (5, iv a3), (7, iv q)] rfl (by decide) ?_
              exact v_sub [1, 2, 3, 4, 5, 6, 7, 0] _ rfl (L165 q 0 ok hq (bz_neg (fun w => by obtain ⟨w1, w2, w3, w4, w5⟩ := w; omega)).symm)
            · skip
              refine v_push hx DX12_tower_158 ?_
              refine v_goto hx DX12_tower_159 ?_
              refine v_istore hx DX12_tower_163 [(8, iv 1), (0, .ref ν), (1, iv κ), (2, iv a0), (3, iv a1), (4, iv a2), (5, iv a3), (7, iv q)] rfl (by decide) ?_
              exact v_sub [1, 2, 3, 4, 5, 6, 7, 0] _ rfl (L165 q 1 ok hq (bz_pos ⟨by omega, by omega, by omega, by omega, by omega⟩).symm)
  have L79 : (towOK κ a0 a1 a2 a3) → V G x (0, 0) Λ sz μ 79 [(0, .ref ν), (1, iv κ), (2, iv a0), (3, iv a1), (4, iv a2), (5, iv a3)] [] := by
    intro ok
    obtain ⟨k0, k1, k2, k3, k4, k5⟩ := ok
    have ok : towOK κ a0 a1 a2 a3 := ⟨k0, k1, k2, k3, k4, k5⟩
    refine v_iload hx DX12_tower_79 5 rfl ?_
    refine v_if_eq hx DX12_tower_81 (by omega) (fun c81 => ?_) (fun c81 => ?_)
    · skip
      refine v_iload hx DX12_tower_88 4 rfl ?_
      refine v_if_eq hx DX12_tower_90 (by omega) (fun c90 => ?_) (fun c90 => ?_)
      · skip
        refine v_iload hx DX12_tower_97 3 rfl ?_
        refine v_if_eq hx DX12_tower_98 (by omega) (fun c98 => ?_) (fun c98 => ?_)
        · skip
          refine v_push hx DX12_tower_105 ?_
          refine v_istore hx DX12_tower_106 [(7, iv 0), (0, .ref ν), (1, iv κ), (2, iv a0), (3, iv a1), (4, iv a2), (5, iv a3)] rfl (by decide) ?_
          exact v_sub [1, 2, 3, 4, 5, 6, 0] _ rfl (L108 0 ok (by unfold mostI; rw [if_neg (by omega), if_neg (by omega), if_neg (by omega)]))
        · skip
          refine v_push hx DX12_tower_101 ?_
          refine v_goto hx DX12_tower_102 ?_
          refine v_istore hx DX12_tower_106 [(7, iv 1), (0, .ref ν), (1, iv κ), (2, iv a0), (3, iv a1), (4, iv a2), (5, iv a3)] rfl (by decide) ?_
          exact v_sub [1, 2, 3, 4, 5, 6, 0] _ rfl (L108 1 ok (by unfold mostI; rw [if_neg (by omega), if_neg (by omega), if_pos (by omega)]))
      · skip
        refine v_push hx DX12_tower_93 ?_
        refine v_goto hx DX12_tower_94 ?_
        refine v_istore hx DX12_tower_106 [(7, iv 2), (0, .ref ν), (1, iv κ), (2, iv a0), (3, iv a1), (4, iv a2), (5, iv a3)] rfl (by decide) ?_
        exact v_sub [1, 2, 3, 4, 5, 6, 0] _ rfl (L108 2 ok (by unfold mostI; rw [if_neg (by omega), if_pos (by omega)]))
    · skip
      refine v_push hx DX12_tower_84 ?_
      refine v_goto hx DX12_tower_85 ?_
      refine v_istore hx DX12_tower_106 [(7, iv 3), (0, .ref ν), (1, iv κ), (2, iv a0), (3, iv a1), (4, iv a2), (5, iv a3)] rfl (by decide) ?_
      exact v_sub [1, 2, 3, 4, 5, 6, 0] _ rfl (L108 3 ok (by unfold mostI; rw [if_pos (by omega)]))
  refine v_iload hx DX12_tower_0 1 rfl ?_
  refine v_push hx DX12_tower_1 ?_
  refine v_push hx DX12_tower_2 ?_
  refine v_cSp hx DX12_tower_3 CSRX12_121 [iv κ, iv 0, iv 2] (r_in l G Λ sz μ (by omega) (by omega) (by omega)) rfl rfl (Nat.le_of_ble_eq_true rfl) (by decide) ⟨Nat.le_refl _, Nat.le_refl _⟩ ?_
  have br3 := bz_rng (0 ≤ κ ∧ κ ≤ 2)
  refine v_if_eq hx DX12_tower_6 (by omega) (fun c6 => ?_) (fun c6 => ?_)
  · skip
    have d6 := bzf c6
    have e0 : (-1 : Int) = towA b κ a0 a1 a2 a3 := (if0 (fun q => d6 q.1)).symm
    refine v_push hx DX12_tower_47 ?_
    refine v_istore hx DX12_tower_48 [(6, iv 0), (0, .ref ν), (1, iv κ), (2, iv a0), (3, iv a1), (4, iv a2), (5, iv a3)] rfl (by decide) ?_
    refine v_iload hx DX12_tower_50 0 rfl ?_
    refine v_if_eq hx DX12_tower_52 (by decide) (fun c52 => ?_) (fun c52 => ?_)
    · skip
      refine v_push hx DX12_tower_77 ?_
      exact v_ri hx hBD DX12_tower_78 (⟨e0, Or.inl ⟨by omega, rfl⟩⟩)
    · exact absurd c52 (by decide)
  · skip
    have d6 := bzt c6
    refine v_aload hx DX12_tower_9 0 rfl ?_
    refine v_iload hx DX12_tower_10 2 rfl ?_
    refine v_cVp hx DX12_tower_11 CVRX12_180 [iv a0] (r_numberOf l G Λ sz μ hR (by omega)) hR.o rfl rfl (Nat.le_of_ble_eq_true rfl) (by decide) ⟨Nat.le_refl _, Nat.le_refl _⟩ ?_
    refine v_if_lt hx DX12_tower_14 (by split <;> omega) (fun c14 => ?_) (fun c14 => ?_)
    · skip
      have n14 : ¬ (0 ≤ a0 ∧ a0 ≤ 100) := fun q => by rw [if_pos q] at c14; omega
      have e0 : (-1 : Int) = towA b κ a0 a1 a2 a3 := (if0 (fun q => by have := q.2; omega)).symm
      refine v_push hx DX12_tower_47 ?_
      refine v_istore hx DX12_tower_48 [(6, iv 0), (0, .ref ν), (1, iv κ), (2, iv a0), (3, iv a1), (4, iv a2), (5, iv a3)] rfl (by decide) ?_
      refine v_iload hx DX12_tower_50 0 rfl ?_
      refine v_if_eq hx DX12_tower_52 (by decide) (fun c52 => ?_) (fun c52 => ?_)
      · skip
        refine v_push hx DX12_tower_77 ?_
        exact v_ri hx hBD DX12_tower_78 (⟨e0, Or.inl ⟨by omega, rfl⟩⟩)
      · exact absurd c52 (by decide)
    · skip
      have n14 : 0 ≤ a0 ∧ a0 ≤ 100 := Classical.byContradiction (fun q => by rw [if_neg q] at c14; omega)
      refine v_aload hx DX12_tower_17 0 rfl ?_
      refine v_iload hx DX12_tower_18 3 rfl ?_
      refine v_cVp hx DX12_tower_19 CVRX12_180 [iv a1] (r_numberOf l G Λ sz μ hR (by omega)) hR.o rfl rfl (Nat.le_of_ble_eq_true rfl) (by decide) ⟨Nat.le_refl _, Nat.le_refl _⟩ ?_
      refine v_if_lt hx DX12_tower_22 (by split <;> omega) (fun c22 => ?_) (fun c22 => ?_)
      · skip
        have n22 : ¬ (0 ≤ a1 ∧ a1 ≤ 100) := fun q => by rw [if_pos q] at c22; omega
        have e0 : (-1 : Int) = towA b κ a0 a1 a2 a3 := (if0 (fun q => by have := q.2; omega)).symm
        refine v_push hx DX12_tower_47 ?_
        refine v_istore hx DX12_tower_48 [(6, iv 0), (0, .ref ν), (1, iv κ), (2, iv a0), (3, iv a1), (4, iv a2), (5, iv a3)] rfl (by decide) ?_
        refine v_iload hx DX12_tower_50 0 rfl ?_
        refine v_if_eq hx DX12_tower_52 (by decide) (fun c52 => ?_) (fun c52 => ?_)
        · skip
          refine v_push hx DX12_tower_77 ?_
          exact v_ri hx hBD DX12_tower_78 (⟨e0, Or.inl ⟨by omega, rfl⟩⟩)
        · exact absurd c52 (by decide)
      · skip
        have n22 : 0 ≤ a1 ∧ a1 ≤ 100 := Classical.byContradiction (fun q => by rw [if_neg q] at c22; omega)
        refine v_aload hx DX12_tower_25 0 rfl ?_
        refine v_iload hx DX12_tower_26 4 rfl ?_
        refine v_cVp hx DX12_tower_28 CVRX12_180 [iv a2] (r_numberOf l G Λ sz μ hR (by omega)) hR.o rfl rfl (Nat.le_of_ble_eq_true rfl) (by decide) ⟨Nat.le_refl _, Nat.le_refl _⟩ ?_
        refine v_if_lt hx DX12_tower_31 (by split <;> omega) (fun c31 => ?_) (fun c31 => ?_)
        · skip
          have n31 : ¬ (0 ≤ a2 ∧ a2 ≤ 100) := fun q => by rw [if_pos q] at c31; omega
          have e0 : (-1 : Int) = towA b κ a0 a1 a2 a3 := (if0 (fun q => by have := q.2; omega)).symm
          refine v_push hx DX12_tower_47 ?_
          refine v_istore hx DX12_tower_48 [(6, iv 0), (0, .ref ν), (1, iv κ), (2, iv a0), (3, iv a1), (4, iv a2), (5, iv a3)] rfl (by decide) ?_
          refine v_iload hx DX12_tower_50 0 rfl ?_
          refine v_if_eq hx DX12_tower_52 (by decide) (fun c52 => ?_) (fun c52 => ?_)
          · skip
            refine v_push hx DX12_tower_77 ?_
            exact v_ri hx hBD DX12_tower_78 (⟨e0, Or.inl ⟨by omega, rfl⟩⟩)
          · exact absurd c52 (by decide)
        · skip
          have n31 : 0 ≤ a2 ∧ a2 ≤ 100 := Classical.byContradiction (fun q => by rw [if_neg q] at c31; omega)
          refine v_aload hx DX12_tower_34 0 rfl ?_
          refine v_iload hx DX12_tower_35 5 rfl ?_
          refine v_cVp hx DX12_tower_37 CVRX12_180 [iv a3] (r_numberOf l G Λ sz μ hR (by omega)) hR.o rfl rfl (Nat.le_of_ble_eq_true rfl) (by decide) ⟨Nat.le_refl _, Nat.le_refl _⟩ ?_
          refine v_if_lt hx DX12_tower_40 (by split <;> omega) (fun c40 => ?_) (fun c40 => ?_)
          · skip
            have n40 : ¬ (0 ≤ a3 ∧ a3 ≤ 100) := fun q => by rw [if_pos q] at c40; omega
            have e0 : (-1 : Int) = towA b κ a0 a1 a2 a3 := (if0 (fun q => by have := q.2; omega)).symm
            refine v_push hx DX12_tower_47 ?_
            refine v_istore hx DX12_tower_48 [(6, iv 0), (0, .ref ν), (1, iv κ), (2, iv a0), (3, iv a1), (4, iv a2), (5, iv a3)] rfl (by decide) ?_
            refine v_iload hx DX12_tower_50 0 rfl ?_
            refine v_if_eq hx DX12_tower_52 (by decide) (fun c52 => ?_) (fun c52 => ?_)
            · skip
              refine v_push hx DX12_tower_77 ?_
              exact v_ri hx hBD DX12_tower_78 (⟨e0, Or.inl ⟨by omega, rfl⟩⟩)
            · exact absurd c52 (by decide)
          · skip
            have n40 : 0 ≤ a3 ∧ a3 ≤ 100 := Classical.byContradiction (fun q => by rw [if_neg q] at c40; omega)
            refine v_push hx DX12_tower_43 ?_
            refine v_goto hx DX12_tower_44 ?_
            refine v_istore hx DX12_tower_48 [(6, iv 1), (0, .ref ν), (1, iv κ), (2, iv a0), (3, iv a1), (4, iv a2), (5, iv a3)] rfl (by decide) ?_
            refine v_iload hx DX12_tower_50 0 rfl ?_
            refine v_if_eq hx DX12_tower_52 (by decide) (fun c52 => ?_) (fun c52 => ?_)
            · exact absurd c52 (by decide)
            · skip
              refine v_iload hx DX12_tower_55 2 rfl ?_
              refine v_if_ne hx DX12_tower_56 (by omega) (fun c56 => ?_) (fun c56 => ?_)
              · skip
                exact v_sub [1, 2, 3, 4, 5, 6] _ rfl (L79  ⟨by omega, by omega, by omega, by omega, by omega, by omega⟩)
              · skip
                refine v_iload hx DX12_tower_59 3 rfl ?_
                refine v_if_ne hx DX12_tower_60 (by omega) (fun c60 => ?_) (fun c60 => ?_)
                · skip
                  have e0 : (-1 : Int) = towA b κ a0 a1 a2 a3 := (if0 (fun q => by have := q.2.2.2.2.2; omega)).symm
                  refine v_push hx DX12_tower_77 ?_
                  exact v_ri hx hBD DX12_tower_78 (⟨e0, Or.inl ⟨by omega, rfl⟩⟩)
                · skip
                  refine v_iload hx DX12_tower_63 4 rfl ?_
                  refine v_if_ne hx DX12_tower_64 (by omega) (fun c64 => ?_) (fun c64 => ?_)
                  · skip
                    have e0 : (-1 : Int) = towA b κ a0 a1 a2 a3 := (if0 (fun q => by have := q.2.2.2.2.2; omega)).symm
                    refine v_push hx DX12_tower_77 ?_
                    exact v_ri hx hBD DX12_tower_78 (⟨e0, Or.inl ⟨by omega, rfl⟩⟩)
                  · skip
                    refine v_iload hx DX12_tower_67 5 rfl ?_
                    refine v_if_ne hx DX12_tower_69 (by omega) (fun c69 => ?_) (fun c69 => ?_)
                    · skip
                      have e0 : (-1 : Int) = towA b κ a0 a1 a2 a3 := (if0 (fun q => by have := q.2.2.2.2.2; omega)).symm
                      refine v_push hx DX12_tower_77 ?_
                      exact v_ri hx hBD DX12_tower_78 (⟨e0, Or.inl ⟨by omega, rfl⟩⟩)
                    · skip
                      refine v_iload hx DX12_tower_72 6 rfl ?_
                      refine v_if_eq hx DX12_tower_74 (by omega) (fun c74 => ?_) (fun c74 => ?_)
                      · skip
                        exact v_sub [1, 2, 3, 4, 5, 6] _ rfl (L79  ⟨by omega, by omega, by omega, by omega, by omega, by omega⟩)
                      · skip
                        have e0 : (-1 : Int) = towA b κ a0 a1 a2 a3 := (if0 (fun q => by have := q.2.2.2.2.2; omega)).symm
                        refine v_push hx DX12_tower_77 ?_
                        exact v_ri hx hBD DX12_tower_78 (⟨e0, Or.inl ⟨by omega, rfl⟩⟩)
