theorem fpw_step {a z : Int} {k : Nat} (h : z = ((fpw (fi a) k).val : Int)) : z * a % 101 = ((fpw (fi a) (k + 1)).val : Int) := by
  rw [← fi_val, fi_mul, h, fi_of]
  rfl
theorem der_lt96 {p : PS} (h : p.lt 96) : p.der.lt 95 := fun n hn => by
  show fi ((n : Int) + 1) * p (n + 1) = 0
  rw [h (n + 1) (by omega)]; grind
theorem r_in (l : Launch) (G : Gl) (Λ : Lay) (sz : Nat) (μ : Mem) {v a b : Int} (hv : inR v) (ha : inR a) (hb : inR b) : Sp l G yX12_in cX12_in 3 (some FieldType.boolean) 0 [iv v, iv a, iv b] Λ sz μ (pP μ (bz (a ≤ v ∧ v ≤ b))) := by
  refine Sp.intro (by decide) (Nat.le_of_ble_eq_true rfl) (fun x hx hBD => ?_)
  refine v_lv [(0, iv v), (1, iv a), (2, iv b)] rfl ?_
  refine v_iload hx DX12_in_0 0 rfl ?_
  refine v_iload hx DX12_in_1 1 rfl ?_
  refine v_icmp_lt hx DX12_in_2 (by omega) (by omega) (fun c2 => ?_) (fun c2 => ?_)
  · skip
    have e0 : (0 : Int) = bz (a ≤ v ∧ v ≤ b) := (bz_neg (fun q => by omega)).symm
    refine v_push hx DX12_in_14 ?_
    exact v_rz hx hBD (by omega) DX12_in_15 (⟨rfl, e0⟩)
  · skip
    refine v_iload hx DX12_in_5 0 rfl ?_
    refine v_iload hx DX12_in_6 2 rfl ?_
    refine v_icmp_gt hx DX12_in_7 (by omega) (by omega) (fun c7 => ?_) (fun c7 => ?_)
    · skip
      have e0 : (0 : Int) = bz (a ≤ v ∧ v ≤ b) := (bz_neg (fun q => by omega)).symm
      refine v_push hx DX12_in_14 ?_
      exact v_rz hx hBD (by omega) DX12_in_15 (⟨rfl, e0⟩)
    · skip
      have e0 : (1 : Int) = bz (a ≤ v ∧ v ≤ b) := (bz_pos (by omega)).symm
      refine v_push hx DX12_in_10 ?_
      refine v_goto hx DX12_in_11 ?_
      exact v_rz hx hBD (by omega) DX12_in_15 (⟨rfl, e0⟩)
theorem r_over (l : Launch) (G : Gl) (Λ : Lay) (sz : Nat) (μ : Mem) {v : Int} (hv : 0 ≤ v ∧ v ≤ 100) : Sp l G yX12_over cX12_over 3 (some FieldType.int) 0 [iv v] Λ sz μ (pP μ (ivI v)) := by
  refine Sp.intro (by decide) (Nat.le_of_ble_eq_true rfl) (fun x hx hBD => ?_)
  refine v_lv [(0, iv v)] rfl ?_
  have L4 : ∀ (nf : Nat) (k z : Int), (99 - k < (nf : Int)) → (0 ≤ k ∧ k ≤ 99) → (z = ((fpw (fi v) k.toNat).val : Int)) → V G x (0, 0) Λ sz μ 4 [(2, iv k), (1, iv z), (0, iv v)] [] := by
    intro nf
    induction nf with
    | zero => intro k z hm hk hz; exact absurd hm (by omega)
    | succ nf ih =>
      intro k z hm hk hz
      have hzr : 0 ≤ z ∧ z ≤ 100 := by have := (fpw (fi v) k.toNat).isLt; omega
      have hzm := mulb hzr.1 hzr.2 hv.1 hv.2
      refine v_iload hx DX12_over_4 0 rfl ?_
      refine v_push hx DX12_over_5 ?_
      refine v_icmp_ge hx DX12_over_7 (by omega) (by decide) (fun c7 => ?_) (fun c7 => ?_)
      · skip
        refine v_iload hx DX12_over_23 1 rfl ?_
        exact v_ri hx hBD DX12_over_24 (⟨rfl, by rw [hz, show k.toNat = 99 by omega]; rfl⟩)
      · skip
        refine v_iload hx DX12_over_10 1 rfl ?_
        refine v_iload hx DX12_over_11 2 rfl ?_
        refine v_imul hx DX12_over_12 ?_
        refine v_push hx DX12_over_13 ?_
        refine v_irem hx (by omega) (by decide) DX12_over_15 ?_
        refine v_istore hx DX12_over_16 [(1, iv ((z * v) % 101)), (2, iv k), (0, iv v)] rfl (by decide) ?_
        refine v_iinc hx DX12_over_17 1 rfl [(2, iv (k + 1)), (1, iv ((z * v) % 101)), (0, iv v)] rfl (by decide) ?_
        refine v_goto hx DX12_over_20 ?_
        exact v_sub [0, 1, 2] _ rfl (ih (k + 1) ((z * v) % 101) (by omega) (by omega) (by rw [show (k + 1).toNat = k.toNat + 1 by omega]; exact fpw_step hz))
  refine v_push hx DX12_over_0 ?_
  refine v_istore hx DX12_over_1 [(1, iv 1), (0, iv v)] rfl (by decide) ?_
  refine v_push hx DX12_over_2 ?_
  refine v_istore hx DX12_over_3 [(2, iv 0), (1, iv 1), (0, iv v)] rfl (by decide) ?_
  exact v_sub [0, 1, 2] _ rfl (L4 200 0 1 (by omega) (by omega) rfl)
theorem r_valueAt (l : Launch) (G : Gl) (Λ : Lay) (sz : Nat) (μ : Mem) {ν : Nat} {ρ : Nat → PS} {s : Nat} {v : Int} (hR : refK Λ ν) (hw : RW μ ν ρ) (hs : s < 154) (hv : 0 ≤ v ∧ v ≤ 100) : Sp l G yX12_valueAt cX12_valueAt 5 (some FieldType.int) 1 [.ref ν, iv (s : Int), iv v] Λ sz μ (pP μ (evI (ρ s) v 0)) := by
  refine Sp.intro (by decide) (Nat.le_of_ble_eq_true rfl) (fun x hx hBD => ?_)
  refine v_lv [(0, .ref ν), (1, iv (s : Int)), (2, iv v)] rfl ?_
  have hsz := PS.size_le (hw s hs).1
  have L9 : ∀ (nf : Nat) (k z : Int), (k + 1 < (nf : Int)) → (-1 ≤ k ∧ k < (ρ s).size) → (z = evI (ρ s) v (k + 1).toNat) → V G x (0, 0) Λ sz μ 9 [(4, iv k), (3, iv z), (0, .ref ν), (1, iv (s : Int)), (2, iv v)] [] := by
    intro nf
    induction nf with
    | zero => intro k z hm hk hz; exact absurd hm (by omega)
    | succ nf ih =>
      intro k z hm hk hz
      have hzr := evI_rng (ρ s) v (k + 1).toNat
      refine v_iload hx DX12_valueAt_9 0 rfl ?_
      refine v_if_lt hx DX12_valueAt_11 (by omega) (fun c11 => ?_) (fun c11 => ?_)
      · skip
        refine v_iload hx DX12_valueAt_40 1 rfl ?_
        exact v_ri hx hBD DX12_valueAt_41 (⟨rfl, by rw [hz, show (k + 1).toNat = 0 by omega]⟩)
      · skip
        refine v_iload hx DX12_valueAt_14 1 rfl ?_
        refine v_iload hx DX12_valueAt_15 4 rfl ?_
        refine v_imul hx DX12_valueAt_16 ?_
        refine v_aload hx DX12_valueAt_17 2 rfl ?_
        refine v_get hx DX12_valueAt_18 FLRX12_3 hR.o (v := .ref (ν + 1)) rfl ?_
        refine v_push hx DX12_valueAt_21 ?_
        refine v_iload hx DX12_valueAt_23 3 rfl ?_
        refine v_imul hx DX12_valueAt_24 ?_
        refine v_iload hx DX12_valueAt_25 0 rfl ?_
        refine v_iadd hx DX12_valueAt_27 ?_
        refine v_iald hx DX12_valueAt_28 hR.p (by omega) (by decide) (z := cf (ρ s) k) (hw.at hs (by omega) (by omega) rfl) ?_
        refine v_iadd hx DX12_valueAt_29 ?_
        refine v_push hx DX12_valueAt_30 ?_
        refine v_irem hx (by have h1 := cf_rng (ρ s) k; have h2 := mulb (a := z) (A := 100) (by omega) (by omega) hv.1 hv.2; omega) (by decide) DX12_valueAt_32 ?_
        refine v_istore hx DX12_valueAt_33 [(3, iv (((z * v) + (cf (ρ s) k)) % 101)), (4, iv k), (0, .ref ν), (1, iv (s : Int)), (2, iv v)] rfl (by decide) ?_
        refine v_iinc hx DX12_valueAt_34 1 rfl [(4, iv (k + (-1))), (3, iv (((z * v) + (cf (ρ s) k)) % 101)), (0, .ref ν), (1, iv (s : Int)), (2, iv v)] rfl (by decide) ?_
        refine v_goto hx DX12_valueAt_37 ?_
        exact v_sub [0, 1, 2, 3, 4] _ rfl (ih (k + (-1)) (((z * v) + (cf (ρ s) k)) % 101) (by omega) (by omega) (by rw [hz, show (k + 1).toNat = k.toNat + 1 by omega, show (k + (-1) + 1).toNat = k.toNat by omega]; exact evI_step (by omega) (fi_cf _ _)))
  refine v_push hx DX12_valueAt_0 ?_
  refine v_istore hx DX12_valueAt_1 [(3, iv 0), (0, .ref ν), (1, iv (s : Int)), (2, iv v)] rfl (by decide) ?_
  refine v_aload hx DX12_valueAt_2 1 rfl ?_
  refine v_iload hx DX12_valueAt_3 2 rfl ?_
  refine v_cVp hx DX12_valueAt_4 CVRX12_15 [iv (s : Int)] (r_degree l G Λ sz μ hR hw hs) hR.o rfl rfl (Nat.le_of_ble_eq_true rfl) (by decide) ⟨Nat.le_refl _, Nat.le_refl _⟩ ?_
  refine v_istore hx DX12_valueAt_7 [(4, iv (((ρ s).size : Int) - 1)), (3, iv 0), (0, .ref ν), (1, iv (s : Int)), (2, iv v)] rfl (by decide) ?_
  exact v_sub [0, 1, 2, 3, 4] _ rfl (L9 200 (((ρ s).size : Int) - 1) 0 (by omega) (by omega) (evI_zero (PS.lt_mono (PS.lt_size (hw s hs).1) (by omega))).symm)
theorem r_derives (l : Launch) (G : Gl) (Λ : Lay) (sz : Nat) (μ : Mem) {ν : Nat} {ρ : Nat → PS} {s t : Nat} (hR : refK Λ ν) (hw : RW μ ν ρ) (hs : s < 154) (ht : t < 154) : Sp l G yX12_derives cX12_derives 4 none 0 [.ref ν, iv (s : Int), iv (t : Int)] Λ sz μ (pV (fun μ' => RW μ' ν (up ρ s (ρ t).der) ∧ Fr [ν + 1] μ μ')) := by
  refine Sp.intro (by decide) (Nat.le_of_ble_eq_true rfl) (fun x hx hBD => ?_)
  refine v_lv [(0, .ref ν), (1, iv (s : Int)), (2, iv (t : Int))] rfl ?_
  have L2 : ∀ (nf : Nat) (k : Int) (m : Mem), (96 - k < (nf : Int)) → (0 ≤ k ∧ k ≤ 95) → (RW m ν (up ρ s ((ρ s).mix ((ρ t).der) k.toNat))) → (Fr [ν + 1] μ m) → V G x (0, 0) Λ sz m 2 [(3, iv k), (0, .ref ν), (1, iv (s : Int)), (2, iv (t : Int))] [] := by
    intro nf
    induction nf with
    | zero => intro k m hm hk hm hf; exact absurd hm (by omega)
    | succ nf ih =>
      intro k m hm hk hm hf
      refine v_iload hx DX12_derives_2 0 rfl ?_
      refine v_push hx DX12_derives_3 ?_
      refine v_icmp_ge hx DX12_derives_5 (by omega) (by decide) (fun c5 => ?_) (fun c5 => ?_)
      · skip
        refine v_aload hx DX12_derives_48 1 rfl ?_
        refine v_get hx DX12_derives_49 FLRX12_3 hR.o (v := .ref (ν + 1)) rfl ?_
        refine v_push hx DX12_derives_52 ?_
        refine v_iload hx DX12_derives_54 2 rfl ?_
        refine v_imul hx DX12_derives_55 ?_
        refine v_push hx DX12_derives_56 ?_
        refine v_iadd hx DX12_derives_58 ?_
        refine v_push hx DX12_derives_59 ?_
        refine v_isub hx DX12_derives_60 ?_
        refine v_push hx DX12_derives_61 ?_
        refine v_iastm hx DX12_derives_62 hR.p (by omega) (by decide) (fun μ1 eμ1 => ?_)
        exact v_rv hx hBD DX12_derives_63 (⟨by have hd := der_lt96 (hw t ht).1; have h2 := hm.step (z := 0) (by omega) (by omega) (cf_zero.mpr (hd k.toNat (by omega))).symm hs; rw [show (k + 1).toNat = 96 by omega] at h2; rw [eμ1, show (96 * (s : Int) + 96 - 1) = 96 * (s : Int) + k by omega]; exact h2.done (hw s hs).1 (PS.lt_mono hd (by omega)), hf.trans (by rw [eμ1]; exact Fr.mI (by simp))⟩)
      · skip
        refine v_aload hx DX12_derives_8 1 rfl ?_
        refine v_get hx DX12_derives_9 FLRX12_3 hR.o (v := .ref (ν + 1)) rfl ?_
        refine v_push hx DX12_derives_12 ?_
        refine v_iload hx DX12_derives_14 2 rfl ?_
        refine v_imul hx DX12_derives_15 ?_
        refine v_iload hx DX12_derives_16 0 rfl ?_
        refine v_iadd hx DX12_derives_17 ?_
        refine v_aload hx DX12_derives_18 1 rfl ?_
        refine v_get hx DX12_derives_19 FLRX12_3 hR.o (v := .ref (ν + 1)) rfl ?_
        refine v_push hx DX12_derives_22 ?_
        refine v_iload hx DX12_derives_24 3 rfl ?_
        refine v_imul hx DX12_derives_25 ?_
        refine v_iload hx DX12_derives_26 0 rfl ?_
        refine v_iadd hx DX12_derives_27 ?_
        refine v_push hx DX12_derives_28 ?_
        refine v_iadd hx DX12_derives_29 ?_
        refine v_iald hx DX12_derives_30 hR.p (by omega) (by decide) (z := cf (ρ t) (k + 1)) (by rw [show (96 * (t : Int) + k + 1) = 96 * (t : Int) + (k + 1) by omega]; exact hm.rd ht (by omega) (by omega) (by omega)) ?_
        refine v_iload hx DX12_derives_31 0 rfl ?_
        refine v_push hx DX12_derives_32 ?_
        refine v_iadd hx DX12_derives_33 ?_
        refine v_push hx DX12_derives_34 ?_
        refine v_irem hx (by omega) (by decide) DX12_derives_36 ?_
        refine v_imul hx DX12_derives_37 ?_
        refine v_push hx DX12_derives_38 ?_
        refine v_irem hx (by have h1 := cf_rng (ρ t) (k + 1); have h2 := mulb (a := cf (ρ t) (k + 1)) (b := (k + 1) % 101) (B := 100) h1.1 h1.2 (by omega) (by omega); omega) (by decide) DX12_derives_40 ?_
        refine v_iastm hx DX12_derives_41 hR.p (by omega) (by decide) (fun μ2 eμ2 => ?_)
        refine v_iinc hx DX12_derives_42 0 rfl [(3, iv (k + 1)), (0, .ref ν), (1, iv (s : Int)), (2, iv (t : Int))] rfl (by decide) ?_
        refine v_goto hx DX12_derives_45 ?_
        exact v_sub [0, 1, 2, 3] _ rfl (ih (k + 1) μ2 (by omega) (by omega) (by rw [eμ2]; exact hm.step (by omega) (by omega) (by refine cf_mod ?_; rw [fi_mul, fi_mod, fi_cf, show (k + 1).toNat = k.toNat + 1 by omega, F_comm]; unfold PS.der; rw [Int.toNat_of_nonneg (by omega)]) hs) (hf.trans (by rw [eμ2]; exact Fr.mI (by simp))))
  refine v_push hx DX12_derives_0 ?_
  refine v_istore hx DX12_derives_1 [(3, iv 0), (0, .ref ν), (1, iv (s : Int)), (2, iv (t : Int))] rfl (by decide) ?_
  exact v_sub [0, 1, 2, 3] _ rfl (L2 100 0 μ (by omega) (by omega) (hw.start s ((ρ t).der)) Fr.rf)
