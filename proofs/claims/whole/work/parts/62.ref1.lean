theorem F_comm (a b : F) : a * b = b * a := by grind
theorem C_set (c : F) : PS.zero.set 0 c = PS.C c := PS.ext fun n => by
  unfold PS.set PS.C
  split <;> rfl
theorem mix_self {P : PS} {k : Nat} : P.mix P k = P := PS.ext fun n => by unfold PS.mix; split <;> rfl
theorem tmod_emod (v : Int) : (0 ≤ v → v.tmod 101 = v % 101) ∧ (v < 0 → (v.tmod 101 = 0 ∧ v % 101 = 0) ∨ (-101 < v.tmod 101 ∧ v.tmod 101 < 0 ∧ v.tmod 101 + 101 = v % 101)) := by
  refine ⟨fun h => Int.tmod_eq_emod_of_nonneg h, fun h => ?_⟩
  have e : v.tmod 101 = -((-v) % 101) := by
    rw [← Int.tmod_eq_emod_of_nonneg (show 0 ≤ -v by omega), Int.neg_tmod, Int.neg_neg]
  omega
theorem tmod_rng (v : Int) : -101 < v.tmod 101 ∧ v.tmod 101 < 101 := by
  have := tmod_emod v
  by_cases h : 0 ≤ v
  · rw [this.1 h]; omega
  · have := this.2 (by omega); omega
theorem r_mod (l : Launch) (G : Gl) (Λ : Lay) (sz : Nat) (μ : Mem) {v : Int} (hv : inR v) : Sp l G yX12_mod cX12_mod 2 (some FieldType.int) 0 [iv v] Λ sz μ (pP μ (v % 101)) := by
  refine Sp.intro (by decide) (Nat.le_of_ble_eq_true rfl) (fun x hx hBD => ?_)
  refine v_lv [(0, iv v)] rfl ?_
  refine v_iload hx DX12_mod_0 0 rfl ?_
  refine v_push hx DX12_mod_1 ?_
  refine v_iremT hx (by omega) (by decide) (by decide) DX12_mod_3 ?_
  refine v_top (z' := v.tmod 101) rfl ?_
  refine v_istore hx DX12_mod_4 [(1, iv (v.tmod 101)), (0, iv v)] rfl (by decide) ?_
  refine v_iload hx DX12_mod_5 0 rfl ?_
  refine v_if_ge hx DX12_mod_6 (by have := tmod_rng v; omega) (fun c6 => ?_) (fun c6 => ?_)
  · skip
    refine v_iload hx DX12_mod_16 0 rfl ?_
    exact v_ri hx hBD DX12_mod_17 (⟨rfl, by have := tmod_emod v; omega⟩)
  · skip
    refine v_iload hx DX12_mod_9 0 rfl ?_
    refine v_push hx DX12_mod_10 ?_
    refine v_iadd hx DX12_mod_12 ?_
    refine v_goto hx DX12_mod_13 ?_
    exact v_ri hx hBD DX12_mod_17 (⟨rfl, by have := tmod_emod v; omega⟩)
theorem r_zero (l : Launch) (G : Gl) (Λ : Lay) (sz : Nat) (μ : Mem) {ν : Nat} {ρ : Nat → PS} {s : Nat} (hR : refK Λ ν) (hw : RW μ ν ρ) (hs : s < 154) : Sp l G yX12_zero cX12_zero 3 none 0 [.ref ν, iv (s : Int)] Λ sz μ (pV (fun μ' => RW μ' ν (up ρ s PS.zero) ∧ Fr [ν + 1] μ μ')) := by
  refine Sp.intro (by decide) (Nat.le_of_ble_eq_true rfl) (fun x hx hBD => ?_)
  refine v_lv [(0, .ref ν), (1, iv (s : Int))] rfl ?_
  have L2 : ∀ (nf : Nat) (k : Int) (m : Mem), (96 - k < (nf : Int)) → (0 ≤ k ∧ k ≤ 96) → (RW m ν (up ρ s ((ρ s).mix (PS.zero) k.toNat))) → (Fr [ν + 1] μ m) → V G x (0, 0) Λ sz m 2 [(2, iv k), (0, .ref ν), (1, iv (s : Int))] [] := by
    intro nf
    induction nf with
    | zero => intro k m hm hk hm hf; exact absurd hm (by omega)
    | succ nf ih =>
      intro k m hm hk hm hf
      refine v_iload hx DX12_zero_2 0 rfl ?_
      refine v_push hx DX12_zero_3 ?_
      refine v_icmp_ge hx DX12_zero_5 (by omega) (by decide) (fun c5 => ?_) (fun c5 => ?_)
      · skip
        exact v_rv hx hBD DX12_zero_26 (⟨by have h2 := hm; rw [show k.toNat = 96 by omega] at h2; exact h2.done (hw s hs).1 (PS.zero_lt _), hf⟩)
      · skip
        refine v_aload hx DX12_zero_8 1 rfl ?_
        refine v_get hx DX12_zero_9 FLRX12_3 hR.o (v := .ref (ν + 1)) rfl ?_
        refine v_push hx DX12_zero_12 ?_
        refine v_iload hx DX12_zero_14 2 rfl ?_
        refine v_imul hx DX12_zero_15 ?_
        refine v_iload hx DX12_zero_16 0 rfl ?_
        refine v_iadd hx DX12_zero_17 ?_
        refine v_push hx DX12_zero_18 ?_
        refine v_iastm hx DX12_zero_19 hR.p (by omega) (by decide) (fun μ1 eμ1 => ?_)
        refine v_iinc hx DX12_zero_20 0 rfl [(2, iv (k + 1)), (0, .ref ν), (1, iv (s : Int))] rfl (by decide) ?_
        refine v_goto hx DX12_zero_23 ?_
        exact v_sub [0, 1, 2] _ rfl (ih (k + 1) μ1 (by omega) (by omega) (by rw [eμ1]; exact hm.step (by omega) (by omega) (cf_zero.mpr rfl).symm hs) (hf.trans (by rw [eμ1]; exact Fr.mI (by simp))))
  refine v_push hx DX12_zero_0 ?_
  refine v_istore hx DX12_zero_1 [(2, iv 0), (0, .ref ν), (1, iv (s : Int))] rfl (by decide) ?_
  exact v_sub [0, 1, 2] _ rfl (L2 100 0 μ (by omega) (by omega) (hw.start s (PS.zero)) Fr.rf)
theorem r_lays (l : Launch) (G : Gl) (Λ : Lay) (sz : Nat) (μ : Mem) {ν : Nat} {ρ : Nat → PS} {s t : Nat} (hR : refK Λ ν) (hw : RW μ ν ρ) (hs : s < 154) (ht : t < 154) : Sp l G yX12_lays cX12_lays 4 none 0 [.ref ν, iv (s : Int), iv (t : Int)] Λ sz μ (pV (fun μ' => RW μ' ν (up ρ s (ρ t)) ∧ Fr [ν + 1] μ μ')) := by
  refine Sp.intro (by decide) (Nat.le_of_ble_eq_true rfl) (fun x hx hBD => ?_)
  refine v_lv [(0, .ref ν), (1, iv (s : Int)), (2, iv (t : Int))] rfl ?_
  have L2 : ∀ (nf : Nat) (k : Int) (m : Mem), (96 - k < (nf : Int)) → (0 ≤ k ∧ k ≤ 96) → (RW m ν (up ρ s ((ρ s).mix (ρ t) k.toNat))) → (Fr [ν + 1] μ m) → V G x (0, 0) Λ sz m 2 [(3, iv k), (0, .ref ν), (1, iv (s : Int)), (2, iv (t : Int))] [] := by
    intro nf
    induction nf with
    | zero => intro k m hm hk hm hf; exact absurd hm (by omega)
    | succ nf ih =>
      intro k m hm hk hm hf
      refine v_iload hx DX12_lays_2 0 rfl ?_
      refine v_push hx DX12_lays_3 ?_
      refine v_icmp_ge hx DX12_lays_5 (by omega) (by decide) (fun c5 => ?_) (fun c5 => ?_)
      · skip
        exact v_rv hx hBD DX12_lays_36 (⟨by have h2 := hm; rw [show k.toNat = 96 by omega] at h2; exact h2.done (hw s hs).1 (hw t ht).1, hf⟩)
      · skip
        refine v_aload hx DX12_lays_8 1 rfl ?_
        refine v_get hx DX12_lays_9 FLRX12_3 hR.o (v := .ref (ν + 1)) rfl ?_
        refine v_push hx DX12_lays_12 ?_
        refine v_iload hx DX12_lays_14 2 rfl ?_
        refine v_imul hx DX12_lays_15 ?_
        refine v_iload hx DX12_lays_16 0 rfl ?_
        refine v_iadd hx DX12_lays_17 ?_
        refine v_aload hx DX12_lays_18 1 rfl ?_
        refine v_get hx DX12_lays_19 FLRX12_3 hR.o (v := .ref (ν + 1)) rfl ?_
        refine v_push hx DX12_lays_22 ?_
        refine v_iload hx DX12_lays_24 3 rfl ?_
        refine v_imul hx DX12_lays_25 ?_
        refine v_iload hx DX12_lays_26 0 rfl ?_
        refine v_iadd hx DX12_lays_27 ?_
        refine v_iald hx DX12_lays_28 hR.p (by omega) (by decide) (z := cf (ρ t) k) (hm.rd ht (by omega) (by omega) (by omega)) ?_
        refine v_iastm hx DX12_lays_29 hR.p (by omega) (by decide) (fun μ1 eμ1 => ?_)
        refine v_iinc hx DX12_lays_30 0 rfl [(3, iv (k + 1)), (0, .ref ν), (1, iv (s : Int)), (2, iv (t : Int))] rfl (by decide) ?_
        refine v_goto hx DX12_lays_33 ?_
        exact v_sub [0, 1, 2, 3] _ rfl (ih (k + 1) μ1 (by omega) (by omega) (by rw [eμ1]; exact hm.step (by omega) (by omega) rfl hs) (hf.trans (by rw [eμ1]; exact Fr.mI (by simp))))
  refine v_push hx DX12_lays_0 ?_
  refine v_istore hx DX12_lays_1 [(3, iv 0), (0, .ref ν), (1, iv (s : Int)), (2, iv (t : Int))] rfl (by decide) ?_
  exact v_sub [0, 1, 2, 3] _ rfl (L2 100 0 μ (by omega) (by omega) (hw.start s (ρ t)) Fr.rf)
theorem r_degree (l : Launch) (G : Gl) (Λ : Lay) (sz : Nat) (μ : Mem) {ν : Nat} {ρ : Nat → PS} {s : Nat} (hR : refK Λ ν) (hw : RW μ ν ρ) (hs : s < 154) : Sp l G yX12_degree cX12_degree 3 (some FieldType.int) 0 [.ref ν, iv (s : Int)] Λ sz μ (pP μ (((ρ s).size : Int) - 1)) := by
  refine Sp.intro (by decide) (Nat.le_of_ble_eq_true rfl) (fun x hx hBD => ?_)
  refine v_lv [(0, .ref ν), (1, iv (s : Int))] rfl ?_
  have L3 : ∀ (nf : Nat) (k : Int), (k + 1 < (nf : Int)) → (-1 ≤ k ∧ k < 96) → (∀ j : Nat, k < (j : Int) → ρ s j = 0) → V G x (0, 0) Λ sz μ 3 [(2, iv k), (0, .ref ν), (1, iv (s : Int))] [] := by
    intro nf
    induction nf with
    | zero => intro k hm hk hz; exact absurd hm (by omega)
    | succ nf ih =>
      intro k hm hk hz
      refine v_iload hx DX12_degree_3 0 rfl ?_
      refine v_if_lt hx DX12_degree_4 (by omega) (fun c4 => ?_) (fun c4 => ?_)
      · skip
        have e0 : k = ((ρ s).size : Int) - 1 := by
          have : (ρ s).size = 0 := PS.size_eq ⟨Or.inl rfl, fun j _ => hz j (by omega)⟩
          omega
        refine v_iload hx DX12_degree_27 0 rfl ?_
        exact v_ri hx hBD DX12_degree_28 (⟨rfl, e0⟩)
      · skip
        refine v_aload hx DX12_degree_7 1 rfl ?_
        refine v_get hx DX12_degree_8 FLRX12_3 hR.o (v := .ref (ν + 1)) rfl ?_
        refine v_push hx DX12_degree_11 ?_
        refine v_iload hx DX12_degree_13 2 rfl ?_
        refine v_imul hx DX12_degree_14 ?_
        refine v_iload hx DX12_degree_15 0 rfl ?_
        refine v_iadd hx DX12_degree_16 ?_
        refine v_iald hx DX12_degree_17 hR.p (by omega) (by decide) (z := cf (ρ s) k) (hw.at hs (by omega) (by omega) rfl) ?_
        refine v_if_ne hx DX12_degree_18 (by have := cf_rng (ρ s) k; omega) (fun c18 => ?_) (fun c18 => ?_)
        · skip
          have e0 : k = ((ρ s).size : Int) - 1 := by
            have : (ρ s).size = k.toNat + 1 := PS.size_eq ⟨Or.inr (fun q => c18 (cf_zero.mpr q)), fun j hj => hz j (by omega)⟩
            omega
          refine v_iload hx DX12_degree_27 0 rfl ?_
          exact v_ri hx hBD DX12_degree_28 (⟨rfl, e0⟩)
        · skip
          refine v_iinc hx DX12_degree_21 0 rfl [(2, iv (k + (-1))), (0, .ref ν), (1, iv (s : Int))] rfl (by decide) ?_
          refine v_goto hx DX12_degree_24 ?_
          exact v_sub [0, 1, 2] _ rfl (ih (k + (-1)) (by omega) (by omega) (fun j hj => (Int.lt_or_le k j).elim (hz j) (fun q => (show k.toNat = j by omega) ▸ (cf_zero.mp c18))))
  refine v_push hx DX12_degree_0 ?_
  refine v_istore hx DX12_degree_2 [(2, iv 95), (0, .ref ν), (1, iv (s : Int))] rfl (by decide) ?_
  exact v_sub [0, 1, 2] _ rfl (L3 100 95 (by omega) (by omega) (fun j hj => (hw s hs).1 j (by omega)))
theorem r_at (l : Launch) (G : Gl) (Λ : Lay) (sz : Nat) (μ : Mem) {ν : Nat} {ρ : Nat → PS} {s : Nat} {k : Int} (hR : refK Λ ν) (hw : RW μ ν ρ) (hs : s < 154) (hk : inR k) : Sp l G yX12_at cX12_at 3 (some FieldType.int) 0 [.ref ν, iv (s : Int), iv k] Λ sz μ (pP μ (ca (ρ s) k)) := by
  refine Sp.intro (by decide) (Nat.le_of_ble_eq_true rfl) (fun x hx hBD => ?_)
  refine v_lv [(0, .ref ν), (1, iv (s : Int)), (2, iv k)] rfl ?_
  refine v_iload hx DX12_at_0 2 rfl ?_
  refine v_if_lt hx DX12_at_1 (by omega) (fun c1 => ?_) (fun c1 => ?_)
  · skip
    have e0 : (0 : Int) = ca (ρ s) k := by unfold ca; rw [if_pos c1]
    refine v_push hx DX12_at_24 ?_
    exact v_ri hx hBD DX12_at_25 (⟨rfl, e0⟩)
  · skip
    refine v_iload hx DX12_at_4 2 rfl ?_
    refine v_push hx DX12_at_5 ?_
    refine v_icmp_ge hx DX12_at_7 (by omega) (by decide) (fun c7 => ?_) (fun c7 => ?_)
    · skip
      have e0 : (0 : Int) = ca (ρ s) k := by rw [ca_of (by omega)]; exact (cf_zero.mpr ((hw s hs).1 _ (by omega))).symm
      refine v_push hx DX12_at_24 ?_
      exact v_ri hx hBD DX12_at_25 (⟨rfl, e0⟩)
    · skip
      have e0 : ca (ρ s) k = ca (ρ s) k := rfl
      refine v_aload hx DX12_at_10 0 rfl ?_
      refine v_get hx DX12_at_11 FLRX12_3 hR.o (v := .ref (ν + 1)) rfl ?_
      refine v_push hx DX12_at_14 ?_
      refine v_iload hx DX12_at_16 1 rfl ?_
      refine v_imul hx DX12_at_17 ?_
      refine v_iload hx DX12_at_18 2 rfl ?_
      refine v_iadd hx DX12_at_19 ?_
      refine v_iald hx DX12_at_20 hR.p (by omega) (by decide) (z := ca (ρ s) k) (by rw [ca_of (by omega)]; exact hw.at hs (by omega) (by omega) rfl) ?_
      refine v_goto hx DX12_at_21 ?_
      exact v_ri hx hBD DX12_at_25 (⟨rfl, e0⟩)
theorem r_number (l : Launch) (G : Gl) (Λ : Lay) (sz : Nat) (μ : Mem) {ν : Nat} {ρ : Nat → PS} {s : Nat} {v : Int} (hR : refK Λ ν) (hw : RW μ ν ρ) (hs : s < 154) (hv : inR v) : Sp l G yX12_number cX12_number 3 none 1 [.ref ν, iv (s : Int), iv v] Λ sz μ (pV (fun μ' => RW μ' ν (up ρ s (PS.C (fi v))) ∧ Fr [ν + 1] μ μ')) := by
  refine Sp.intro (by decide) (Nat.le_of_ble_eq_true rfl) (fun x hx hBD => ?_)
  refine v_lv [(0, .ref ν), (1, iv (s : Int)), (2, iv v)] rfl ?_
  refine v_aload hx DX12_number_0 0 rfl ?_
  refine v_iload hx DX12_number_1 1 rfl ?_
  refine v_cVv hx DX12_number_2 CVRX12_7 [iv (s : Int)] (r_zero l G Λ sz μ hR hw hs) hR.o rfl rfl (Nat.le_of_ble_eq_true rfl) (by decide) ⟨Nat.le_refl _, Nat.le_refl _⟩ (fun μ1 hμ1 => ?_)
  refine v_aload hx DX12_number_5 0 rfl ?_
  refine v_get hx DX12_number_6 FLRX12_3 hR.o (v := .ref (ν + 1)) rfl ?_
  refine v_push hx DX12_number_9 ?_
  refine v_iload hx DX12_number_11 1 rfl ?_
  refine v_imul hx DX12_number_12 ?_
  refine v_iload hx DX12_number_13 2 rfl ?_
  refine v_cSp hx DX12_number_14 CSRX12_11 [iv v] (r_mod l G Λ sz μ1 hv) rfl rfl (Nat.le_of_ble_eq_true rfl) (by decide) ⟨Nat.le_refl _, Nat.le_refl _⟩ ?_
  refine v_iastm hx DX12_number_17 hR.p (by omega) (by decide) (fun μ5 eμ5 => ?_)
  exact v_rv hx hBD DX12_number_18 (⟨by rw [eμ5]; have h2 := hμ1.1.put (k := 0) (z := v % 101) (c := fi v) (by omega) (by omega) (fi_val v).symm hs; rw [Int.add_zero] at h2; rw [← C_set]; exact h2, hμ1.2.trans (by rw [eμ5]; exact Fr.mI (by simp))⟩)
theorem r_head (l : Launch) (G : Gl) (Λ : Lay) (sz : Nat) (μ : Mem) {ν : Nat} {ρ : Nat → PS} {s : Nat} (hR : refK Λ ν) (hw : RW μ ν ρ) (hs : s < 154) : Sp l G yX12_head cX12_head 3 (some FieldType.int) 1 [.ref ν, iv (s : Int)] Λ sz μ (pP μ (hdI (ρ s))) := by
  refine Sp.intro (by decide) (Nat.le_of_ble_eq_true rfl) (fun x hx hBD => ?_)
  refine v_lv [(0, .ref ν), (1, iv (s : Int))] rfl ?_
  have hsz := PS.size_le (hw s hs).1
  refine v_aload hx DX12_head_0 0 rfl ?_
  refine v_iload hx DX12_head_1 1 rfl ?_
  refine v_cVp hx DX12_head_2 CVRX12_15 [iv (s : Int)] (r_degree l G Λ sz μ hR hw hs) hR.o rfl rfl (Nat.le_of_ble_eq_true rfl) (by decide) ⟨Nat.le_refl _, Nat.le_refl _⟩ ?_
  refine v_istore hx DX12_head_5 [(2, iv (((ρ s).size : Int) - 1)), (0, .ref ν), (1, iv (s : Int))] rfl (by decide) ?_
  refine v_iload hx DX12_head_6 0 rfl ?_
  refine v_if_ge hx DX12_head_7 (by omega) (fun c7 => ?_) (fun c7 => ?_)
  · skip
    have e0 : cf (ρ s) (((ρ s).size : Int) - 1) = hdI (ρ s) := by unfold hdI; rw [if_neg (by omega)]
    refine v_aload hx DX12_head_14 1 rfl ?_
    refine v_get hx DX12_head_15 FLRX12_3 hR.o (v := .ref (ν + 1)) rfl ?_
    refine v_push hx DX12_head_18 ?_
    refine v_iload hx DX12_head_20 2 rfl ?_
    refine v_imul hx DX12_head_21 ?_
    refine v_iload hx DX12_head_22 0 rfl ?_
    refine v_iadd hx DX12_head_23 ?_
    refine v_iald hx DX12_head_24 hR.p (by omega) (by decide) (z := cf (ρ s) (((ρ s).size : Int) - 1)) (hw.at hs (by omega) (by omega) rfl) ?_
    exact v_ri hx hBD DX12_head_25 (⟨rfl, e0⟩)
  · skip
    have e0 : (0 : Int) = hdI (ρ s) := by unfold hdI; rw [if_pos (by omega)]
    refine v_push hx DX12_head_10 ?_
    refine v_goto hx DX12_head_11 ?_
    exact v_ri hx hBD DX12_head_25 (⟨rfl, e0⟩)
theorem r_scale (l : Launch) (G : Gl) (Λ : Lay) (sz : Nat) (μ : Mem) {ν : Nat} {ρ : Nat → PS} {s : Nat} {v : Int} (hR : refK Λ ν) (hw : RW μ ν ρ) (hs : s < 154) (hv : inR v) : Sp l G yX12_scale cX12_scale 4 none 1 [.ref ν, iv (s : Int), iv v] Λ sz μ (pV (fun μ' => RW μ' ν (up ρ s ((ρ s).sm (fi v))) ∧ Fr [ν + 1] μ μ')) := by
  refine Sp.intro (by decide) (Nat.le_of_ble_eq_true rfl) (fun x hx hBD => ?_)
  refine v_lv [(0, .ref ν), (1, iv (s : Int)), (2, iv v)] rfl ?_
  have L2 : ∀ (nf : Nat) (k : Int) (m : Mem), (96 - k < (nf : Int)) → (0 ≤ k ∧ k ≤ 96) → (RW m ν (up ρ s ((ρ s).mix ((ρ s).sm (fi v)) k.toNat))) → (Fr [ν + 1] μ m) → V G x (0, 0) Λ sz m 2 [(3, iv k), (0, .ref ν), (1, iv (s : Int)), (2, iv v)] [] := by
    intro nf
    induction nf with
    | zero => intro k m hm hk hm hf; exact absurd hm (by omega)
    | succ nf ih =>
      intro k m hm hk hm hf
      refine v_iload hx DX12_scale_2 0 rfl ?_
      refine v_push hx DX12_scale_3 ?_
      refine v_icmp_ge hx DX12_scale_5 (by omega) (by decide) (fun c5 => ?_) (fun c5 => ?_)
      · skip
        exact v_rv hx hBD DX12_scale_44 (⟨by have h2 := hm; rw [show k.toNat = 96 by omega] at h2; exact h2.done (hw s hs).1 (PS.lt_sm _ (hw s hs).1), hf⟩)
      · skip
        refine v_aload hx DX12_scale_8 1 rfl ?_
        refine v_get hx DX12_scale_9 FLRX12_3 hR.o (v := .ref (ν + 1)) rfl ?_
        refine v_push hx DX12_scale_12 ?_
        refine v_iload hx DX12_scale_14 2 rfl ?_
        refine v_imul hx DX12_scale_15 ?_
        refine v_iload hx DX12_scale_16 0 rfl ?_
        refine v_iadd hx DX12_scale_17 ?_
        refine v_aload hx DX12_scale_18 1 rfl ?_
        refine v_get hx DX12_scale_19 FLRX12_3 hR.o (v := .ref (ν + 1)) rfl ?_
        refine v_push hx DX12_scale_22 ?_
        refine v_iload hx DX12_scale_24 2 rfl ?_
        refine v_imul hx DX12_scale_25 ?_
        refine v_iload hx DX12_scale_26 0 rfl ?_
        refine v_iadd hx DX12_scale_27 ?_
        refine v_iald hx DX12_scale_28 hR.p (by omega) (by decide) (z := cf (ρ s) k) (hm.rd hs (by omega) (by omega) (by omega)) ?_
        refine v_iload hx DX12_scale_29 3 rfl ?_
        refine v_cSp hx DX12_scale_30 CSRX12_11 [iv v] (r_mod l G Λ sz m hv) rfl rfl (Nat.le_of_ble_eq_true rfl) (by decide) ⟨Nat.le_refl _, Nat.le_refl _⟩ ?_
        refine v_imul hx DX12_scale_33 ?_
        refine v_push hx DX12_scale_34 ?_
        refine v_irem hx (by have h1 := cf_rng (ρ s) k; have h2 := mulb (a := cf (ρ s) k) (b := v % 101) (B := 100) h1.1 h1.2 (by omega) (by omega); omega) (by decide) DX12_scale_36 ?_
        refine v_iastm hx DX12_scale_37 hR.p (by omega) (by decide) (fun μ3 eμ3 => ?_)
        refine v_iinc hx DX12_scale_38 0 rfl [(3, iv (k + 1)), (0, .ref ν), (1, iv (s : Int)), (2, iv v)] rfl (by decide) ?_
        refine v_goto hx DX12_scale_41 ?_
        exact v_sub [0, 1, 2, 3] _ rfl (ih (k + 1) μ3 (by omega) (by omega) (by rw [eμ3]; exact hm.step (by omega) (by omega) (by refine cf_mod ?_; rw [fi_mul, fi_cf, fi_mod]; exact F_comm _ _) hs) (hf.trans (by rw [eμ3]; exact Fr.mI (by simp))))
  refine v_push hx DX12_scale_0 ?_
  refine v_istore hx DX12_scale_1 [(3, iv 0), (0, .ref ν), (1, iv (s : Int)), (2, iv v)] rfl (by decide) ?_
  exact v_sub [0, 1, 2, 3] _ rfl (L2 100 0 μ (by omega) (by omega) (hw.start s ((ρ s).sm (fi v))) Fr.rf)
theorem r_adds (l : Launch) (G : Gl) (Λ : Lay) (sz : Nat) (μ : Mem) {ν : Nat} {ρ : Nat → PS} {s t : Nat} {v : Int} (hR : refK Λ ν) (hw : RW μ ν ρ) (hs : s < 154) (ht : t < 154) (hv : inR v) : Sp l G yX12_adds cX12_adds 5 none 1 [.ref ν, iv (s : Int), iv (t : Int), iv v] Λ sz μ (pV (fun μ' => RW μ' ν (up ρ s ((ρ s).add ((ρ t).sm (fi v)))) ∧ Fr [ν + 1] μ μ')) := by
  refine Sp.intro (by decide) (Nat.le_of_ble_eq_true rfl) (fun x hx hBD => ?_)
  refine v_lv [(0, .ref ν), (1, iv (s : Int)), (2, iv (t : Int)), (3, iv v)] rfl ?_
  have L3 : ∀ (nf : Nat) (k : Int) (m : Mem), (96 - k < (nf : Int)) → (0 ≤ k ∧ k ≤ 96) → (RW m ν (up ρ s ((ρ s).mix ((ρ s).add ((ρ t).sm (fi v))) k.toNat))) → (Fr [ν + 1] μ m) → V G x (0, 0) Λ sz m 3 [(4, iv k), (0, .ref ν), (1, iv (s : Int)), (2, iv (t : Int)), (3, iv v)] [] := by
    intro nf
    induction nf with
    | zero => intro k m hm hk hm hf; exact absurd hm (by omega)
    | succ nf ih =>
      intro k m hm hk hm hf
      refine v_iload hx DX12_adds_3 0 rfl ?_
      refine v_push hx DX12_adds_5 ?_
      refine v_icmp_ge hx DX12_adds_7 (by omega) (by decide) (fun c7 => ?_) (fun c7 => ?_)
      · skip
        exact v_rv hx hBD DX12_adds_61 (⟨by have h2 := hm; rw [show k.toNat = 96 by omega] at h2; exact h2.done (hw s hs).1 (PS.lt_add (hw s hs).1 (PS.lt_sm _ (hw t ht).1)), hf⟩)
      · skip
        refine v_aload hx DX12_adds_10 1 rfl ?_
        refine v_get hx DX12_adds_11 FLRX12_3 hR.o (v := .ref (ν + 1)) rfl ?_
        refine v_push hx DX12_adds_14 ?_
        refine v_iload hx DX12_adds_16 2 rfl ?_
        refine v_imul hx DX12_adds_17 ?_
        refine v_iload hx DX12_adds_18 0 rfl ?_
        refine v_iadd hx DX12_adds_20 ?_
        refine v_aload hx DX12_adds_21 1 rfl ?_
        refine v_get hx DX12_adds_22 FLRX12_3 hR.o (v := .ref (ν + 1)) rfl ?_
        refine v_push hx DX12_adds_25 ?_
        refine v_iload hx DX12_adds_27 2 rfl ?_
        refine v_imul hx DX12_adds_28 ?_
        refine v_iload hx DX12_adds_29 0 rfl ?_
        refine v_iadd hx DX12_adds_31 ?_
        refine v_iald hx DX12_adds_32 hR.p (by omega) (by decide) (z := cf (ρ s) k) (hm.rd hs (by omega) (by omega) (by omega)) ?_
        refine v_aload hx DX12_adds_33 1 rfl ?_
        refine v_get hx DX12_adds_34 FLRX12_3 hR.o (v := .ref (ν + 1)) rfl ?_
        refine v_push hx DX12_adds_37 ?_
        refine v_iload hx DX12_adds_39 3 rfl ?_
        refine v_imul hx DX12_adds_40 ?_
        refine v_iload hx DX12_adds_41 0 rfl ?_
        refine v_iadd hx DX12_adds_43 ?_
        refine v_iald hx DX12_adds_44 hR.p (by omega) (by decide) (z := cf (ρ t) k) (hm.rd ht (by omega) (by omega) (by omega)) ?_
        refine v_iload hx DX12_adds_45 4 rfl ?_
        refine v_cSp hx DX12_adds_46 CSRX12_11 [iv v] (r_mod l G Λ sz m hv) rfl rfl (Nat.le_of_ble_eq_true rfl) (by decide) ⟨Nat.le_refl _, Nat.le_refl _⟩ ?_
        have h1 := cf_rng (ρ t) k
        have h2 := mulb (a := cf (ρ t) k) (b := v % 101) (B := 100) h1.1 h1.2 (by omega) (by omega)
        have h3 := cf_rng (ρ s) k
        refine v_imul hx DX12_adds_49 ?_
        refine v_iadd hx DX12_adds_50 ?_
        refine v_cSp hx DX12_adds_51 CSRX12_11 [iv ((cf (ρ s) k) + ((cf (ρ t) k) * (v % 101)))] (r_mod l G Λ sz m (by omega)) rfl rfl (Nat.le_of_ble_eq_true rfl) (by decide) ⟨Nat.le_refl _, Nat.le_refl _⟩ ?_
        refine v_iastm hx DX12_adds_54 hR.p (by omega) (by decide) (fun μ5 eμ5 => ?_)
        refine v_iinc hx DX12_adds_55 0 rfl [(4, iv (k + 1)), (0, .ref ν), (1, iv (s : Int)), (2, iv (t : Int)), (3, iv v)] rfl (by decide) ?_
        refine v_goto hx DX12_adds_58 ?_
        exact v_sub [0, 1, 2, 3, 4] _ rfl (ih (k + 1) μ5 (by omega) (by omega) (by rw [eμ5]; exact hm.step (by omega) (by omega) (by refine cf_mod ?_; rw [fi_add, fi_mul, fi_cf, fi_cf, fi_mod]; exact congrArg (fun z => ρ s k.toNat + z) (F_comm _ _)) hs) (hf.trans (by rw [eμ5]; exact Fr.mI (by simp))))
  refine v_push hx DX12_adds_0 ?_
  refine v_istore hx DX12_adds_1 [(4, iv 0), (0, .ref ν), (1, iv (s : Int)), (2, iv (t : Int)), (3, iv v)] rfl (by decide) ?_
  exact v_sub [0, 1, 2, 3, 4] _ rfl (L3 100 0 μ (by omega) (by omega) (hw.start s ((ρ s).add ((ρ t).sm (fi v)))) Fr.rf)
