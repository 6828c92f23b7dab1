theorem b_hasCell (l : Launch) (G : Gl) (Λ : Lay) (sz : Nat) (μ : Mem) {t k : Int} (ht : inR t) (hk : inR k) : Sp l G yX0_hasCell cX0_hasCell 2 (some FieldType.boolean) 0 [iv t, iv k] Λ sz μ (pP μ (hasC t k)) := by
  refine Sp.intro (by decide) (Nat.le_of_ble_eq_true rfl) (fun x hx hBD => ?_)
  refine v_lv [(0, iv t), (1, iv k)] rfl ?_
  refine v_iload hx DX0_hasCell_0 0 rfl ?_
  refine v_if_lt hx DX0_hasCell_1 (by omega) (fun c1 => ?_) (fun c1 => ?_)
  · skip
    have e0 : (0 : Int) = hasC t k := by unfold hasC; rw [if_neg (by omega)]
    refine v_push hx DX0_hasCell_24 ?_
    exact v_rz hx hBD (by omega) DX0_hasCell_25 (⟨rfl, e0⟩)
  · skip
    refine v_iload hx DX0_hasCell_4 0 rfl ?_
    refine v_push hx DX0_hasCell_5 ?_
    refine v_icmp_ge hx DX0_hasCell_7 (by omega) (by decide) (fun c7 => ?_) (fun c7 => ?_)
    · skip
      have e0 : (0 : Int) = hasC t k := by unfold hasC; rw [if_neg (by omega)]
      refine v_push hx DX0_hasCell_24 ?_
      exact v_rz hx hBD (by omega) DX0_hasCell_25 (⟨rfl, e0⟩)
    · skip
      refine v_iload hx DX0_hasCell_10 1 rfl ?_
      refine v_if_lt hx DX0_hasCell_11 (by omega) (fun c11 => ?_) (fun c11 => ?_)
      · skip
        have e0 : (0 : Int) = hasC t k := by unfold hasC; rw [if_neg (by omega)]
        refine v_push hx DX0_hasCell_24 ?_
        exact v_rz hx hBD (by omega) DX0_hasCell_25 (⟨rfl, e0⟩)
      · skip
        refine v_iload hx DX0_hasCell_14 1 rfl ?_
        refine v_push hx DX0_hasCell_15 ?_
        refine v_icmp_ge hx DX0_hasCell_17 (by omega) (by decide) (fun c17 => ?_) (fun c17 => ?_)
        · skip
          have e0 : (0 : Int) = hasC t k := by unfold hasC; rw [if_neg (by omega)]
          refine v_push hx DX0_hasCell_24 ?_
          exact v_rz hx hBD (by omega) DX0_hasCell_25 (⟨rfl, e0⟩)
        · skip
          have e0 : (1 : Int) = hasC t k := by unfold hasC; rw [if_pos (by omega)]
          refine v_push hx DX0_hasCell_20 ?_
          refine v_goto hx DX0_hasCell_21 ?_
          exact v_rz hx hBD (by omega) DX0_hasCell_25 (⟨rfl, e0⟩)
theorem b_cell (l : Launch) (G : Gl) (Λ : Lay) (sz : Nat) (μ : Mem) {β : Nat} {b : Bd} {t k : Int} (hK : boardK Λ β) (hb : BA μ β b) (ht : inR t) (hk : inR k) : Sp l G yX0_cell cX0_cell 3 (some FieldType.int) 1 [.ref β, iv t, iv k] Λ sz μ (pP μ (b.cell t k)) := by
  refine Sp.intro (by decide) (Nat.le_of_ble_eq_true rfl) (fun x hx hBD => ?_)
  refine v_lv [(0, .ref β), (1, iv t), (2, iv k)] rfl ?_
  refine v_iload hx DX0_cell_0 1 rfl ?_
  refine v_iload hx DX0_cell_1 2 rfl ?_
  refine v_cSp hx DX0_cell_2 CSRX0_31 [iv t, iv k] (b_hasCell l G Λ sz μ ht hk) rfl rfl (Nat.le_of_ble_eq_true rfl) (by decide) ⟨Nat.le_refl _, Nat.le_refl _⟩ ?_
  have hc : (hasC t k = 0 ∧ ¬ (0 ≤ t ∧ t < 15 ∧ 0 ≤ k ∧ k < 12)) ∨ (hasC t k = 1 ∧ (0 ≤ t ∧ t < 15 ∧ 0 ≤ k ∧ k < 12)) := by
    unfold hasC; split
    · exact Or.inr ⟨rfl, by assumption⟩
    · exact Or.inl ⟨rfl, by assumption⟩
  refine v_if_eq hx DX0_cell_5 (by omega) (fun c5 => ?_) (fun c5 => ?_)
  · skip
    have e0 : (0 : Int) = b.cell t k := by unfold Bd.cell; rw [if_neg (by omega)]
    refine v_push hx DX0_cell_22 ?_
    exact v_ri hx hBD DX0_cell_23 (⟨rfl, e0⟩)
  · skip
    have e0 : b.cell t k = b.cell t k := rfl
    refine v_aload hx DX0_cell_8 0 rfl ?_
    refine v_get hx DX0_cell_9 FLRX0_9 hK.1 (v := .ref (β + 1)) rfl ?_
    refine v_iload hx DX0_cell_12 1 rfl ?_
    refine v_push hx DX0_cell_13 ?_
    refine v_imul hx DX0_cell_15 ?_
    refine v_iload hx DX0_cell_16 2 rfl ?_
    refine v_iadd hx DX0_cell_17 ?_
    refine v_iald hx DX0_cell_18 hK.2.1 (by omega) (by decide) (z := b.cell t k) (by unfold Bd.cell; rw [if_pos (by omega)]; exact hb.2.1 _ (by omega) (by omega)) ?_
    refine v_goto hx DX0_cell_19 ?_
    exact v_ri hx hBD DX0_cell_23 (⟨rfl, e0⟩)
theorem b_horner (l : Launch) (G : Gl) (Λ : Lay) (sz : Nat) (μ : Mem) {β : Nat} {b : Bd} {t la fs v : Int} {p : PS} (hK : boardK Λ β) (hb : BA μ β b) (ht : inR t) (h1 : 0 ≤ fs ∧ fs ≤ la ∧ la < 12) (hv : 0 ≤ v ∧ v ≤ 100) (hp : p.lt (la - fs + 1).toNat) (hq : ∀ k : Int, fs ≤ k → k ≤ la → fi (b.cell t k) = p (k - fs).toNat) : Sp l G yX0_horner cX0_horner 7 (some FieldType.int) 2 [.ref β, iv t, iv la, iv fs, iv v] Λ sz μ (pP μ (evI p v 0)) := by
  refine Sp.intro (by decide) (Nat.le_of_ble_eq_true rfl) (fun x hx hBD => ?_)
  refine v_lv [(0, .ref β), (1, iv t), (2, iv la), (3, iv fs), (4, iv v)] rfl ?_
  have L6 : ∀ (nf : Nat) (k z : Int), (k + 1 < (nf : Int)) → (fs - 1 ≤ k ∧ k ≤ la) → (z = evI p v (k + 1 - fs).toNat) → V G x (0, 0) Λ sz μ 6 [(6, iv k), (5, iv z), (0, .ref β), (1, iv t), (2, iv la), (3, iv fs), (4, iv v)] [] := by
    intro nf
    induction nf with
    | zero => intro k z hm hk hz; exact absurd hm (by omega)
    | succ nf ih =>
      intro k z hm hk hz
      have hzr := evI_rng p v (k + 1 - fs).toNat
      have hcr := Bd.cell_rng hb.1 t k
      refine v_iload hx DX0_horner_6 0 rfl ?_
      refine v_iload hx DX0_horner_8 5 rfl ?_
      refine v_icmp_lt hx DX0_horner_9 (by omega) (by omega) (fun c9 => ?_) (fun c9 => ?_)
      · skip
        refine v_iload hx DX0_horner_36 1 rfl ?_
        exact v_ri hx hBD DX0_horner_38 (⟨rfl, by rw [hz, show (k + 1 - fs).toNat = 0 by omega]⟩)
      · skip
        refine v_iload hx DX0_horner_12 1 rfl ?_
        refine v_iload hx DX0_horner_14 6 rfl ?_
        refine v_imul hx DX0_horner_16 ?_
        refine v_aload hx DX0_horner_17 2 rfl ?_
        refine v_iload hx DX0_horner_18 3 rfl ?_
        refine v_iload hx DX0_horner_19 0 rfl ?_
        refine v_cVp hx DX0_horner_21 CVRX0_45 [iv t, iv k] (b_cell l G Λ sz μ hK hb (by omega) (by omega)) hK.1 rfl rfl (Nat.le_of_ble_eq_true rfl) (by decide) ⟨Nat.le_refl _, Nat.le_refl _⟩ ?_
        refine v_iadd hx DX0_horner_24 ?_
        refine v_push hx DX0_horner_25 ?_
        refine v_irem hx (by have h2 := mulb (a := z) (A := 100) (by omega) (by omega) hv.1 hv.2; omega) (by decide) DX0_horner_27 ?_
        refine v_istore hx DX0_horner_28 [(5, iv (((z * v) + (b.cell t k)) % 101)), (6, iv k), (0, .ref β), (1, iv t), (2, iv la), (3, iv fs), (4, iv v)] rfl (by decide) ?_
        refine v_iinc hx DX0_horner_30 1 rfl [(6, iv (k + (-1))), (5, iv (((z * v) + (b.cell t k)) % 101)), (0, .ref β), (1, iv t), (2, iv la), (3, iv fs), (4, iv v)] rfl (by decide) ?_
        refine v_goto hx DX0_horner_33 ?_
        exact v_sub [0, 1, 2, 3, 4, 5, 6] _ rfl (ih (k + (-1)) (((z * v) + (b.cell t k)) % 101) (by omega) (by omega) (by rw [hz, show (k + 1 - fs).toNat = (k - fs).toNat + 1 by omega, show (k + (-1) + 1 - fs).toNat = (k - fs).toNat by omega]; exact evI_step (by omega) (hq k (by omega) (by omega))))
  refine v_push hx DX0_horner_0 ?_
  refine v_istore hx DX0_horner_1 [(5, iv 0), (0, .ref β), (1, iv t), (2, iv la), (3, iv fs), (4, iv v)] rfl (by decide) ?_
  refine v_iload hx DX0_horner_3 3 rfl ?_
  refine v_istore hx DX0_horner_4 [(6, iv la), (5, iv 0), (0, .ref β), (1, iv t), (2, iv la), (3, iv fs), (4, iv v)] rfl (by decide) ?_
  exact v_sub [0, 1, 2, 3, 4, 5, 6] _ rfl (L6 100 la 0 (by omega) (by omega) (evI_zero (PS.lt_mono hp (by omega))).symm)
theorem b_valueOf (l : Launch) (G : Gl) (Λ : Lay) (sz : Nat) (μ : Mem) {β : Nat} {b : Bd} {t v : Int} (hI : INV G Λ) (hK : boardK Λ β) (hb : BA μ β b) (ht : 0 ≤ t ∧ t < 15) (hv : 0 ≤ v ∧ v ≤ 100) : Sp l G yX0_valueOf cX0_valueOf 5 (some FieldType.int) 3 [.ref β, iv t, iv v] Λ sz μ (pP μ (b.val t v)) := by
  refine Sp.intro (by decide) (Nat.le_of_ble_eq_true rfl) (fun x hx hBD => ?_)
  refine v_lv [(0, .ref β), (1, iv t), (2, iv v)] rfl ?_
  refine v_aload hx DX0_valueOf_0 0 rfl ?_
  refine v_iload hx DX0_valueOf_1 1 rfl ?_
  refine v_push hx DX0_valueOf_2 ?_
  refine v_push hx DX0_valueOf_4 ?_
  refine v_iload hx DX0_valueOf_5 2 rfl ?_
  refine v_cVp hx DX0_valueOf_6 CVRX0_62 [iv t, iv 6, iv 0, iv v] (b_horner l G Λ sz μ hK hb (by omega) (by omega) hv (PS.lt_mono (b.num_lt t) (by omega)) (fun k h0 h6 => by rw [← Bd.num_cf hb.1 h0 (by omega), fi_cf, Int.sub_zero])) hK.1 rfl rfl (Nat.le_of_ble_eq_true rfl) (by decide) ⟨Nat.le_refl _, Nat.le_refl _⟩ ?_
  have r1 := evI_rng (b.num t) v 0
  refine v_istore hx DX0_valueOf_9 [(3, iv (evI (b.num t) v 0)), (0, .ref β), (1, iv t), (2, iv v)] rfl (by decide) ?_
  refine v_aload hx DX0_valueOf_10 1 rfl ?_
  refine v_iload hx DX0_valueOf_11 2 rfl ?_
  refine v_push hx DX0_valueOf_12 ?_
  refine v_push hx DX0_valueOf_14 ?_
  refine v_iload hx DX0_valueOf_16 3 rfl ?_
  refine v_cVp hx DX0_valueOf_17 CVRX0_62 [iv t, iv 11, iv 7, iv v] (b_horner l G Λ sz μ hK hb (by omega) (by omega) hv (PS.lt_mono (b.den_lt t) (by omega)) (fun k h0 h6 => by have e := Bd.den_cf hb.1 ht (k := k - 7) (by omega) (by omega); rw [show 7 + (k - 7) = k by omega] at e; rw [← e, fi_cf])) hK.1 rfl rfl (Nat.le_of_ble_eq_true rfl) (by decide) ⟨Nat.le_refl _, Nat.le_refl _⟩ ?_
  have r2 := evI_rng (b.den t) v 0
  refine v_istore hx DX0_valueOf_20 [(4, iv (evI (b.den t) v 0)), (3, iv (evI (b.num t) v 0)), (0, .ref β), (1, iv t), (2, iv v)] rfl (by decide) ?_
  refine v_iload hx DX0_valueOf_22 0 rfl ?_
  refine v_if_ne hx DX0_valueOf_24 (by omega) (fun c24 => ?_) (fun c24 => ?_)
  · skip
    refine v_iload hx DX0_valueOf_32 1 rfl ?_
    refine v_iload hx DX0_valueOf_33 0 rfl ?_
    refine v_cNp hx DX0_valueOf_35 CSRX0_66 [iv (evI (b.den t) v 0)] (s_inverse l G Λ sz μ hI (by omega)) rfl rfl (Nat.le_of_ble_eq_true rfl) (by decide) ⟨Nat.le_refl _, Nat.le_refl _⟩ ?_
    have r3 := ivI_rng (evI (b.den t) v 0)
    have e0 : evI (b.num t) v 0 * ivI (evI (b.den t) v 0) % 101 = b.val t v := by unfold Bd.val; rw [if_neg c24]
    refine v_imul hx DX0_valueOf_38 ?_
    refine v_push hx DX0_valueOf_39 ?_
    refine v_irem hx (by have h2 := mulb r1.1 r1.2 r3.1 r3.2; omega) (by decide) DX0_valueOf_41 ?_
    exact v_ri hx hBD DX0_valueOf_42 (⟨rfl, e0⟩)
  · skip
    have e0 : (-4 : Int) = b.val t v := by unfold Bd.val; rw [if_pos c24]
    refine v_push hx DX0_valueOf_27 ?_
    refine v_goto hx DX0_valueOf_29 ?_
    exact v_ri hx hBD DX0_valueOf_42 (⟨rfl, e0⟩)
theorem b_isZero (l : Launch) (G : Gl) (Λ : Lay) (sz : Nat) (μ : Mem) {β : Nat} {b : Bd} {t : Int} (hK : boardK Λ β) (hb : BA μ β b) (ht : inR t) : Sp l G yX0_isZero cX0_isZero 3 (some FieldType.boolean) 2 [.ref β, iv t] Λ sz μ (pP μ (bz (b.num t = PS.zero))) := by
  refine Sp.intro (by decide) (Nat.le_of_ble_eq_true rfl) (fun x hx hBD => ?_)
  refine v_lv [(0, .ref β), (1, iv t)] rfl ?_
  have L2 : ∀ (nf : Nat) (k : Int), (7 - k < (nf : Int)) → (0 ≤ k ∧ k ≤ 7) → (∀ j : Int, 0 ≤ j → j < k → b.cell t j = 0) → V G x (0, 0) Λ sz μ 2 [(2, iv k), (0, .ref β), (1, iv t)] [] := by
    intro nf
    induction nf with
    | zero => intro k hm hk hz; exact absurd hm (by omega)
    | succ nf ih =>
      intro k hm hk hz
      have hcr := Bd.cell_rng hb.1 t k
      refine v_iload hx DX0_isZero_2 0 rfl ?_
      refine v_push hx DX0_isZero_3 ?_
      refine v_icmp_gt hx DX0_isZero_5 (by omega) (by decide) (fun c5 => ?_) (fun c5 => ?_)
      · skip
        have e0 : (1 : Int) = bz (b.num t = PS.zero) := (bz_pos (PS.ext fun j => by
          show b.num t j = 0
          rcases Nat.lt_or_ge j 7 with q | q
          · have h1 := Bd.num_cf hb.1 (t := t) (k := (j : Int)) (by omega) (by omega)
            rw [hz _ (by omega) (by omega), cf_zero] at h1
            exact h1
          · exact b.num_lt t j q)).symm
        refine v_push hx DX0_isZero_25 ?_
        exact v_rz hx hBD (by omega) DX0_isZero_26 (⟨rfl, e0⟩)
      · skip
        refine v_aload hx DX0_isZero_8 1 rfl ?_
        refine v_iload hx DX0_isZero_9 2 rfl ?_
        refine v_iload hx DX0_isZero_10 0 rfl ?_
        refine v_cVp hx DX0_isZero_11 CVRX0_45 [iv t, iv k] (b_cell l G Λ sz μ hK hb (by omega) (by omega)) hK.1 rfl rfl (Nat.le_of_ble_eq_true rfl) (by decide) ⟨Nat.le_refl _, Nat.le_refl _⟩ ?_
        refine v_if_eq hx DX0_isZero_14 (by omega) (fun c14 => ?_) (fun c14 => ?_)
        · skip
          refine v_iinc hx DX0_isZero_19 0 rfl [(2, iv (k + 1)), (0, .ref β), (1, iv t)] rfl (by decide) ?_
          refine v_goto hx DX0_isZero_22 ?_
          exact v_sub [0, 1, 2] _ rfl (ih (k + 1) (by omega) (by omega) (fun j h0 h1 => (Int.lt_or_le j k).elim (hz j h0) (fun q => (show k = j by omega) ▸ c14)))
        · skip
          have e0 : (0 : Int) = bz (b.num t = PS.zero) := (bz_neg (fun e => c14 (by rw [← Bd.num_cf hb.1 hk.1 (by omega), e]; exact cf_zero.mpr rfl))).symm
          refine v_push hx DX0_isZero_17 ?_
          exact v_rz hx hBD (by omega) DX0_isZero_18 (⟨rfl, e0⟩)
  refine v_push hx DX0_isZero_0 ?_
  refine v_istore hx DX0_isZero_1 [(2, iv 0), (0, .ref β), (1, iv t)] rfl (by decide) ?_
  exact v_sub [0, 1, 2] _ rfl (L2 100 0 (by omega) (by omega) (fun j h0 h1 => by omega))
theorem b_agree (l : Launch) (G : Gl) (Λ : Lay) (sz : Nat) (μ : Mem) {β : Nat} {b : Bd} {t o fs : Int} (hK : boardK Λ β) (hb : BA μ β b) (ht : inR t) (ho : inR o) (hf : 0 ≤ fs ∧ fs < 12) : Sp l G yX0_agree cX0_agree 5 (some FieldType.boolean) 2 [.ref β, iv t, iv o, iv fs] Λ sz μ (pP μ (bz (b.agP t o fs))) := by
  refine Sp.intro (by decide) (Nat.le_of_ble_eq_true rfl) (fun x hx hBD => ?_)
  refine v_lv [(0, .ref β), (1, iv t), (2, iv o), (3, iv fs)] rfl ?_
  have L3 : ∀ (nf : Nat) (k : Int), (12 - k < (nf : Int)) → (fs ≤ k ∧ k ≤ 12) → (∀ j : Int, fs ≤ j → j < k → b.cell t j = b.cell o j) → V G x (0, 0) Λ sz μ 3 [(4, iv k), (0, .ref β), (1, iv t), (2, iv o), (3, iv fs)] [] := by
    intro nf
    induction nf with
    | zero => intro k hm hk hz; exact absurd hm (by omega)
    | succ nf ih =>
      intro k hm hk hz
      have hcr := Bd.cell_rng hb.1 t k
      have hcq := Bd.cell_rng hb.1 o k
      refine v_iload hx DX0_agree_3 0 rfl ?_
      refine v_push hx DX0_agree_5 ?_
      refine v_icmp_ge hx DX0_agree_7 (by omega) (by decide) (fun c7 => ?_) (fun c7 => ?_)
      · skip
        have e0 : (1 : Int) = bz (b.agP t o fs) := (bz_pos (fun j h0 h1 => hz j h0 (by omega))).symm
        refine v_push hx DX0_agree_35 ?_
        exact v_rz hx hBD (by omega) DX0_agree_36 (⟨rfl, e0⟩)
      · skip
        refine v_aload hx DX0_agree_10 1 rfl ?_
        refine v_iload hx DX0_agree_11 2 rfl ?_
        refine v_iload hx DX0_agree_12 0 rfl ?_
        refine v_cVp hx DX0_agree_14 CVRX0_45 [iv t, iv k] (b_cell l G Λ sz μ hK hb (by omega) (by omega)) hK.1 rfl rfl (Nat.le_of_ble_eq_true rfl) (by decide) ⟨Nat.le_refl _, Nat.le_refl _⟩ ?_
        refine v_aload hx DX0_agree_17 1 rfl ?_
        refine v_iload hx DX0_agree_18 3 rfl ?_
        refine v_iload hx DX0_agree_19 0 rfl ?_
        refine v_cVp hx DX0_agree_21 CVRX0_45 [iv o, iv k] (b_cell l G Λ sz μ hK hb (by omega) (by omega)) hK.1 rfl rfl (Nat.le_of_ble_eq_true rfl) (by decide) ⟨Nat.le_refl _, Nat.le_refl _⟩ ?_
        refine v_icmp_eq hx DX0_agree_24 (by omega) (by omega) (fun c24 => ?_) (fun c24 => ?_)
        · skip
          refine v_iinc hx DX0_agree_29 0 rfl [(4, iv (k + 1)), (0, .ref β), (1, iv t), (2, iv o), (3, iv fs)] rfl (by decide) ?_
          refine v_goto hx DX0_agree_32 ?_
          exact v_sub [0, 1, 2, 3, 4] _ rfl (ih (k + 1) (by omega) (by omega) (fun j h0 h1 => (Int.lt_or_le j k).elim (hz j h0) (fun q => (show k = j by omega) ▸ c24)))
        · skip
          have e0 : (0 : Int) = bz (b.agP t o fs) := (bz_neg (fun e => c24 (e k (by omega) (by omega)))).symm
          refine v_push hx DX0_agree_27 ?_
          exact v_rz hx hBD (by omega) DX0_agree_28 (⟨rfl, e0⟩)
  refine v_iload hx DX0_agree_0 3 rfl ?_
  refine v_istore hx DX0_agree_1 [(4, iv fs), (0, .ref β), (1, iv t), (2, iv o), (3, iv fs)] rfl (by decide) ?_
  exact v_sub [0, 1, 2, 3, 4] _ rfl (L3 100 fs (by omega) (by omega) (fun j h0 h1 => by omega))
theorem b_uAt (l : Launch) (G : Gl) (Λ : Lay) (sz : Nat) (μ : Mem) {β : Nat} {b : Bd} {k : Int} (hK : boardK Λ β) (hb : BA μ β b) (hk : inR k) : Sp l G yX0_uAt cX0_uAt 2 (some FieldType.int) 0 [.ref β, iv k] Λ sz μ (pP μ (if 0 ≤ k ∧ k < 4 then b.2.1 k else 0)) := by
  refine Sp.intro (by decide) (Nat.le_of_ble_eq_true rfl) (fun x hx hBD => ?_)
  refine v_lv [(0, .ref β), (1, iv k)] rfl ?_
  refine v_iload hx DX0_uAt_0 1 rfl ?_
  refine v_if_lt hx DX0_uAt_1 (by omega) (fun c1 => ?_) (fun c1 => ?_)
  · skip
    have e0 : (0 : Int) = if 0 ≤ k ∧ k < 4 then b.2.1 k else 0 := by rw [if_neg (by omega)]
    refine v_push hx DX0_uAt_22 ?_
    exact v_ri hx hBD DX0_uAt_23 (⟨rfl, e0⟩)
  · skip
    refine v_iload hx DX0_uAt_4 1 rfl ?_
    refine v_aload hx DX0_uAt_5 0 rfl ?_
    refine v_get hx DX0_uAt_6 FLRX0_15 hK.1 (v := .ref (β + 2)) rfl ?_
    refine v_alenI hx DX0_uAt_9 hK.2.2 (by decide) (z := 4) rfl ?_
    refine v_icmp_ge hx DX0_uAt_10 (by omega) (by decide) (fun c10 => ?_) (fun c10 => ?_)
    · skip
      have e0 : (0 : Int) = if 0 ≤ k ∧ k < 4 then b.2.1 k else 0 := by rw [if_neg (by omega)]
      refine v_push hx DX0_uAt_22 ?_
      exact v_ri hx hBD DX0_uAt_23 (⟨rfl, e0⟩)
    · skip
      have e0 : b.2.1 k = if 0 ≤ k ∧ k < 4 then b.2.1 k else 0 := by rw [if_pos (by omega)]
      refine v_aload hx DX0_uAt_13 0 rfl ?_
      refine v_get hx DX0_uAt_14 FLRX0_15 hK.1 (v := .ref (β + 2)) rfl ?_
      refine v_iload hx DX0_uAt_17 1 rfl ?_
      refine v_iald hx DX0_uAt_18 hK.2.2 (by omega) (by decide) (z := b.2.1 k) (hb.2.2.1 k (by omega) (by omega)) ?_
      refine v_goto hx DX0_uAt_19 ?_
      exact v_ri hx hBD DX0_uAt_23 (⟨rfl, e0⟩)
theorem b_hasTower (l : Launch) (G : Gl) (Λ : Lay) (sz : Nat) (μ : Mem) {β : Nat} {b : Bd} {κ a0 a1 a2 a3 : Int} (hK : boardK Λ β) (hb : BA μ β b) (h0 : inR κ) (h1 : inR a0) (h2 : inR a1) (h3 : inR a2) (h4 : inR a3) : Sp l G yX0_hasTower cX0_hasTower 6 (some FieldType.boolean) 0 [.ref β, iv κ, iv a0, iv a1, iv a2, iv a3] Λ sz μ (pP μ (bz (b.twr κ a0 a1 a2 a3))) := by
  refine Sp.intro (by decide) (Nat.le_of_ble_eq_true rfl) (fun x hx hBD => ?_)
  refine v_lv [(0, .ref β), (1, iv κ), (2, iv a0), (3, iv a1), (4, iv a2), (5, iv a3)] rfl ?_
  have u0 := hb.1.2.1 0
  have u1 := hb.1.2.1 1
  have u2 := hb.1.2.1 2
  have u3 := hb.1.2.1 3
  have uk := hb.1.2.2.1
  refine v_aload hx DX0_hasTower_0 0 rfl ?_
  refine v_get hx DX0_hasTower_1 FLRX0_18 hK.1 (fv_i rfl hb.2.2.2.1 : _ = iv b.2.2.1) ?_
  refine v_iload hx DX0_hasTower_4 1 rfl ?_
  refine v_icmp_ne hx DX0_hasTower_5 (by omega) (by omega) (fun c5 => ?_) (fun c5 => ?_)
  · skip
    have e0 : (0 : Int) = bz (b.twr κ a0 a1 a2 a3) := (bz_neg (fun e => c5 e.1)).symm
    refine v_push hx DX0_hasTower_54 ?_
    exact v_rz hx hBD (by omega) DX0_hasTower_55 (⟨rfl, e0⟩)
  · skip
    refine v_aload hx DX0_hasTower_8 0 rfl ?_
    refine v_get hx DX0_hasTower_9 FLRX0_15 hK.1 (v := .ref (β + 2)) rfl ?_
    refine v_push hx DX0_hasTower_12 ?_
    refine v_iald hx DX0_hasTower_13 hK.2.2 (by omega) (by decide) (z := b.2.1 0) (hb.2.2.1 0 (by omega) (by omega)) ?_
    refine v_iload hx DX0_hasTower_14 2 rfl ?_
    refine v_icmp_ne hx DX0_hasTower_15 (by omega) (by omega) (fun c15 => ?_) (fun c15 => ?_)
    · skip
      have e0 : (0 : Int) = bz (b.twr κ a0 a1 a2 a3) := (bz_neg (fun e => c15 e.2.1)).symm
      refine v_push hx DX0_hasTower_54 ?_
      exact v_rz hx hBD (by omega) DX0_hasTower_55 (⟨rfl, e0⟩)
    · skip
      refine v_aload hx DX0_hasTower_18 0 rfl ?_
      refine v_get hx DX0_hasTower_19 FLRX0_15 hK.1 (v := .ref (β + 2)) rfl ?_
      refine v_push hx DX0_hasTower_22 ?_
      refine v_iald hx DX0_hasTower_23 hK.2.2 (by omega) (by decide) (z := b.2.1 1) (hb.2.2.1 1 (by omega) (by omega)) ?_
      refine v_iload hx DX0_hasTower_24 3 rfl ?_
      refine v_icmp_ne hx DX0_hasTower_25 (by omega) (by omega) (fun c25 => ?_) (fun c25 => ?_)
      · skip
        have e0 : (0 : Int) = bz (b.twr κ a0 a1 a2 a3) := (bz_neg (fun e => c25 e.2.2.1)).symm
        refine v_push hx DX0_hasTower_54 ?_
        exact v_rz hx hBD (by omega) DX0_hasTower_55 (⟨rfl, e0⟩)
      · skip
        refine v_aload hx DX0_hasTower_28 0 rfl ?_
        refine v_get hx DX0_hasTower_29 FLRX0_15 hK.1 (v := .ref (β + 2)) rfl ?_
        refine v_push hx DX0_hasTower_32 ?_
        refine v_iald hx DX0_hasTower_33 hK.2.2 (by omega) (by decide) (z := b.2.1 2) (hb.2.2.1 2 (by omega) (by omega)) ?_
        refine v_iload hx DX0_hasTower_34 4 rfl ?_
        refine v_icmp_ne hx DX0_hasTower_36 (by omega) (by omega) (fun c36 => ?_) (fun c36 => ?_)
        · skip
          have e0 : (0 : Int) = bz (b.twr κ a0 a1 a2 a3) := (bz_neg (fun e => c36 e.2.2.2.1)).symm
          refine v_push hx DX0_hasTower_54 ?_
          exact v_rz hx hBD (by omega) DX0_hasTower_55 (⟨rfl, e0⟩)
        · skip
          refine v_aload hx DX0_hasTower_39 0 rfl ?_
          refine v_get hx DX0_hasTower_40 FLRX0_15 hK.1 (v := .ref (β + 2)) rfl ?_
          refine v_push hx DX0_hasTower_43 ?_
          refine v_iald hx DX0_hasTower_44 hK.2.2 (by omega) (by decide) (z := b.2.1 3) (hb.2.2.1 3 (by omega) (by omega)) ?_
          refine v_iload hx DX0_hasTower_45 5 rfl ?_
          refine v_icmp_ne hx DX0_hasTower_47 (by omega) (by omega) (fun c47 => ?_) (fun c47 => ?_)
          · skip
            have e0 : (0 : Int) = bz (b.twr κ a0 a1 a2 a3) := (bz_neg (fun e => c47 e.2.2.2.2)).symm
            refine v_push hx DX0_hasTower_54 ?_
            exact v_rz hx hBD (by omega) DX0_hasTower_55 (⟨rfl, e0⟩)
          · skip
            have e0 : (1 : Int) = bz (b.twr κ a0 a1 a2 a3) := (bz_pos ⟨c5, c15, c25, c36, c47⟩).symm
            refine v_push hx DX0_hasTower_50 ?_
            refine v_goto hx DX0_hasTower_51 ?_
            exact v_rz hx hBD (by omega) DX0_hasTower_55 (⟨rfl, e0⟩)
