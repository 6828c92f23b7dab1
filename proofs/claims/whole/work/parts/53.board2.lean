theorem b_filled (l : Launch) (G : Gl) (Λ : Lay) (sz : Nat) (μ : Mem) {β : Nat} {b : Bd} {f : Int} (hK : boardK Λ β) (hb : BA μ β b) (hf : 0 ≤ f ∧ f < 3) : Sp l G yX0_filled cX0_filled 4 (some FieldType.int) 3 [.ref β, iv f] Λ sz μ (pP μ (b.fl f 5)) := by
  refine Sp.intro (by decide) (Nat.le_of_ble_eq_true rfl) (fun x hx hBD => ?_)
  refine v_lv [(0, .ref β), (1, iv f)] rfl ?_
  have L4 : ∀ (nf : Nat) (k z : Int), (5 - k < (nf : Int)) → (0 ≤ k ∧ k ≤ 5) → (z = b.fl f k.toNat) → V G x (0, 0) Λ sz μ 4 [(3, iv k), (2, iv z), (0, .ref β), (1, iv f)] [] := by
    intro nf
    induction nf with
    | zero => intro k z hm hk hz; exact absurd hm (by omega)
    | succ nf ih =>
      intro k z hm hk hz
      have hfr := b.fl_rng f k.toNat
      have hb1 := bz_rng (b.num (f * 5 + k) = PS.zero)
      refine v_iload hx DX0_filled_4 0 rfl ?_
      refine v_push hx DX0_filled_5 ?_
      refine v_icmp_ge hx DX0_filled_6 (by omega) (by decide) (fun c6 => ?_) (fun c6 => ?_)
      · skip
        refine v_iload hx DX0_filled_37 1 rfl ?_
        exact v_ri hx hBD DX0_filled_38 (⟨rfl, by rw [hz, show k.toNat = 5 by omega]⟩)
      · skip
        refine v_iload hx DX0_filled_9 1 rfl ?_
        refine v_aload hx DX0_filled_10 2 rfl ?_
        refine v_iload hx DX0_filled_11 3 rfl ?_
        refine v_push hx DX0_filled_12 ?_
        refine v_imul hx DX0_filled_13 ?_
        refine v_iload hx DX0_filled_14 0 rfl ?_
        refine v_iadd hx DX0_filled_15 ?_
        refine v_cVp hx DX0_filled_16 CVRX0_69 [iv ((f * 5) + k)] (b_isZero l G Λ sz μ hK hb (by omega)) hK.1 rfl rfl (Nat.le_of_ble_eq_true rfl) (by decide) ⟨Nat.le_refl _, Nat.le_refl _⟩ ?_
        refine v_if_eq hx DX0_filled_19 (by omega) (fun c19 => ?_) (fun c19 => ?_)
        · skip
          refine v_push hx DX0_filled_26 ?_
          refine v_iload hx DX0_filled_27 0 rfl ?_
          refine v_ishl hx DX0_filled_28 (z := 2 ^ k.toNat) (bit_shl (by omega)) ?_
          refine v_ior hx DX0_filled_29 (z := z + 2 ^ k.toNat) (bit_or (by omega) (by rw [hz]; exact hfr)) ?_
          have hq : z + 2 ^ k.toNat = b.fl f k.toNat + (if bz (b.num (f * 5 + k) = PS.zero) = 1 then 0 else 2 ^ k.toNat) := by rw [if_neg (by omega), hz]
          refine v_istore hx DX0_filled_30 [(2, iv (z + 2 ^ k.toNat)), (3, iv k), (0, .ref β), (1, iv f)] rfl (by decide) ?_
          refine v_iinc hx DX0_filled_31 1 rfl [(3, iv (k + 1)), (2, iv (z + 2 ^ k.toNat)), (0, .ref β), (1, iv f)] rfl (by decide) ?_
          refine v_goto hx DX0_filled_34 ?_
          exact v_sub [0, 1, 2, 3] _ rfl (ih (k + 1) (z + 2 ^ k.toNat) (by omega) (by omega) (by rw [show (k + 1).toNat = k.toNat + 1 by omega, Bd.fl, Int.toNat_of_nonneg hk.1]; exact hq))
        · skip
          refine v_push hx DX0_filled_22 ?_
          refine v_goto hx DX0_filled_23 ?_
          refine v_ior hx DX0_filled_29 (z := z) (bit_or0 z) ?_
          have hq : z = b.fl f k.toNat + (if bz (b.num (f * 5 + k) = PS.zero) = 1 then 0 else 2 ^ k.toNat) := by rw [if_pos (by omega), hz]; omega
          refine v_istore hx DX0_filled_30 [(2, iv z), (3, iv k), (0, .ref β), (1, iv f)] rfl (by decide) ?_
          refine v_iinc hx DX0_filled_31 1 rfl [(3, iv (k + 1)), (2, iv z), (0, .ref β), (1, iv f)] rfl (by decide) ?_
          refine v_goto hx DX0_filled_34 ?_
          exact v_sub [0, 1, 2, 3] _ rfl (ih (k + 1) z (by omega) (by omega) (by rw [show (k + 1).toNat = k.toNat + 1 by omega, Bd.fl, Int.toNat_of_nonneg hk.1]; exact hq))
  refine v_push hx DX0_filled_0 ?_
  refine v_istore hx DX0_filled_1 [(2, iv 0), (0, .ref β), (1, iv f)] rfl (by decide) ?_
  refine v_push hx DX0_filled_2 ?_
  refine v_istore hx DX0_filled_3 [(3, iv 0), (2, iv 0), (0, .ref β), (1, iv f)] rfl (by decide) ?_
  exact v_sub [0, 1, 2, 3] _ rfl (L4 100 0 0 (by omega) (by omega) rfl)
theorem b_fits (l : Launch) (G : Gl) (Λ : Lay) (sz : Nat) (μ : Mem) {β : Nat} {b : Bd} {f : Int} (hK : boardK Λ β) (hb : BA μ β b) (hf : 0 ≤ f ∧ f < 3) : Sp l G yX0_fits cX0_fits 4 (some FieldType.boolean) 4 [.ref β, iv f] Λ sz μ (pP μ (b.fit f)) := by
  refine Sp.intro (by decide) (Nat.le_of_ble_eq_true rfl) (fun x hx hBD => ?_)
  refine v_lv [(0, .ref β), (1, iv f)] rfl ?_
  have hfr := b.fl_rng f 5
  have hfr2 : 0 ≤ b.fl f 5 ∧ b.fl f 5 < 32 := hfr
  have uk := hb.1.2.2.1
  refine v_push hx DX0_fits_0 ?_
  refine v_istore hx DX0_fits_1 [(2, iv 3), (0, .ref β), (1, iv f)] rfl (by decide) ?_
  refine v_push hx DX0_fits_2 ?_
  refine v_istore hx DX0_fits_3 [(3, iv 4), (2, iv 3), (0, .ref β), (1, iv f)] rfl (by decide) ?_
  refine v_aload hx DX0_fits_4 2 rfl ?_
  refine v_get hx DX0_fits_5 FLRX0_18 hK.1 (fv_i rfl hb.2.2.2.1 : _ = iv b.2.2.1) ?_
  refine v_if_ne hx DX0_fits_8 (by omega) (fun c8 => ?_) (fun c8 => ?_)
  · skip
    refine v_aload hx DX0_fits_29 2 rfl ?_
    refine v_get hx DX0_fits_30 FLRX0_18 hK.1 (fv_i rfl hb.2.2.2.1 : _ = iv b.2.2.1) ?_
    refine v_push hx DX0_fits_33 ?_
    refine v_icmp_ne hx DX0_fits_34 (by omega) (by decide) (fun c34 => ?_) (fun c34 => ?_)
    · skip
      have e0 : (1 : Int) = b.fit f := by unfold Bd.fit; rw [if_neg c8, bz_pos (Or.inl c34)]
      refine v_push hx DX0_fits_47 ?_
      refine v_goto hx DX0_fits_48 ?_
      exact v_rz hx hBD (by omega) DX0_fits_52 (⟨rfl, e0⟩)
    · skip
      refine v_aload hx DX0_fits_37 2 rfl ?_
      refine v_iload hx DX0_fits_38 3 rfl ?_
      refine v_cVp hx DX0_fits_39 CVRX0_73 [iv f] (b_filled l G Λ sz μ hK hb hf) hK.1 rfl rfl (Nat.le_of_ble_eq_true rfl) (by decide) ⟨Nat.le_refl _, Nat.le_refl _⟩ ?_
      refine v_iload hx DX0_fits_42 1 rfl ?_
      refine v_iand hx DX0_fits_43 (z := b.fl f 5 % 4) (bit_and3 hfr2) ?_
      refine v_if_ne hx DX0_fits_44 (by omega) (fun c44 => ?_) (fun c44 => ?_)
      · skip
        have e0 : (0 : Int) = b.fit f := by unfold Bd.fit; rw [if_neg c8, bz_neg (fun q => q.elim (fun q => q c34) c44)]
        refine v_push hx DX0_fits_51 ?_
        exact v_rz hx hBD (by omega) DX0_fits_52 (⟨rfl, e0⟩)
      · skip
        have e0 : (1 : Int) = b.fit f := by unfold Bd.fit; rw [if_neg c8, bz_pos (Or.inr c44)]
        refine v_push hx DX0_fits_47 ?_
        refine v_goto hx DX0_fits_48 ?_
        exact v_rz hx hBD (by omega) DX0_fits_52 (⟨rfl, e0⟩)
  · skip
    refine v_aload hx DX0_fits_11 2 rfl ?_
    refine v_iload hx DX0_fits_12 3 rfl ?_
    refine v_cVp hx DX0_fits_13 CVRX0_73 [iv f] (b_filled l G Λ sz μ hK hb hf) hK.1 rfl rfl (Nat.le_of_ble_eq_true rfl) (by decide) ⟨Nat.le_refl _, Nat.le_refl _⟩ ?_
    refine v_iload hx DX0_fits_16 0 rfl ?_
    refine v_push hx DX0_fits_17 ?_
    refine v_ixor hx DX0_fits_18 (z := -5) (by decide +kernel) ?_
    refine v_iand hx DX0_fits_19 (z := b.fl f 5 - b.fl f 5 / 4 % 2 * 4) (bit_and5 hfr2) ?_
    refine v_if_ne hx DX0_fits_20 (by omega) (fun c20 => ?_) (fun c20 => ?_)
    · skip
      have e0 : (0 : Int) = b.fit f := by unfold Bd.fit; rw [if_pos c8, bz_neg c20]
      refine v_push hx DX0_fits_27 ?_
      exact v_rz hx hBD (by omega) DX0_fits_28 (⟨rfl, e0⟩)
    · skip
      have e0 : (1 : Int) = b.fit f := by unfold Bd.fit; rw [if_pos c8, bz_pos c20]
      refine v_push hx DX0_fits_23 ?_
      refine v_goto hx DX0_fits_24 ?_
      exact v_rz hx hBD (by omega) DX0_fits_28 (⟨rfl, e0⟩)
theorem b_denominators (l : Launch) (G : Gl) (Λ : Lay) (sz : Nat) (μ : Mem) {β : Nat} {b : Bd} {f : Int} (hK : boardK Λ β) (hb : BA μ β b) (hf : 0 ≤ f ∧ f < 3) : Sp l G yX0_denominators cX0_denominators 6 (some FieldType.int) 3 [.ref β, iv f] Λ sz μ (pP μ (b.dn f 5)) := by
  refine Sp.intro (by decide) (Nat.le_of_ble_eq_true rfl) (fun x hx hBD => ?_)
  refine v_lv [(0, .ref β), (1, iv f)] rfl ?_
  have L15 : ∀ (nf : Nat) (k z j w : Int), (k - j < (nf : Int)) → (0 ≤ k ∧ k < 5) → (0 ≤ j ∧ j ≤ k) → (w = bz (b.frs f k j)) → (∀ (v : Int), (v = bz (b.frs f k k)) → V G x (0, 0) Λ sz μ 57 [(4, iv v), (3, iv k), (2, iv z), (0, .ref β), (1, iv f)] []) → V G x (0, 0) Λ sz μ 15 [(5, iv j), (4, iv w), (3, iv k), (2, iv z), (0, .ref β), (1, iv f)] [] := by
    intro nf
    induction nf with
    | zero => intro k z j w hm hk hj hw hC; exact absurd hm (by omega)
    | succ nf ih =>
      intro k z j w hm hk hj hw hC
      refine v_iload hx DX0_denominators_15 0 rfl ?_
      refine v_iload hx DX0_denominators_17 2 rfl ?_
      refine v_icmp_ge hx DX0_denominators_18 (by omega) (by omega) (fun c18 => ?_) (fun c18 => ?_)
      · skip
        exact v_sub [1, 2, 3, 4, 5] _ rfl (hC w (by rw [hw, show j = k by omega]))
      · skip
        refine v_iload hx DX0_denominators_21 1 rfl ?_
        refine v_aload hx DX0_denominators_23 4 rfl ?_
        refine v_iload hx DX0_denominators_24 5 rfl ?_
        refine v_push hx DX0_denominators_25 ?_
        refine v_imul hx DX0_denominators_26 ?_
        refine v_iload hx DX0_denominators_27 0 rfl ?_
        refine v_iadd hx DX0_denominators_29 ?_
        refine v_iload hx DX0_denominators_30 5 rfl ?_
        refine v_push hx DX0_denominators_31 ?_
        refine v_imul hx DX0_denominators_32 ?_
        refine v_iload hx DX0_denominators_33 2 rfl ?_
        refine v_iadd hx DX0_denominators_34 ?_
        refine v_push hx DX0_denominators_35 ?_
        refine v_cVp hx DX0_denominators_37 CVRX0_76 [iv ((f * 5) + j), iv ((f * 5) + k), iv 7] (b_agree l G Λ sz μ hK hb (by omega) (by omega) (by omega)) hK.1 rfl rfl (Nat.le_of_ble_eq_true rfl) (by decide) ⟨Nat.le_refl _, Nat.le_refl _⟩ ?_
        have hag := bz_rng (b.agP (f * 5 + j) (f * 5 + k) 7)
        refine v_if_ne hx DX0_denominators_40 (by omega) (fun c40 => ?_) (fun c40 => ?_)
        · skip
          have hn : (0 : Int) = bz (¬ b.agP (f * 5 + j) (f * 5 + k) 7) := (bz_neg (fun q => c40 (bz_neg q))).symm
          refine v_push hx DX0_denominators_47 ?_
          refine v_iand hx DX0_denominators_48 (z := bz (b.frs f k j ∧ ¬ b.agP (f * 5 + j) (f * 5 + k) 7)) (by rw [hw, ← bz_and, show (0 : Int) = bz (¬ b.agP (f * 5 + j) (f * 5 + k) 7) from hn]) ?_
          refine v_istore hx DX0_denominators_49 [(4, iv (bz (b.frs f k j ∧ ¬ b.agP (f * 5 + j) (f * 5 + k) 7))), (5, iv j), (3, iv k), (2, iv z), (0, .ref β), (1, iv f)] rfl (by decide) ?_
          refine v_iinc hx DX0_denominators_51 1 rfl [(5, iv (j + 1)), (4, iv (bz (b.frs f k j ∧ ¬ b.agP (f * 5 + j) (f * 5 + k) 7))), (3, iv k), (2, iv z), (0, .ref β), (1, iv f)] rfl (by decide) ?_
          refine v_goto hx DX0_denominators_54 ?_
          exact v_sub [0, 1, 2, 3, 4, 5] _ rfl (ih k z (j + 1) (bz (b.frs f k j ∧ ¬ b.agP (f * 5 + j) (f * 5 + k) 7)) (by omega) hk (by omega) (by rw [show b.frs f k (j + 1) = (b.frs f k j ∧ ¬ b.agP (f * 5 + j) (f * 5 + k) 7) from propext ⟨fun h => ⟨fun i h0 h1 => h i h0 (by omega), h j (by omega) (by omega)⟩, fun h i h0 h1 => (Int.lt_or_le i j).elim (h.1 i h0) (fun q => (show j = i by omega) ▸ h.2)⟩]) hC)
        · skip
          have hn : (1 : Int) = bz (¬ b.agP (f * 5 + j) (f * 5 + k) 7) := (bz_pos (bz_zero.mp c40)).symm
          refine v_push hx DX0_denominators_43 ?_
          refine v_goto hx DX0_denominators_44 ?_
          refine v_iand hx DX0_denominators_48 (z := bz (b.frs f k j ∧ ¬ b.agP (f * 5 + j) (f * 5 + k) 7)) (by rw [hw, ← bz_and, show (1 : Int) = bz (¬ b.agP (f * 5 + j) (f * 5 + k) 7) from hn]) ?_
          refine v_istore hx DX0_denominators_49 [(4, iv (bz (b.frs f k j ∧ ¬ b.agP (f * 5 + j) (f * 5 + k) 7))), (5, iv j), (3, iv k), (2, iv z), (0, .ref β), (1, iv f)] rfl (by decide) ?_
          refine v_iinc hx DX0_denominators_51 1 rfl [(5, iv (j + 1)), (4, iv (bz (b.frs f k j ∧ ¬ b.agP (f * 5 + j) (f * 5 + k) 7))), (3, iv k), (2, iv z), (0, .ref β), (1, iv f)] rfl (by decide) ?_
          refine v_goto hx DX0_denominators_54 ?_
          exact v_sub [0, 1, 2, 3, 4, 5] _ rfl (ih k z (j + 1) (bz (b.frs f k j ∧ ¬ b.agP (f * 5 + j) (f * 5 + k) 7)) (by omega) hk (by omega) (by rw [show b.frs f k (j + 1) = (b.frs f k j ∧ ¬ b.agP (f * 5 + j) (f * 5 + k) 7) from propext ⟨fun h => ⟨fun i h0 h1 => h i h0 (by omega), h j (by omega) (by omega)⟩, fun h i h0 h1 => (Int.lt_or_le i j).elim (h.1 i h0) (fun q => (show j = i by omega) ▸ h.2)⟩]) hC)
  have L4 : ∀ (nf : Nat) (k z : Int), (5 - k < (nf : Int)) → (0 ≤ k ∧ k ≤ 5) → (z = b.dn f k.toNat) → V G x (0, 0) Λ sz μ 4 [(3, iv k), (2, iv z), (0, .ref β), (1, iv f)] [] := by
    intro nf
    induction nf with
    | zero => intro k z hm hk hz; exact absurd hm (by omega)
    | succ nf ih =>
      intro k z hm hk hz
      refine v_iload hx DX0_denominators_4 0 rfl ?_
      refine v_push hx DX0_denominators_5 ?_
      refine v_icmp_ge hx DX0_denominators_6 (by omega) (by decide) (fun c6 => ?_) (fun c6 => ?_)
      · skip
        refine v_iload hx DX0_denominators_76 1 rfl ?_
        exact v_ri hx hBD DX0_denominators_77 (⟨rfl, by rw [hz, show k.toNat = 5 by omega]⟩)
      · skip
        refine v_push hx DX0_denominators_9 ?_
        refine v_istore hx DX0_denominators_10 [(4, iv 1), (3, iv k), (2, iv z), (0, .ref β), (1, iv f)] rfl (by decide) ?_
        refine v_push hx DX0_denominators_12 ?_
        refine v_istore hx DX0_denominators_13 [(5, iv 0), (4, iv 1), (3, iv k), (2, iv z), (0, .ref β), (1, iv f)] rfl (by decide) ?_
        refine v_sub [0, 1, 2, 3, 4, 5] _ rfl (L15 100 k z 0 1 (by omega) (by omega) (by omega) (bz_pos (fun j h0 h1 => by omega)).symm (fun v hv => ?_))
        have hvr := bz_rng (b.frs f k k)
        refine v_iload hx DX0_denominators_57 2 rfl ?_
        refine v_iload hx DX0_denominators_58 0 rfl ?_
        refine v_if_eq hx DX0_denominators_60 (by omega) (fun c60 => ?_) (fun c60 => ?_)
        · skip
          have hq : z + 0 = z + bz (b.frs f k k) := by omega
          refine v_push hx DX0_denominators_67 ?_
          refine v_iadd hx DX0_denominators_68 ?_
          refine v_istore hx DX0_denominators_69 [(2, iv (z + 0)), (4, iv v), (3, iv k), (0, .ref β), (1, iv f)] rfl (by decide) ?_
          refine v_iinc hx DX0_denominators_70 2 rfl [(3, iv (k + 1)), (2, iv (z + 0)), (4, iv v), (0, .ref β), (1, iv f)] rfl (by decide) ?_
          refine v_goto hx DX0_denominators_73 ?_
          exact v_sub [0, 1, 3, 4] _ rfl (ih (k + 1) (z + 0) (by omega) (by omega) (by rw [show (k + 1).toNat = k.toNat + 1 by omega, Bd.dn, Int.toNat_of_nonneg hk.1, ← hz]; exact hq))
        · skip
          have hq : z + 1 = z + bz (b.frs f k k) := by omega
          refine v_push hx DX0_denominators_63 ?_
          refine v_goto hx DX0_denominators_64 ?_
          refine v_iadd hx DX0_denominators_68 ?_
          refine v_istore hx DX0_denominators_69 [(2, iv (z + 1)), (4, iv v), (3, iv k), (0, .ref β), (1, iv f)] rfl (by decide) ?_
          refine v_iinc hx DX0_denominators_70 2 rfl [(3, iv (k + 1)), (2, iv (z + 1)), (4, iv v), (0, .ref β), (1, iv f)] rfl (by decide) ?_
          refine v_goto hx DX0_denominators_73 ?_
          exact v_sub [0, 1, 3, 4] _ rfl (ih (k + 1) (z + 1) (by omega) (by omega) (by rw [show (k + 1).toNat = k.toNat + 1 by omega, Bd.dn, Int.toNat_of_nonneg hk.1, ← hz]; exact hq))
  refine v_push hx DX0_denominators_0 ?_
  refine v_istore hx DX0_denominators_1 [(2, iv 0), (0, .ref β), (1, iv f)] rfl (by decide) ?_
  refine v_push hx DX0_denominators_2 ?_
  refine v_istore hx DX0_denominators_3 [(3, iv 0), (2, iv 0), (0, .ref β), (1, iv f)] rfl (by decide) ?_
  exact v_sub [0, 1, 2, 3] _ rfl (L4 100 0 0 (by omega) (by omega) rfl)
theorem b_leastTwin (l : Launch) (G : Gl) (Λ : Lay) (sz : Nat) (μ : Mem) {β : Nat} {b : Bd} {f : Int} (hK : boardK Λ β) (hb : BA μ β b) (hf : 0 ≤ f ∧ f < 3) : Sp l G yX0_leastTwin cX0_leastTwin 5 (some FieldType.int) 3 [.ref β, iv f] Λ sz μ (pI (fun z μ' => μ' = μ ∧ 0 ≤ z ∧ z ≤ f ∧ b.twP z f 5 ∧ ∀ g : Int, 0 ≤ g → g < z → ¬ b.twP g f 5)) := by
  refine Sp.intro (by decide) (Nat.le_of_ble_eq_true rfl) (fun x hx hBD => ?_)
  refine v_lv [(0, .ref β), (1, iv f)] rfl ?_
  have L12 : ∀ (nf : Nat) (k w j : Int), (5 - j < (nf : Int)) → (0 ≤ k ∧ k < 3) → (0 ≤ j ∧ j ≤ 5) → (w = bz (b.twP k f j)) → (∀ (v : Int), (v = bz (b.twP k f 5)) → V G x (0, 0) Λ sz μ 46 [(3, iv v), (2, iv k), (0, .ref β), (1, iv f)] []) → V G x (0, 0) Λ sz μ 12 [(4, iv j), (3, iv w), (2, iv k), (0, .ref β), (1, iv f)] [] := by
    intro nf
    induction nf with
    | zero => intro k w j hm hk hj hw hC; exact absurd hm (by omega)
    | succ nf ih =>
      intro k w j hm hk hj hw hC
      have hwr := bz_rng (b.twP k f j)
      refine v_iload hx DX0_leastTwin_12 0 rfl ?_
      refine v_push hx DX0_leastTwin_14 ?_
      refine v_icmp_ge hx DX0_leastTwin_15 (by omega) (by decide) (fun c15 => ?_) (fun c15 => ?_)
      · skip
        exact v_sub [1, 2, 3, 4] _ rfl (hC w (by rw [hw, show j = 5 by omega]))
      · skip
        refine v_iload hx DX0_leastTwin_18 1 rfl ?_
        refine v_if_eq hx DX0_leastTwin_19 (by omega) (fun c19 => ?_) (fun c19 => ?_)
        · skip
          exact v_sub [1, 2, 3, 4] _ rfl (hC w (by rw [c19]; exact (bz_neg (fun h => (bz_zero.mp (hw ▸ c19)) (fun i h0 h1 => h i h0 (by omega)))).symm))
        · skip
          refine v_aload hx DX0_leastTwin_22 3 rfl ?_
          refine v_iload hx DX0_leastTwin_23 2 rfl ?_
          refine v_push hx DX0_leastTwin_24 ?_
          refine v_imul hx DX0_leastTwin_25 ?_
          refine v_iload hx DX0_leastTwin_26 0 rfl ?_
          refine v_iadd hx DX0_leastTwin_28 ?_
          refine v_iload hx DX0_leastTwin_29 4 rfl ?_
          refine v_push hx DX0_leastTwin_30 ?_
          refine v_imul hx DX0_leastTwin_31 ?_
          refine v_iload hx DX0_leastTwin_32 0 rfl ?_
          refine v_iadd hx DX0_leastTwin_34 ?_
          refine v_push hx DX0_leastTwin_35 ?_
          refine v_cVp hx DX0_leastTwin_36 CVRX0_76 [iv ((k * 5) + j), iv ((f * 5) + j), iv 0] (b_agree l G Λ sz μ hK hb (by omega) (by omega) (by omega)) hK.1 rfl rfl (Nat.le_of_ble_eq_true rfl) (by decide) ⟨Nat.le_refl _, Nat.le_refl _⟩ ?_
          have hag := bz_rng (b.agP (k * 5 + j) (f * 5 + j) 0)
          refine v_istore hx DX0_leastTwin_39 [(3, iv (bz (b.agP (k * 5 + j) (f * 5 + j) 0))), (4, iv j), (2, iv k), (0, .ref β), (1, iv f)] rfl (by decide) ?_
          refine v_iinc hx DX0_leastTwin_40 1 rfl [(4, iv (j + 1)), (3, iv (bz (b.agP (k * 5 + j) (f * 5 + j) 0))), (2, iv k), (0, .ref β), (1, iv f)] rfl (by decide) ?_
          refine v_goto hx DX0_leastTwin_43 ?_
          exact v_sub [0, 1, 2, 3, 4] _ rfl (ih k (bz (b.agP (k * 5 + j) (f * 5 + j) 0)) (j + 1) (by omega) hk (by omega) (by rw [show b.twP k f (j + 1) = b.agP (k * 5 + j) (f * 5 + j) 0 from propext ⟨fun h => h j (by omega) (by omega), fun h i h0 h1 => (Int.lt_or_le i j).elim ((bz_one.mp (show bz (b.twP k f j) = 1 by omega)) i h0) (fun q => (show j = i by omega) ▸ h)⟩]) hC)
  have L2 : ∀ (nf : Nat) (k : Int), (f - k < (nf : Int)) → (0 ≤ k ∧ k ≤ f) → (∀ j : Int, 0 ≤ j → j < k → ¬ b.twP j f 5) → V G x (0, 0) Λ sz μ 2 [(2, iv k), (0, .ref β), (1, iv f)] [] := by
    intro nf
    induction nf with
    | zero => intro k hm hk hz; exact absurd hm (by omega)
    | succ nf ih =>
      intro k hm hk hz
      refine v_iload hx DX0_leastTwin_2 0 rfl ?_
      refine v_iload hx DX0_leastTwin_3 2 rfl ?_
      refine v_icmp_ge hx DX0_leastTwin_4 (by omega) (by omega) (fun c4 => ?_) (fun c4 => ?_)
      · skip
        refine v_iload hx DX0_leastTwin_58 2 rfl ?_
        exact v_ri hx hBD DX0_leastTwin_59 (⟨rfl, by omega, by omega, fun i h0 h1 j q0 q1 => rfl, fun g h0 h1 => hz g h0 (by omega)⟩)
      · skip
        refine v_push hx DX0_leastTwin_7 ?_
        refine v_istore hx DX0_leastTwin_8 [(3, iv 1), (2, iv k), (0, .ref β), (1, iv f)] rfl (by decide) ?_
        refine v_push hx DX0_leastTwin_9 ?_
        refine v_istore hx DX0_leastTwin_10 [(4, iv 0), (3, iv 1), (2, iv k), (0, .ref β), (1, iv f)] rfl (by decide) ?_
        refine v_sub [0, 1, 2, 3, 4] _ rfl (L12 100 k 1 0 (by omega) (by omega) (by omega) (bz_pos (fun j h0 h1 => by omega)).symm (fun v hv => ?_))
        have hvr := bz_rng (b.twP k f 5)
        refine v_iload hx DX0_leastTwin_46 0 rfl ?_
        refine v_if_eq hx DX0_leastTwin_47 (by omega) (fun c47 => ?_) (fun c47 => ?_)
        · skip
          refine v_iinc hx DX0_leastTwin_52 1 rfl [(2, iv (k + 1)), (3, iv v), (0, .ref β), (1, iv f)] rfl (by decide) ?_
          refine v_goto hx DX0_leastTwin_55 ?_
          exact v_sub [0, 2, 3] _ rfl (ih (k + 1) (by omega) (by omega) (fun j h0 h1 => (Int.lt_or_le j k).elim (hz j h0) (fun q => (show k = j by omega) ▸ (bz_zero.mp (hv ▸ c47)))))
        · skip
          refine v_iload hx DX0_leastTwin_50 1 rfl ?_
          exact v_ri hx hBD DX0_leastTwin_51 (⟨rfl, by omega, by omega, bz_one.mp (show bz (b.twP k f 5) = 1 by omega), hz⟩)
  refine v_push hx DX0_leastTwin_0 ?_
  refine v_istore hx DX0_leastTwin_1 [(2, iv 0), (0, .ref β), (1, iv f)] rfl (by decide) ?_
  exact v_sub [0, 1, 2] _ rfl (L2 100 0 (by omega) (by omega) (fun j h0 h1 => by omega))
