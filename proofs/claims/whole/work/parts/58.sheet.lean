theorem n_isNumber (l : Launch) (G : Gl) (Λ : Lay) (sz : Nat) (μ : Mem) {w : Int64}  : Sp l G yX11_isNumber cX11_isNumber 2 (some FieldType.boolean) 0 [.long w] Λ sz μ (pP μ (bz (isN w))) := by
  refine Sp.intro (by decide) (Nat.le_of_ble_eq_true rfl) (fun x hx hBD => ?_)
  refine v_lv [(0, .long w)] rfl ?_
  have z0 : (0 : Int64).toInt = 0 := rfl
  have z1 : (101 : Int64).toInt = 101 := rfl
  refine v_lload hx DX11_isNumber_0 0 rfl ?_
  refine v_lconst hx DX11_isNumber_1 (w := 0) rfl ?_
  refine v_lcmp hx DX11_isNumber_2 ?_
  have cr2 := cmpI_rng w 0
  refine v_if_lt hx DX11_isNumber_3 (by omega) (fun c3 => ?_) (fun c3 => ?_)
  · skip
    have e0 : (0 : Int) = bz (isN w) := (bz_neg (fun q => by have := cmpI_lt.mp c3; have := q.1; omega)).symm
    refine v_push hx DX11_isNumber_18 ?_
    exact v_rz hx hBD (by omega) DX11_isNumber_19 (⟨rfl, e0⟩)
  · skip
    refine v_lload hx DX11_isNumber_6 0 rfl ?_
    refine v_ldc2 hx DX11_isNumber_7 cnRX11_363 ?_
    refine v_lcmp hx DX11_isNumber_10 ?_
    have cr10 := cmpI_rng w 101
    refine v_if_ge hx DX11_isNumber_11 (by omega) (fun c11 => ?_) (fun c11 => ?_)
    · skip
      have e0 : (0 : Int) = bz (isN w) := (bz_neg (fun q => by have h1 : ¬ cmpI w 101 < 0 := (by omega); rw [cmpI_lt] at h1; have := q.2; omega)).symm
      refine v_push hx DX11_isNumber_18 ?_
      exact v_rz hx hBD (by omega) DX11_isNumber_19 (⟨rfl, e0⟩)
    · skip
      have e0 : (1 : Int) = bz (isN w) := (bz_pos ⟨by rw [cmpI_lt] at c3; omega, by have h1 : cmpI w 101 < 0 := (by omega); rw [cmpI_lt] at h1; omega⟩).symm
      refine v_push hx DX11_isNumber_14 ?_
      refine v_goto hx DX11_isNumber_15 ?_
      exact v_rz hx hBD (by omega) DX11_isNumber_19 (⟨rfl, e0⟩)
theorem s_isMissing (l : Launch) (G : Gl) (Λ : Lay) (sz : Nat) (μ : Mem) {σ : Nat} {s : Sht} (hS : sheetK Λ σ) (hs : SA μ σ s) : Sp l G yX8_isMissing cX8_isMissing 1 (some FieldType.boolean) 0 [.ref σ] Λ sz μ (pP μ (bz (s.1 = -1))) := by
  refine Sp.intro (by decide) (Nat.le_of_ble_eq_true rfl) (fun x hx hBD => ?_)
  refine v_lv [(0, .ref σ)] rfl ?_
  have r1 := hs.1
  refine v_aload hx DX8_isMissing_0 0 rfl ?_
  refine v_get hx DX8_isMissing_1 FLRX8_15 hS.1 (fv_i rfl hs.2.2.1 : _ = iv s.1) ?_
  refine v_push hx DX8_isMissing_4 ?_
  refine v_icmp_ne hx DX8_isMissing_5 (by omega) (by decide) (fun c5 => ?_) (fun c5 => ?_)
  · skip
    have e0 : (0 : Int) = bz (s.1 = -1) := (bz_neg c5).symm
    refine v_push hx DX8_isMissing_12 ?_
    exact v_rz hx hBD (by omega) DX8_isMissing_13 (⟨rfl, e0⟩)
  · skip
    have e0 : (1 : Int) = bz (s.1 = -1) := (bz_pos c5).symm
    refine v_push hx DX8_isMissing_8 ?_
    refine v_goto hx DX8_isMissing_9 ?_
    exact v_rz hx hBD (by omega) DX8_isMissing_13 (⟨rfl, e0⟩)
theorem s_covers (l : Launch) (G : Gl) (Λ : Lay) (sz : Nat) (μ : Mem) {σ : Nat} {s : Sht} {i k : Int} (hS : sheetK Λ σ) (hs : SA μ σ s) (hi : inR i) (hk : inR k) : Sp l G yX8_covers cX8_covers 3 (some FieldType.boolean) 0 [.ref σ, iv i, iv k] Λ sz μ (pP μ (bz (0 ≤ i ∧ 0 ≤ k ∧ i + k ≤ s.2.1))) := by
  refine Sp.intro (by decide) (Nat.le_of_ble_eq_true rfl) (fun x hx hBD => ?_)
  refine v_lv [(0, .ref σ), (1, iv i), (2, iv k)] rfl ?_
  have r2 := hs.2.1
  refine v_iload hx DX8_covers_0 1 rfl ?_
  refine v_if_lt hx DX8_covers_1 (by omega) (fun c1 => ?_) (fun c1 => ?_)
  · skip
    have e0 : (0 : Int) = bz (0 ≤ i ∧ 0 ≤ k ∧ i + k ≤ s.2.1) := (bz_neg (fun q => by omega)).symm
    refine v_push hx DX8_covers_38 ?_
    exact v_rz hx hBD (by omega) DX8_covers_39 (⟨rfl, e0⟩)
  · skip
    refine v_iload hx DX8_covers_4 2 rfl ?_
    refine v_if_lt hx DX8_covers_5 (by omega) (fun c5 => ?_) (fun c5 => ?_)
    · skip
      have e0 : (0 : Int) = bz (0 ≤ i ∧ 0 ≤ k ∧ i + k ≤ s.2.1) := (bz_neg (fun q => by omega)).symm
      refine v_push hx DX8_covers_38 ?_
      exact v_rz hx hBD (by omega) DX8_covers_39 (⟨rfl, e0⟩)
    · skip
      refine v_iload hx DX8_covers_8 1 rfl ?_
      refine v_i2l hx DX8_covers_9 (w := (Int32.ofInt i).toInt64) rfl ?_
      refine v_iload hx DX8_covers_10 2 rfl ?_
      refine v_i2l hx DX8_covers_11 (w := (Int32.ofInt k).toInt64) rfl ?_
      refine v_ladd hx DX8_covers_12 ?_
      refine v_aload hx DX8_covers_13 0 rfl ?_
      refine v_get hx DX8_covers_14 FLRX8_19 hS.1 (fv_i rfl hs.2.2.2.1 : _ = iv s.2.1) ?_
      refine v_i2l hx DX8_covers_17 (w := (Int32.ofInt s.2.1).toInt64) rfl ?_
      refine v_lcmp hx DX8_covers_18 ?_
      have cr18 := cmpI_rng (((Int32.ofInt i).toInt64) + ((Int32.ofInt k).toInt64)) ((Int32.ofInt s.2.1).toInt64)
      refine v_if_gt hx DX8_covers_19 (by omega) (fun c19 => ?_) (fun c19 => ?_)
      · skip
        have e0 : (0 : Int) = bz (0 ≤ i ∧ 0 ≤ k ∧ i + k ≤ s.2.1) := (bz_neg (fun q => by rw [cmpI_gt, ladd_int hi hk, i2l_int (by omega)] at c19; omega)).symm
        refine v_push hx DX8_covers_38 ?_
        exact v_rz hx hBD (by omega) DX8_covers_39 (⟨rfl, e0⟩)
      · skip
        have e0 : (1 : Int) = bz (0 ≤ i ∧ 0 ≤ k ∧ i + k ≤ s.2.1) := (bz_pos (by rw [cmpI_gt, ladd_int hi hk, i2l_int (by omega)] at c19; omega)).symm
        refine v_aload hx DX8_covers_22 0 rfl ?_
        refine v_get hx DX8_covers_23 FLRX8_19 hS.1 (fv_i rfl hs.2.2.2.1 : _ = iv s.2.1) ?_
        refine v_aload hx DX8_covers_26 0 rfl ?_
        refine v_get hx DX8_covers_27 FLRX8_9 hS.1 (v := .ref (σ + 1)) rfl ?_
        refine v_alenI hx DX8_covers_30 hS.2 (by decide) (z := 24) rfl ?_
        refine v_icmp_gt hx DX8_covers_31 (by omega) (by decide) (fun c31 => ?_) (fun c31 => ?_)
        · exact absurd c31 (by omega)
        · skip
          refine v_push hx DX8_covers_34 ?_
          refine v_goto hx DX8_covers_35 ?_
          exact v_rz hx hBD (by omega) DX8_covers_39 (⟨rfl, e0⟩)
theorem s_refusal (l : Launch) (G : Gl) (Λ : Lay) (sz : Nat) (μ : Mem) {σ : Nat} {s : Sht} {lane i k : Int} (hS : sheetK Λ σ) (hs : SA μ σ s) (hl : inR lane) (hi : inR i) (hk : inR k) : Sp l G yX8_refusal cX8_refusal 4 (some FieldType.int) 1 [.ref σ, iv lane, iv i, iv k] Λ sz μ (pP μ (s.ref lane i k)) := by
  refine Sp.intro (by decide) (Nat.le_of_ble_eq_true rfl) (fun x hx hBD => ?_)
  refine v_lv [(0, .ref σ), (1, iv lane), (2, iv i), (3, iv k)] rfl ?_
  have r1 := hs.1
  refine v_aload hx DX8_refusal_0 0 rfl ?_
  refine v_cVp hx DX8_refusal_1 CVRX8_28 [] (s_isMissing l G Λ sz μ hS hs) hS.1 rfl rfl (Nat.le_of_ble_eq_true rfl) (by decide) ⟨Nat.le_refl _, Nat.le_refl _⟩ ?_
  have b1 := bz_rng (s.1 = -1)
  refine v_if_eq hx DX8_refusal_4 (by omega) (fun c4 => ?_) (fun c4 => ?_)
  · skip
    have m0 : ¬ s.1 = -1 := bz_zero.mp c4
    refine v_aload hx DX8_refusal_10 0 rfl ?_
    refine v_get hx DX8_refusal_11 FLRX8_15 hS.1 (fv_i rfl hs.2.2.1 : _ = iv s.1) ?_
    refine v_iload hx DX8_refusal_14 1 rfl ?_
    refine v_icmp_eq hx DX8_refusal_15 (by omega) (by omega) (fun c15 => ?_) (fun c15 => ?_)
    · skip
      refine v_aload hx DX8_refusal_21 0 rfl ?_
      refine v_iload hx DX8_refusal_22 2 rfl ?_
      refine v_iload hx DX8_refusal_23 3 rfl ?_
      refine v_cVp hx DX8_refusal_24 CVRX8_32 [iv i, iv k] (s_covers l G Λ sz μ hS hs hi hk) hS.1 rfl rfl (Nat.le_of_ble_eq_true rfl) (by decide) ⟨Nat.le_refl _, Nat.le_refl _⟩ ?_
      have b2 := bz_rng (0 ≤ i ∧ 0 ≤ k ∧ i + k ≤ s.2.1)
      refine v_if_eq hx DX8_refusal_27 (by omega) (fun c27 => ?_) (fun c27 => ?_)
      · skip
        have e0 : (-13 : Int) = s.ref lane i k := by unfold Sht.ref; rw [if_neg m0, if_neg (fun q => q c15), if_neg (bz_zero.mp c27)]
        refine v_push hx DX8_refusal_34 ?_
        exact v_ri hx hBD DX8_refusal_36 (⟨rfl, e0⟩)
      · skip
        have e0 : (0 : Int) = s.ref lane i k := by unfold Sht.ref; rw [if_neg m0, if_neg (fun q => q c15), if_pos (bz_one.mp (show bz (0 ≤ i ∧ 0 ≤ k ∧ i + k ≤ s.2.1) = 1 by omega))]
        refine v_push hx DX8_refusal_30 ?_
        refine v_goto hx DX8_refusal_31 ?_
        exact v_ri hx hBD DX8_refusal_36 (⟨rfl, e0⟩)
    · skip
      have e0 : (-12 : Int) = s.ref lane i k := by unfold Sht.ref; rw [if_neg m0, if_pos c15]
      refine v_push hx DX8_refusal_18 ?_
      exact v_ri hx hBD DX8_refusal_20 (⟨rfl, e0⟩)
  · skip
    have e0 : (-11 : Int) = s.ref lane i k := by unfold Sht.ref; rw [if_pos (bz_one.mp (show bz (s.1 = -1) = 1 by omega))]
    refine v_push hx DX8_refusal_7 ?_
    exact v_ri hx hBD DX8_refusal_9 (⟨rfl, e0⟩)
theorem s_holds (l : Launch) (G : Gl) (Λ : Lay) (sz : Nat) (μ : Mem) {σ : Nat} {s : Sht} {i k : Int} (hS : sheetK Λ σ) (hs : SA μ σ s) (hi : 0 ≤ i ∧ 0 ≤ k ∧ i + k ≤ 24) : Sp l G yX8_holdsNumbers cX8_holdsNumbers 4 (some FieldType.boolean) 1 [.ref σ, iv i, iv k] Λ sz μ (pP μ (bz (∀ j : Int, i ≤ j → j < i + k → isN (s.2.2 j)))) := by
  refine Sp.intro (by decide) (Nat.le_of_ble_eq_true rfl) (fun x hx hBD => ?_)
  refine v_lv [(0, .ref σ), (1, iv i), (2, iv k)] rfl ?_
  have L2 : ∀ (nf : Nat) (j : Int), (i + k - j < (nf : Int)) → (i ≤ j ∧ j ≤ i + k) → (∀ q : Int, i ≤ q → q < j → isN (s.2.2 q)) → V G x (0, 0) Λ sz μ 2 [(3, iv j), (0, .ref σ), (1, iv i), (2, iv k)] [] := by
    intro nf
    induction nf with
    | zero => intro j hm hj hz; exact absurd hm (by omega)
    | succ nf ih =>
      intro j hm hj hz
      refine v_iload hx DX8_holdsNumbers_2 0 rfl ?_
      refine v_iload hx DX8_holdsNumbers_3 2 rfl ?_
      refine v_iload hx DX8_holdsNumbers_4 3 rfl ?_
      refine v_iadd hx DX8_holdsNumbers_5 ?_
      refine v_icmp_ge hx DX8_holdsNumbers_6 (by omega) (by omega) (fun c6 => ?_) (fun c6 => ?_)
      · skip
        have e0 : (1 : Int) = bz (∀ j : Int, i ≤ j → j < i + k → isN (s.2.2 j)) := (bz_pos (fun q h0 h1 => hz q h0 (by omega))).symm
        refine v_push hx DX8_holdsNumbers_42 ?_
        exact v_rz hx hBD (by omega) DX8_holdsNumbers_43 (⟨rfl, e0⟩)
      · skip
        refine v_iload hx DX8_holdsNumbers_9 0 rfl ?_
        refine v_if_lt hx DX8_holdsNumbers_10 (by omega) (fun c10 => ?_) (fun c10 => ?_)
        · exact absurd c10 (by omega)
        · skip
          refine v_iload hx DX8_holdsNumbers_13 0 rfl ?_
          refine v_aload hx DX8_holdsNumbers_14 1 rfl ?_
          refine v_get hx DX8_holdsNumbers_15 FLRX8_9 hS.1 (v := .ref (σ + 1)) rfl ?_
          refine v_alenI hx DX8_holdsNumbers_18 hS.2 (by decide) (z := 24) rfl ?_
          refine v_icmp_ge hx DX8_holdsNumbers_19 (by omega) (by decide) (fun c19 => ?_) (fun c19 => ?_)
          · exact absurd c19 (by omega)
          · skip
            refine v_aload hx DX8_holdsNumbers_22 1 rfl ?_
            refine v_get hx DX8_holdsNumbers_23 FLRX8_9 hS.1 (v := .ref (σ + 1)) rfl ?_
            refine v_iload hx DX8_holdsNumbers_26 0 rfl ?_
            refine v_lald hx DX8_holdsNumbers_27 hS.2 (by omega) (by decide) (w := s.2.2 j) (hs.2.2.2.2 j (by omega) (by omega)) ?_
            refine v_cNp hx DX8_holdsNumbers_28 CSRX8_36 [.long (s.2.2 j)] (n_isNumber l G Λ sz μ) rfl rfl (Nat.le_of_ble_eq_true rfl) (by decide) ⟨Nat.le_refl _, Nat.le_refl _⟩ ?_
            have b1 := bz_rng (isN (s.2.2 j))
            refine v_if_ne hx DX8_holdsNumbers_31 (by omega) (fun c31 => ?_) (fun c31 => ?_)
            · skip
              refine v_iinc hx DX8_holdsNumbers_36 0 rfl [(3, iv (j + 1)), (0, .ref σ), (1, iv i), (2, iv k)] rfl (by decide) ?_
              refine v_goto hx DX8_holdsNumbers_39 ?_
              exact v_sub [0, 1, 2, 3] _ rfl (ih (j + 1) (by omega) (by omega) (fun q h0 h1 => (Int.lt_or_le q j).elim (hz q h0) (fun g => (show j = q by omega) ▸ bz_one.mp (show bz (isN (s.2.2 j)) = 1 by omega))))
            · skip
              have e0 : (0 : Int) = bz (∀ j : Int, i ≤ j → j < i + k → isN (s.2.2 j)) := (bz_neg (fun q => bz_zero.mp c31 (q j (by omega) (by omega)))).symm
              refine v_push hx DX8_holdsNumbers_34 ?_
              exact v_rz hx hBD (by omega) DX8_holdsNumbers_35 (⟨rfl, e0⟩)
  refine v_iload hx DX8_holdsNumbers_0 1 rfl ?_
  refine v_istore hx DX8_holdsNumbers_1 [(3, iv i), (0, .ref σ), (1, iv i), (2, iv k)] rfl (by decide) ?_
  exact v_sub [0, 1, 2, 3] _ rfl (L2 100 i (by omega) (by omega) (fun q h0 h1 => by omega))
theorem s_number (l : Launch) (G : Gl) (Λ : Lay) (sz : Nat) (μ : Mem) {σ : Nat} {s : Sht} {i : Int} (hS : sheetK Λ σ) (hs : SA μ σ s) (hi : 0 ≤ i ∧ i < 24) : Sp l G yX8_number cX8_number 2 (some FieldType.int) 0 [.ref σ, iv i] Λ sz μ (pP μ ((s.2.2 i).toInt32.toInt)) := by
  refine Sp.intro (by decide) (Nat.le_of_ble_eq_true rfl) (fun x hx hBD => ?_)
  refine v_lv [(0, .ref σ), (1, iv i)] rfl ?_
  refine v_iload hx DX8_number_0 1 rfl ?_
  refine v_if_lt hx DX8_number_1 (by omega) (fun c1 => ?_) (fun c1 => ?_)
  · exact absurd c1 (by omega)
  · skip
    refine v_iload hx DX8_number_4 1 rfl ?_
    refine v_aload hx DX8_number_5 0 rfl ?_
    refine v_get hx DX8_number_6 FLRX8_9 hS.1 (v := .ref (σ + 1)) rfl ?_
    refine v_alenI hx DX8_number_9 hS.2 (by decide) (z := 24) rfl ?_
    refine v_icmp_ge hx DX8_number_10 (by omega) (by decide) (fun c10 => ?_) (fun c10 => ?_)
    · exact absurd c10 (by omega)
    · skip
      refine v_aload hx DX8_number_13 0 rfl ?_
      refine v_get hx DX8_number_14 FLRX8_9 hS.1 (v := .ref (σ + 1)) rfl ?_
      refine v_iload hx DX8_number_17 1 rfl ?_
      refine v_lald hx DX8_number_18 hS.2 (by omega) (by decide) (w := s.2.2 i) (hs.2.2.2.2 i (by omega) (by omega)) ?_
      refine v_l2i hx DX8_number_19 (a := (s.2.2 i).toInt32.toInt) ((o32 _).symm) ?_
      refine v_goto hx DX8_number_20 ?_
      exact v_ri hx hBD DX8_number_24 (⟨rfl, rfl⟩)
theorem s_sset (l : Launch) (G : Gl) (Λ : Lay) (sz : Nat) (μ : Mem) {σ : Nat} {s : Sht} {i : Int} {w : Int64} (hS : sheetK Λ σ) (hs : SA μ σ s) (hi : 0 ≤ i ∧ i < 24) : Sp l G yX8_set cX8_set 4 none 0 [.ref σ, iv i, .long w] Λ sz μ (pV (fun μ' => SA μ' σ (s.1, s.2.1, fun j => if j = i then cut s.1 w else s.2.2 j) ∧ FrS σ μ μ')) := by
  refine Sp.intro (by decide) (Nat.le_of_ble_eq_true rfl) (fun x hx hBD => ?_)
  refine v_lv [(0, .ref σ), (1, iv i), (2, .long w)] rfl ?_
  have r1 := hs.1
  refine v_iload hx DX8_set_0 1 rfl ?_
  refine v_if_lt hx DX8_set_1 (by omega) (fun c1 => ?_) (fun c1 => ?_)
  · exact absurd c1 (by omega)
  · skip
    refine v_iload hx DX8_set_4 1 rfl ?_
    refine v_aload hx DX8_set_5 0 rfl ?_
    refine v_get hx DX8_set_6 FLRX8_9 hS.1 (v := .ref (σ + 1)) rfl ?_
    refine v_alenI hx DX8_set_9 hS.2 (by decide) (z := 24) rfl ?_
    refine v_icmp_lt hx DX8_set_10 (by omega) (by decide) (fun c10 => ?_) (fun c10 => ?_)
    · skip
      refine v_aload hx DX8_set_14 0 rfl ?_
      refine v_get hx DX8_set_15 FLRX8_15 hS.1 (fv_i rfl hs.2.2.1 : _ = iv s.1) ?_
      by_cases t18_0 : s.1 = 0
      · skip
        refine v_tabIn hx DX8_set_18 (by omega) (by omega) (off := 26) (tgt := 44) (by rw [t18_0]; rfl) (by decide) ?_
        refine v_aload hx DX8_set_44 0 rfl ?_
        refine v_get hx DX8_set_45 FLRX8_9 hS.1 (v := .ref (σ + 1)) rfl ?_
        refine v_iload hx DX8_set_48 1 rfl ?_
        refine v_lload hx DX8_set_49 2 rfl ?_
        refine v_l2i hx DX8_set_50 (a := w.toInt32.toInt) ((o32 _).symm) ?_
        refine v_i2b hx DX8_set_51 (z := w.toInt32.toInt8.toInt32.toInt) (by rw [o32, o32]) ?_
        refine v_i2l hx DX8_set_52 (w := w.toInt32.toInt8.toInt32.toInt64) (by rw [o32]) ?_
        refine v_last hx DX8_set_53 hS.2 (by omega) (by decide) (v_mem (fun μ1 eμ1 => ?_))
        have hv := hs.set (i := i) (w := w) (by unfold cut; rw [if_pos t18_0]) eμ1
        refine v_goto hx DX8_set_54 ?_
        exact v_rv hx hBD DX8_set_89 hv
      by_cases t18_1 : s.1 = 1
      · skip
        refine v_tabIn hx DX8_set_18 (by omega) (by omega) (off := 39) (tgt := 57) (by rw [t18_1]; rfl) (by decide) ?_
        refine v_aload hx DX8_set_57 0 rfl ?_
        refine v_get hx DX8_set_58 FLRX8_9 hS.1 (v := .ref (σ + 1)) rfl ?_
        refine v_iload hx DX8_set_61 1 rfl ?_
        refine v_lload hx DX8_set_62 2 rfl ?_
        refine v_l2i hx DX8_set_63 (a := w.toInt32.toInt) ((o32 _).symm) ?_
        refine v_i2s hx DX8_set_64 (z := w.toInt32.toInt16.toInt32.toInt) (by rw [o32, o32]) ?_
        refine v_i2l hx DX8_set_65 (w := w.toInt32.toInt16.toInt32.toInt64) (by rw [o32]) ?_
        refine v_last hx DX8_set_66 hS.2 (by omega) (by decide) (v_mem (fun μ2 eμ2 => ?_))
        have hv := hs.set (i := i) (w := w) (by unfold cut; rw [if_neg t18_0, if_pos t18_1]) eμ2
        refine v_goto hx DX8_set_67 ?_
        exact v_rv hx hBD DX8_set_89 hv
      by_cases t18_2 : s.1 = 2
      · skip
        refine v_tabIn hx DX8_set_18 (by omega) (by omega) (off := 52) (tgt := 70) (by rw [t18_2]; rfl) (by decide) ?_
        refine v_aload hx DX8_set_70 0 rfl ?_
        refine v_get hx DX8_set_71 FLRX8_9 hS.1 (v := .ref (σ + 1)) rfl ?_
        refine v_iload hx DX8_set_74 1 rfl ?_
        refine v_lload hx DX8_set_75 2 rfl ?_
        refine v_l2i hx DX8_set_76 (a := w.toInt32.toInt) ((o32 _).symm) ?_
        refine v_i2l hx DX8_set_77 (w := w.toInt32.toInt64) (by rw [o32]) ?_
        refine v_last hx DX8_set_78 hS.2 (by omega) (by decide) (v_mem (fun μ3 eμ3 => ?_))
        have hv := hs.set (i := i) (w := w) (by unfold cut; rw [if_neg t18_0, if_neg t18_1, if_pos t18_2]) eμ3
        refine v_goto hx DX8_set_79 ?_
        exact v_rv hx hBD DX8_set_89 hv
      refine v_tabOut hx DX8_set_18 (by omega) (by omega) (tgt := 82) (by decide) ?_
      refine v_aload hx DX8_set_82 0 rfl ?_
      refine v_get hx DX8_set_83 FLRX8_9 hS.1 (v := .ref (σ + 1)) rfl ?_
      refine v_iload hx DX8_set_86 1 rfl ?_
      refine v_lload hx DX8_set_87 2 rfl ?_
      refine v_last hx DX8_set_88 hS.2 (by omega) (by decide) (v_mem (fun μ4 eμ4 => ?_))
      have hv := hs.set (i := i) (w := w) (by unfold cut; rw [if_neg t18_0, if_neg t18_1, if_neg t18_2]) eμ4
      exact v_rv hx hBD DX8_set_89 hv
    · exact absurd c10 (by omega)
theorem j_fill (l : Launch) (G : Gl) (Λ : Lay) (sz : Nat) (μ : Mem) {a k : Nat} {w : Int64} (ha : Λ a = some (.inr (2, k, []))) (hk : k ≤ 2147483647) : Sp l G yJ7_fill_d0a16 cJ7_fill_d0a16 5 none 0 [.ref a, .long w] Λ sz μ (pV (fun μ' => μ'.1 = μ.1 ∧ (∀ j : Int, 0 ≤ j → j < k → μ'.2 a j = w) ∧ ∀ b, b ≠ a → μ'.2 b = μ.2 b)) := by
  refine Sp.introF (by decide +kernel) (Nat.le_of_ble_eq_true rfl) (fun x hx hBD => ?_)
  refine v_lv [(0, .ref a), (1, .long w)] rfl ?_
  have L6 : ∀ (nf : Nat) (j : Int) (m : Mem), (k - j < (nf : Int)) → (0 ≤ j ∧ j ≤ k) → (m.1 = μ.1) → (∀ q : Int, 0 ≤ q → q < j → m.2 a q = w) → (∀ b, b ≠ a → m.2 b = μ.2 b) → V G x (0, 0) Λ sz m 6 [(3, iv j), (4, iv (k : Int)), (0, .ref a), (1, .long w)] [] := by
    intro nf
    induction nf with
    | zero => intro j m hm hj h1 h2 h3; exact absurd hm (by omega)
    | succ nf ih =>
      intro j m hm hj h1 h2 h3
      refine v_iload hx DJ7_fill_d0a16_6 0 rfl ?_
      refine v_iload hx DJ7_fill_d0a16_7 1 rfl ?_
      refine v_icmp_ge hx DJ7_fill_d0a16_9 (by omega) (by omega) (fun c9 => ?_) (fun c9 => ?_)
      · skip
        exact v_rv hx hBD DJ7_fill_d0a16_22 (⟨h1, fun q g0 g1 => h2 q g0 (by omega), h3⟩)
      · skip
        refine v_aload hx DJ7_fill_d0a16_12 2 rfl ?_
        refine v_iload hx DJ7_fill_d0a16_13 0 rfl ?_
        refine v_lload hx DJ7_fill_d0a16_14 3 rfl ?_
        refine v_last hx DJ7_fill_d0a16_15 ha (by omega) hk (v_mem (fun μ1 eμ1 => ?_))
        refine v_iinc hx DJ7_fill_d0a16_16 0 rfl [(3, iv (j + 1)), (4, iv (k : Int)), (0, .ref a), (1, .long w)] rfl (by decide) ?_
        refine v_goto hx DJ7_fill_d0a16_19 ?_
        exact v_sub [0, 1, 2, 3] _ rfl (ih (j + 1) μ1 (by omega) (by omega) (by rw [eμ1]; exact h1) (fun q g0 g1 => by rw [eμ1, mL_at]; exact (Classical.em (q = j)).elim (fun c => by rw [if_pos c]) (fun c => by rw [if_neg c]; exact h2 q g0 (by omega))) (fun b hb => by rw [eμ1, mL_ne hb]; exact h3 b hb))
  refine v_push hx DJ7_fill_d0a16_0 ?_
  refine v_istore hx DJ7_fill_d0a16_1 [(3, iv 0), (0, .ref a), (1, .long w)] rfl (by decide) ?_
  refine v_aload hx DJ7_fill_d0a16_2 1 rfl ?_
  refine v_alenI hx DJ7_fill_d0a16_3 ha (by decide) (z := (k : Int)) rfl ?_
  refine v_istore hx DJ7_fill_d0a16_4 [(4, iv (k : Int)), (3, iv 0), (0, .ref a), (1, .long w)] rfl (by decide) ?_
  exact v_sub [1, 0, 2, 3] _ rfl (L6 (k + 1) 0 μ (by omega) (by omega) rfl (fun q h0 h1 => by omega) (fun b _ => rfl))
theorem s_create (l : Launch) (G : Gl) (Λ : Lay) (sz : Nat) (μ : Mem) {σ : Nat} {s : Sht} {lane k : Int} (hS : sheetK Λ σ) (hs : SA μ σ s) (hl : 0 ≤ lane ∧ lane ≤ 3) (hk : 0 ≤ k ∧ k ≤ 24) : Sp l G yX8_create cX8_create 3 none 1 [.ref σ, iv lane, iv k] Λ sz μ (pV (fun μ' => SA μ' σ (lane, k, fun _ => 0) ∧ FrS σ μ μ')) := by
  refine Sp.intro (by decide) (Nat.le_of_ble_eq_true rfl) (fun x hx hBD => ?_)
  refine v_lv [(0, .ref σ), (1, iv lane), (2, iv k)] rfl ?_
  refine v_aload hx DX8_create_0 0 rfl ?_
  refine v_iload hx DX8_create_1 1 rfl ?_
  refine v_pI hx DX8_create_2 FPRX8_15 hS.1 rfl (ki := 1) rfl (fun μ1 eμ1 => ?_)
  refine v_aload hx DX8_create_5 0 rfl ?_
  refine v_iload hx DX8_create_6 2 rfl ?_
  refine v_pI hx DX8_create_7 FPRX8_19 hS.1 rfl (ki := 2) rfl (fun μ2 eμ2 => ?_)
  refine v_aload hx DX8_create_10 0 rfl ?_
  refine v_get hx DX8_create_11 FLRX8_9 hS.1 (v := .ref (σ + 1)) rfl ?_
  refine v_lconst hx DX8_create_14 (w := 0) rfl ?_
  refine v_cSv hx DX8_create_15 CSRX8_22 [.ref (σ + 1), .long 0] (j_fill l G Λ sz μ2 hS.2 (by decide)) rfl rfl (Nat.le_of_ble_eq_true rfl) (by decide) ⟨Nat.le_refl _, Nat.le_refl _⟩ (fun μ3 hμ3 => ?_)
  exact v_rv hx hBD DX8_create_18 (⟨⟨⟨by show -1 ≤ lane; omega, hl.2⟩, hk, by rw [hμ3.1, eμ2, mI_ne2 (by decide), eμ1, mI_at2 rfl], by rw [hμ3.1, eμ2, mI_at2 rfl], fun j h0 h1 => hμ3.2.1 j h0 h1⟩, fun a ha => by rw [hμ3.1, eμ2, mI_ne ha, eμ1, mI_ne ha], fun a ha => by rw [hμ3.2.2 a ha, eμ2, eμ1]; rfl⟩)
