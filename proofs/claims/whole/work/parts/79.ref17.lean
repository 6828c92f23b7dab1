/-! ===== what the calls on functions answer ===== -/
theorem bzt {P : Prop} (h : ¬ bz P = 0) : P := Classical.byContradiction (fun q => h (bz_neg q))
theorem bzf {P : Prop} (h : bz P = 0) : ¬ P := bz_zero.mp h
def isTO (f i : Int) : Prop := 0 ≤ f ∧ f ≤ 2 ∧ -2 ≤ i ∧ i ≤ 2
theorem isTO.n {f i : Int} (h : isTO f i) : 0 ≤ f ∧ f ≤ 2 ∧ -2 ≤ i ∧ i ≤ 2 := h
noncomputable def coefA (b : Bd) (f i w k : Int) : Int := if bz (isTO f i ∧ (0 ≤ w ∧ w ≤ 1) ∧ 0 ≤ k) = 1 then (if w = 0 then ca (b.num (5 * f + i + 2)) k else ca (b.den (5 * f + i + 2)) k) else -1
noncomputable def Bd.txt (b : Bd) (t : Int) : List Int := ftxt (b.num t) (b.den t)
noncomputable def letA (b : Bd) (f i k : Int) : Int := if bz (isTO f i ∧ 0 ≤ k) = 1 then (if k < ((b.txt (5 * f + i + 2)).length : Int) then (b.txt (5 * f + i + 2)).getD k.toNat 0 else -4) else -1
noncomputable def valA (b : Bd) (f i v : Int) : Int := if bz (isTO f i ∧ 0 ≤ v ∧ v ≤ 100) = 1 then b.val (5 * f + i + 2) v else -1
noncomputable def tldA (b : Bd) (f w : Int) : Int := if bz ((0 ≤ f ∧ f ≤ 2) ∧ 0 ≤ w ∧ w ≤ 3) = 1 then (if w = 0 then b.fl f 5 else if w = 1 then b.dn f 5 else if w = 3 then b.fit f else b.tw f) else -1
def cntA (b : Bd) (h : Hs) (w : Int) : Int := if w = 0 then b.2.2.1 else if 1 ≤ w ∧ w ≤ 4 then b.2.1 (w - 1) else if w = 5 then (h.1 : Int) else -1
theorem if1 {P : Prop} {a c : Int} (h : P) : (if bz P = 1 then a else c) = a := if_pos (bz_pos h)
theorem if0 {P : Prop} {a c : Int} (h : ¬ P) : (if bz P = 1 then a else c) = c := if_neg (by rw [bz_neg h]; omega)
theorem Bd.fit_rng (b : Bd) (f : Int) : 0 ≤ b.fit f ∧ b.fit f ≤ 1 := by
  unfold Bd.fit
  split
  · exact bz_rng _
  · exact bz_rng _
def mostI (a1 a2 a3 : Int) : Int := if a3 ≠ 0 then 3 else if a2 ≠ 0 then 2 else if a1 ≠ 0 then 1 else 0
def towOK (κ a0 a1 a2 a3 : Int) : Prop := (0 ≤ κ ∧ κ ≤ 2) ∧ (0 ≤ a0 ∧ a0 ≤ 100) ∧ (0 ≤ a1 ∧ a1 ≤ 100) ∧ (0 ≤ a2 ∧ a2 ≤ 100) ∧ (0 ≤ a3 ∧ a3 ≤ 100) ∧ (κ = 0 → a0 = 0 ∧ a1 = 0 ∧ a2 = 0 ∧ a3 = 0)
noncomputable def towA (b : Bd) (κ a0 a1 a2 a3 : Int) : Int := if bz (towOK κ a0 a1 a2 a3) = 1 then (if bz (b.twr κ a0 a1 a2 a3 ∨ (κ ≠ 0 ∧ mostI a1 a2 a3 = 0)) = 1 then -2 else mostI a1 a2 a3) else -1
def Bd.tow (b : Bd) (κ a0 a1 a2 a3 : Int) : Bd := (b.1, tw4 a0 a1 a2 a3, κ, b.2.2.2)
theorem r_isTermOf (l : Launch) (G : Gl) (Λ : Lay) (sz : Nat) (μ : Mem) {f i : Int} (hf : inR f) (hi : inR i) : Sp l G yX12_isTermOf cX12_isTermOf 2 (some FieldType.boolean) 1 [iv f, iv i] Λ sz μ (pP μ (bz (isTO f i))) := by
  refine Sp.intro (by decide) (Nat.le_of_ble_eq_true rfl) (fun x hx hBD => ?_)
  refine v_lv [(0, iv f), (1, iv i)] rfl ?_
  refine v_iload hx DX12_isTermOf_0 0 rfl ?_
  refine v_push hx DX12_isTermOf_1 ?_
  refine v_push hx DX12_isTermOf_2 ?_
  refine v_cSp hx DX12_isTermOf_3 CSRX12_121 [iv f, iv 0, iv 2] (r_in l G Λ sz μ (by omega) (by omega) (by omega)) rfl rfl (Nat.le_of_ble_eq_true rfl) (by decide) ⟨Nat.le_refl _, Nat.le_refl _⟩ ?_
  have br3 := bz_rng (0 ≤ f ∧ f ≤ 2)
  refine v_if_eq hx DX12_isTermOf_6 (by omega) (fun c6 => ?_) (fun c6 => ?_)
  · skip
    have d6 := bzf c6
    have e0 : (0 : Int) = bz (isTO f i) := (bz_neg (fun q => by have := q.n; omega)).symm
    refine v_push hx DX12_isTermOf_23 ?_
    exact v_rz hx hBD (by omega) DX12_isTermOf_24 (⟨rfl, e0⟩)
  · skip
    have d6 := bzt c6
    refine v_iload hx DX12_isTermOf_9 1 rfl ?_
    refine v_push hx DX12_isTermOf_10 ?_
    refine v_push hx DX12_isTermOf_12 ?_
    refine v_cSp hx DX12_isTermOf_13 CSRX12_121 [iv i, iv (-2), iv 2] (r_in l G Λ sz μ (by omega) (by omega) (by omega)) rfl rfl (Nat.le_of_ble_eq_true rfl) (by decide) ⟨Nat.le_refl _, Nat.le_refl _⟩ ?_
    have br13 := bz_rng ((-2) ≤ i ∧ i ≤ 2)
    refine v_if_eq hx DX12_isTermOf_16 (by omega) (fun c16 => ?_) (fun c16 => ?_)
    · skip
      have d16 := bzf c16
      have e0 : (0 : Int) = bz (isTO f i) := (bz_neg (fun q => by have := q.n; omega)).symm
      refine v_push hx DX12_isTermOf_23 ?_
      exact v_rz hx hBD (by omega) DX12_isTermOf_24 (⟨rfl, e0⟩)
    · skip
      have d16 := bzt c16
      have e0 : (1 : Int) = bz (isTO f i) := (bz_pos ⟨by omega, by omega, by omega, by omega⟩).symm
      refine v_push hx DX12_isTermOf_19 ?_
      refine v_goto hx DX12_isTermOf_20 ?_
      exact v_rz hx hBD (by omega) DX12_isTermOf_24 (⟨rfl, e0⟩)
theorem r_isFunction (l : Launch) (G : Gl) (Λ : Lay) (sz : Nat) (μ : Mem) {f : Int} (hf : inR f) : Sp l G yX12_isFunction cX12_isFunction 1 (some FieldType.boolean) 1 [iv f] Λ sz μ (pP μ (bz (0 ≤ f ∧ f ≤ 2))) := by
  refine Sp.intro (by decide) (Nat.le_of_ble_eq_true rfl) (fun x hx hBD => ?_)
  refine v_lv [(0, iv f)] rfl ?_
  refine v_iload hx DX12_isFunction_0 0 rfl ?_
  refine v_push hx DX12_isFunction_1 ?_
  refine v_push hx DX12_isFunction_2 ?_
  refine v_cSp hx DX12_isFunction_3 CSRX12_121 [iv f, iv 0, iv 2] (r_in l G Λ sz μ (by omega) (by omega) (by omega)) rfl rfl (Nat.le_of_ble_eq_true rfl) (by decide) ⟨Nat.le_refl _, Nat.le_refl _⟩ ?_
  have br3 := bz_rng (0 ≤ f ∧ f ≤ 2)
  exact v_rz hx hBD (by omega) DX12_isFunction_6 (⟨rfl, rfl⟩)
theorem r_numberOf (l : Launch) (G : Gl) (Λ : Lay) (sz : Nat) (μ : Mem) {ν : Nat} {v : Int} (hR : refK Λ ν) (hv : inR v) : Sp l G yX12_numberOf cX12_numberOf 2 (some FieldType.int) 1 [.ref ν, iv v] Λ sz μ (pP μ (if 0 ≤ v ∧ v ≤ 100 then v else -1)) := by
  refine Sp.intro (by decide) (Nat.le_of_ble_eq_true rfl) (fun x hx hBD => ?_)
  refine v_lv [(0, .ref ν), (1, iv v)] rfl ?_
  refine v_iload hx DX12_numberOf_0 1 rfl ?_
  refine v_push hx DX12_numberOf_1 ?_
  refine v_push hx DX12_numberOf_2 ?_
  refine v_cSp hx DX12_numberOf_4 CSRX12_121 [iv v, iv 0, iv 100] (r_in l G Λ sz μ (by omega) (by omega) (by omega)) rfl rfl (Nat.le_of_ble_eq_true rfl) (by decide) ⟨Nat.le_refl _, Nat.le_refl _⟩ ?_
  have br4 := bz_rng (0 ≤ v ∧ v ≤ 100)
  refine v_if_eq hx DX12_numberOf_7 (by omega) (fun c7 => ?_) (fun c7 => ?_)
  · skip
    have d7 := bzf c7
    have e0 : (-1 : Int) = if 0 ≤ v ∧ v ≤ 100 then v else -1 := by rw [if_neg d7]
    refine v_push hx DX12_numberOf_14 ?_
    exact v_ri hx hBD DX12_numberOf_15 (⟨rfl, e0⟩)
  · skip
    have d7 := bzt c7
    have e0 : v = if 0 ≤ v ∧ v ≤ 100 then v else -1 := by rw [if_pos d7]
    refine v_iload hx DX12_numberOf_10 1 rfl ?_
    refine v_goto hx DX12_numberOf_11 ?_
    exact v_ri hx hBD DX12_numberOf_15 (⟨rfl, e0⟩)
theorem r_coef (l : Launch) (G : Gl) (Λ : Lay) (sz : Nat) (μ : Mem) {ν : Nat} {ρ : Nat → PS} {b : Bd} {f i w k : Int} (hR : refK Λ ν) (ha : RA μ ν ρ b) (hf : inR f) (hi : inR i) (hw0 : inR w) (hk : inR k) : Sp l G yX12_coef cX12_coef 5 (some FieldType.int) 3 [.ref ν, iv f, iv i, iv w, iv k] Λ sz μ (pP μ (coefA b f i w k)) := by
  refine Sp.intro (by decide) (Nat.le_of_ble_eq_true rfl) (fun x hx hBD => ?_)
  refine v_lv [(0, .ref ν), (1, iv f), (2, iv i), (3, iv w), (4, iv k)] rfl ?_
  refine v_iload hx DX12_coef_0 1 rfl ?_
  refine v_iload hx DX12_coef_1 2 rfl ?_
  refine v_cSp hx DX12_coef_2 CSRX12_151 [iv f, iv i] (r_isTermOf l G Λ sz μ (by omega) (by omega)) rfl rfl (Nat.le_of_ble_eq_true rfl) (by decide) ⟨Nat.le_refl _, Nat.le_refl _⟩ ?_
  have br2 := bz_rng (isTO f i)
  refine v_if_eq hx DX12_coef_5 (by omega) (fun c5 => ?_) (fun c5 => ?_)
  · skip
    have d5 := bzf c5
    have e0 : (-1 : Int) = coefA b f i w k := (if0 (fun q => d5 q.1)).symm
    refine v_push hx DX12_coef_40 ?_
    exact v_ri hx hBD DX12_coef_41 (⟨rfl, e0⟩)
  · skip
    have d5 := bzt c5
    have d5n := d5.n
    refine v_iload hx DX12_coef_8 3 rfl ?_
    refine v_push hx DX12_coef_9 ?_
    refine v_push hx DX12_coef_10 ?_
    refine v_cSp hx DX12_coef_11 CSRX12_121 [iv w, iv 0, iv 1] (r_in l G Λ sz μ (by omega) (by omega) (by omega)) rfl rfl (Nat.le_of_ble_eq_true rfl) (by decide) ⟨Nat.le_refl _, Nat.le_refl _⟩ ?_
    have br11 := bz_rng (0 ≤ w ∧ w ≤ 1)
    refine v_if_eq hx DX12_coef_14 (by omega) (fun c14 => ?_) (fun c14 => ?_)
    · skip
      have d14 := bzf c14
      have e0 : (-1 : Int) = coefA b f i w k := (if0 (fun q => d14 q.2.1)).symm
      refine v_push hx DX12_coef_40 ?_
      exact v_ri hx hBD DX12_coef_41 (⟨rfl, e0⟩)
    · skip
      have d14 := bzt c14
      refine v_iload hx DX12_coef_17 4 rfl ?_
      refine v_if_lt hx DX12_coef_19 (by omega) (fun c19 => ?_) (fun c19 => ?_)
      · skip
        have e0 : (-1 : Int) = coefA b f i w k := (if0 (fun q => by have := q.2.2; omega)).symm
        refine v_push hx DX12_coef_40 ?_
        exact v_ri hx hBD DX12_coef_41 (⟨rfl, e0⟩)
      · skip
        refine v_aload hx DX12_coef_22 0 rfl ?_
        refine v_push hx DX12_coef_23 ?_
        refine v_iload hx DX12_coef_24 1 rfl ?_
        refine v_iload hx DX12_coef_25 2 rfl ?_
        refine v_cSp hx DX12_coef_26 CSRX12_155 [iv f, iv i] (r_term l G Λ sz μ (by omega)) rfl rfl (Nat.le_of_ble_eq_true rfl) (by decide) ⟨Nat.le_refl _, Nat.le_refl _⟩ ?_
        refine v_imul hx DX12_coef_29 ?_
        refine v_iload hx DX12_coef_30 3 rfl ?_
        refine v_iadd hx DX12_coef_31 ?_
        refine v_top (z' := ((2 * (5 * f + i + 2).toNat + w.toNat : Nat) : Int)) (by omega) ?_
        refine v_iload hx DX12_coef_32 4 rfl ?_
        refine v_cVp hx DX12_coef_34 CVRX12_159 [iv ((2 * (5 * f + i + 2).toNat + w.toNat : Nat) : Int), iv k] (r_at (s := 2 * (5 * f + i + 2).toNat + w.toNat) l G Λ sz μ hR ha.1 (by omega) (by omega)) hR.o rfl rfl (Nat.le_of_ble_eq_true rfl) (by decide) ⟨Nat.le_refl _, Nat.le_refl _⟩ ?_
        have e0 : ca (ρ (2 * (5 * f + i + 2).toNat + w.toNat)) k = coefA b f i w k := by
          unfold coefA
          rw [if1 ⟨d5, d14, by omega⟩]
          by_cases c : w = 0
          · rw [if_pos c, c, ← ha.num (by omega)]; rfl
          · rw [if_neg c, show w = 1 by omega, ← ha.den (by omega)]; rfl
        refine v_goto hx DX12_coef_37 ?_
        exact v_ri hx hBD DX12_coef_41 (⟨rfl, e0⟩)
theorem r_letter (l : Launch) (G : Gl) (Λ : Lay) (sz : Nat) (μ : Mem) {ν : Nat} {ρ : Nat → PS} {b : Bd} {f i k : Int} (hR : refK Λ ν) (ha : RA μ ν ρ b) (hf : inR f) (hi : inR i) (hk : inR k) : Sp l G yX12_letter cX12_letter 4 (some FieldType.int) 5 [.ref ν, iv f, iv i, iv k] Λ sz μ (pI (fun z μ' => z = letA b f i k ∧ FrT ν μ μ')) := by
  refine Sp.intro (by decide) (Nat.le_of_ble_eq_true rfl) (fun x hx hBD => ?_)
  refine v_lv [(0, .ref ν), (1, iv f), (2, iv i), (3, iv k)] rfl ?_
  refine v_iload hx DX12_letter_0 1 rfl ?_
  refine v_iload hx DX12_letter_1 2 rfl ?_
  refine v_cSp hx DX12_letter_2 CSRX12_151 [iv f, iv i] (r_isTermOf l G Λ sz μ (by omega) (by omega)) rfl rfl (Nat.le_of_ble_eq_true rfl) (by decide) ⟨Nat.le_refl _, Nat.le_refl _⟩ ?_
  have br2 := bz_rng (isTO f i)
  refine v_if_eq hx DX12_letter_5 (by omega) (fun c5 => ?_) (fun c5 => ?_)
  · skip
    have d5 := bzf c5
    have e0 : (-1 : Int) = letA b f i k := (if0 (fun q => d5 q.1)).symm
    refine v_push hx DX12_letter_12 ?_
    exact v_ri hx hBD DX12_letter_13 (⟨e0, FrN.rf⟩)
  · skip
    have d5 := bzt c5
    have d5n := d5.n
    refine v_iload hx DX12_letter_8 3 rfl ?_
    refine v_if_ge hx DX12_letter_9 (by omega) (fun c9 => ?_) (fun c9 => ?_)
    · skip
      refine v_iload hx DX12_letter_14 3 rfl ?_
      refine v_aload hx DX12_letter_15 0 rfl ?_
      refine v_iload hx DX12_letter_16 1 rfl ?_
      refine v_iload hx DX12_letter_17 2 rfl ?_
      refine v_cSp hx DX12_letter_18 CSRX12_155 [iv f, iv i] (r_term l G Λ sz μ (by omega)) rfl rfl (Nat.le_of_ble_eq_true rfl) (by decide) ⟨Nat.le_refl _, Nat.le_refl _⟩ ?_
      refine v_cVi hx DX12_letter_21 CVRX12_174 [iv ((5 * f + i + 2).toNat : Int)] (r_tells (f := (5 * f + i + 2).toNat) l G Λ sz μ hR ha.1 (by omega) (by rw [ha.num (by omega)]; exact PS.size_le (b.num_lt _)) (by rw [ha.den (by omega)]; exact PS.size_le (b.den_lt _))) hR.o rfl rfl (Nat.le_of_ble_eq_true rfl) (by decide) ⟨Nat.le_refl _, Nat.le_refl _⟩ (fun z6 μ5 hμ5 => ?_)
      obtain ⟨ez, hz, hz2⟩ := hμ5
      rw [ha.num (by omega), ha.den (by omega)] at ez hz
      have ez2 : z6 = ((b.txt (5 * f + i + 2)).length : Int) := ez
      have hz3 : LA μ5 ν (b.txt (5 * f + i + 2)) := hz
      have hz4 := hz3.1
      refine v_icmp_ge hx DX12_letter_24 (by omega) (by omega) (fun c24 => ?_) (fun c24 => ?_)
      · skip
        refine v_push hx DX12_letter_36 ?_
        exact v_ri hx hBD DX12_letter_38 (⟨by unfold letA; rw [if1 ⟨d5, by omega⟩, if_neg (by omega)], hz2⟩)
      · skip
        refine v_aload hx DX12_letter_27 0 rfl ?_
        refine v_get hx DX12_letter_28 FLRX12_81 hR.o (v := .ref (ν + 6)) rfl ?_
        refine v_iload hx DX12_letter_31 3 rfl ?_
        refine v_iald hx DX12_letter_32 hR.letters (by omega) (by decide) (z := (b.txt (5 * f + i + 2)).getD k.toNat 0) (by have := hz3.2.2 k.toNat (by omega); rwa [Int.toNat_of_nonneg (by omega)] at this) ?_
        refine v_goto hx DX12_letter_33 ?_
        exact v_ri hx hBD DX12_letter_38 (⟨by unfold letA; rw [if1 ⟨d5, by omega⟩, if_pos (by omega)], hz2⟩)
    · skip
      have e0 : (-1 : Int) = letA b f i k := (if0 (fun q => by have := q.2; omega)).symm
      refine v_push hx DX12_letter_12 ?_
      exact v_ri hx hBD DX12_letter_13 (⟨e0, FrN.rf⟩)
theorem r_value (l : Launch) (G : Gl) (Λ : Lay) (sz : Nat) (μ : Mem) {ν : Nat} {ρ : Nat → PS} {b : Bd} {f i v : Int} (hR : refK Λ ν) (ha : RA μ ν ρ b) (hf : inR f) (hi : inR i) (hv : inR v) : Sp l G yX12_value cX12_value 4 (some FieldType.int) 3 [.ref ν, iv f, iv i, iv v] Λ sz μ (pP μ (valA b f i v)) := by
  refine Sp.intro (by decide) (Nat.le_of_ble_eq_true rfl) (fun x hx hBD => ?_)
  refine v_lv [(0, .ref ν), (1, iv f), (2, iv i), (3, iv v)] rfl ?_
  refine v_iload hx DX12_value_0 1 rfl ?_
  refine v_iload hx DX12_value_1 2 rfl ?_
  refine v_cSp hx DX12_value_2 CSRX12_151 [iv f, iv i] (r_isTermOf l G Λ sz μ (by omega) (by omega)) rfl rfl (Nat.le_of_ble_eq_true rfl) (by decide) ⟨Nat.le_refl _, Nat.le_refl _⟩ ?_
  have br2 := bz_rng (isTO f i)
  refine v_if_eq hx DX12_value_5 (by omega) (fun c5 => ?_) (fun c5 => ?_)
  · skip
    have d5 := bzf c5
    have e0 : (-1 : Int) = valA b f i v := (if0 (fun q => d5 q.1)).symm
    refine v_push hx DX12_value_29 ?_
    exact v_ri hx hBD DX12_value_30 (⟨rfl, e0⟩)
  · skip
    have d5 := bzt c5
    have d5n := d5.n
    refine v_aload hx DX12_value_8 0 rfl ?_
    refine v_iload hx DX12_value_9 3 rfl ?_
    refine v_cVp hx DX12_value_10 CVRX12_180 [iv v] (r_numberOf l G Λ sz μ hR (by omega)) hR.o rfl rfl (Nat.le_of_ble_eq_true rfl) (by decide) ⟨Nat.le_refl _, Nat.le_refl _⟩ ?_
    refine v_if_lt hx DX12_value_13 (by split <;> omega) (fun c13 => ?_) (fun c13 => ?_)
    · skip
      have d13 : ¬ (0 ≤ v ∧ v ≤ 100) := fun q => by rw [if_pos q] at c13; omega
      have e0 : (-1 : Int) = valA b f i v := (if0 (fun q => d13 q.2)).symm
      refine v_push hx DX12_value_29 ?_
      exact v_ri hx hBD DX12_value_30 (⟨rfl, e0⟩)
    · skip
      have d13 : 0 ≤ v ∧ v ≤ 100 := Classical.byContradiction (fun q => by rw [if_neg q] at c13; omega)
      refine v_aload hx DX12_value_16 0 rfl ?_
      refine v_iload hx DX12_value_17 1 rfl ?_
      refine v_iload hx DX12_value_18 2 rfl ?_
      refine v_cSp hx DX12_value_19 CSRX12_155 [iv f, iv i] (r_term l G Λ sz μ (by omega)) rfl rfl (Nat.le_of_ble_eq_true rfl) (by decide) ⟨Nat.le_refl _, Nat.le_refl _⟩ ?_
      refine v_iload hx DX12_value_22 3 rfl ?_
      refine v_cVp hx DX12_value_23 CVRX12_183 [iv ((5 * f + i + 2).toNat : Int), iv v] (r_valueOf (t := (5 * f + i + 2)) l G Λ sz μ hR ha (by omega) (by omega)) hR.o rfl rfl (Nat.le_of_ble_eq_true rfl) (by decide) ⟨Nat.le_refl _, Nat.le_refl _⟩ ?_
      have e0 : b.val (5 * f + i + 2) v = valA b f i v := (if1 ⟨d5, d13⟩).symm
      refine v_goto hx DX12_value_26 ?_
      exact v_ri hx hBD DX12_value_30 (⟨rfl, e0⟩)
theorem r_told (l : Launch) (G : Gl) (Λ : Lay) (sz : Nat) (μ : Mem) {ν : Nat} {ρ : Nat → PS} {b : Bd} {f w : Int} (hR : refK Λ ν) (ha : RA μ ν ρ b) (hf : inR f) (hw0 : inR w) : Sp l G yX12_told cX12_told 4 (some FieldType.int) 4 [.ref ν, iv f, iv w] Λ sz μ (pP μ (tldA b f w)) := by
  refine Sp.intro (by decide) (Nat.le_of_ble_eq_true rfl) (fun x hx hBD => ?_)
  refine v_lv [(0, .ref ν), (1, iv f), (2, iv w)] rfl ?_
  have L60 : ∀ (nf : Nat) (k : Int), (f - k < (nf : Int)) → (0 ≤ k ∧ k ≤ f) → (f < 3) → (w = 2) → (∀ j : Int, 0 ≤ j → j < k → ¬ b.twP j f 5) → V G x (0, 0) Λ sz μ 60 [(3, iv k), (0, .ref ν), (1, iv f), (2, iv w)] [] := by
    intro nf
    induction nf with
    | zero => intro k hm hk hf2 hw2 hz; exact absurd hm (by omega)
    | succ nf ih =>
      intro k hm hk hf2 hw2 hz
      refine v_aload hx DX12_told_60 1 rfl ?_
      refine v_iload hx DX12_told_61 0 rfl ?_
      refine v_iload hx DX12_told_62 2 rfl ?_
      refine v_cVp hx DX12_told_63 CVRX12_208 [iv k, iv f] (r_isSameFunction l G Λ sz μ hR ha (by omega) (by omega)) hR.o rfl rfl (Nat.le_of_ble_eq_true rfl) (by decide) ⟨Nat.le_refl _, Nat.le_refl _⟩ ?_
      have br63 := bz_rng (b.twP k f 5)
      refine v_if_ne hx DX12_told_66 (by omega) (fun c66 => ?_) (fun c66 => ?_)
      · skip
        have d66 := bzt c66
        have e0 : k = tldA b f w := by unfold tldA; rw [if1 ⟨(by omega : 0 ≤ f ∧ f ≤ 2), (by omega : 0 ≤ w ∧ w ≤ 3)⟩, if_neg (by omega), if_neg (by omega), if_neg (by omega)]; exact Bd.tw_of (by omega) (by omega) (by omega) d66 hz
        refine v_iload hx DX12_told_75 0 rfl ?_
        exact v_ri hx hBD DX12_told_76 (⟨rfl, e0⟩)
      · skip
        have d66 := bzf c66
        refine v_iinc hx DX12_told_69 0 rfl [(3, iv (k + 1)), (0, .ref ν), (1, iv f), (2, iv w)] rfl (by decide) ?_
        refine v_goto hx DX12_told_72 ?_
        exact v_sub [0, 1, 2, 3] _ rfl (ih (k + 1) (by omega) (by have : k ≠ f := (fun q => d66 (by rw [q]; exact b.tw_self f)); omega) hf2 hw2 (fun j h0 h1 => (Int.lt_or_le j k).elim (hz j h0) (fun q => (show k = j by omega) ▸ d66)))
  refine v_iload hx DX12_told_0 1 rfl ?_
  refine v_cSp hx DX12_told_1 CSRX12_199 [iv f] (r_isFunction l G Λ sz μ (by omega)) rfl rfl (Nat.le_of_ble_eq_true rfl) (by decide) ⟨Nat.le_refl _, Nat.le_refl _⟩ ?_
  have br1 := bz_rng (0 ≤ f ∧ f ≤ 2)
  refine v_if_eq hx DX12_told_4 (by omega) (fun c4 => ?_) (fun c4 => ?_)
  · skip
    have d4 := bzf c4
    have e0 : (-1 : Int) = tldA b f w := (if0 (fun q => d4 q.1)).symm
    refine v_push hx DX12_told_16 ?_
    exact v_ri hx hBD DX12_told_17 (⟨rfl, e0⟩)
  · skip
    have d4 := bzt c4
    refine v_iload hx DX12_told_7 2 rfl ?_
    refine v_push hx DX12_told_8 ?_
    refine v_push hx DX12_told_9 ?_
    refine v_cSp hx DX12_told_10 CSRX12_121 [iv w, iv 0, iv 3] (r_in l G Λ sz μ (by omega) (by omega) (by omega)) rfl rfl (Nat.le_of_ble_eq_true rfl) (by decide) ⟨Nat.le_refl _, Nat.le_refl _⟩ ?_
    have br10 := bz_rng (0 ≤ w ∧ w ≤ 3)
    refine v_if_ne hx DX12_told_13 (by omega) (fun c13 => ?_) (fun c13 => ?_)
    · skip
      have d13 := bzt c13
      refine v_iload hx DX12_told_18 2 rfl ?_
      refine v_if_ne hx DX12_told_19 (by omega) (fun c19 => ?_) (fun c19 => ?_)
      · skip
        refine v_iload hx DX12_told_28 2 rfl ?_
        refine v_push hx DX12_told_29 ?_
        refine v_icmp_ne hx DX12_told_30 (by omega) (by decide) (fun c30 => ?_) (fun c30 => ?_)
        · skip
          refine v_iload hx DX12_told_39 2 rfl ?_
          refine v_push hx DX12_told_40 ?_
          refine v_icmp_ne hx DX12_told_41 (by omega) (by decide) (fun c41 => ?_) (fun c41 => ?_)
          · skip
            refine v_push hx DX12_told_58 ?_
            refine v_istore hx DX12_told_59 [(3, iv 0), (0, .ref ν), (1, iv f), (2, iv w)] rfl (by decide) ?_
            exact v_sub [0, 1, 2, 3] _ rfl (L60 100 0 (by omega) (by omega) (by omega) (by omega) (fun j h0 h1 => by omega))
          · skip
            refine v_aload hx DX12_told_44 0 rfl ?_
            refine v_iload hx DX12_told_45 1 rfl ?_
            refine v_cVp hx DX12_told_46 CVRX12_205 [iv f] (r_fits l G Λ sz μ hR ha (by omega)) hR.o rfl rfl (Nat.le_of_ble_eq_true rfl) (by decide) ⟨Nat.le_refl _, Nat.le_refl _⟩ ?_
            have ftr := b.fit_rng f
            refine v_if_eq hx DX12_told_49 (by omega) (fun c49 => ?_) (fun c49 => ?_)
            · skip
              have e0 : (0 : Int) = tldA b f w := by unfold tldA; rw [if1 ⟨(by omega : 0 ≤ f ∧ f ≤ 2), (by omega : 0 ≤ w ∧ w ≤ 3)⟩, if_neg (by omega), if_neg (by omega), if_pos (by omega)]; omega
              refine v_push hx DX12_told_56 ?_
              exact v_ri hx hBD DX12_told_57 (⟨rfl, e0⟩)
            · skip
              have e0 : (1 : Int) = tldA b f w := by unfold tldA; rw [if1 ⟨(by omega : 0 ≤ f ∧ f ≤ 2), (by omega : 0 ≤ w ∧ w ≤ 3)⟩, if_neg (by omega), if_neg (by omega), if_pos (by omega)]; omega
              refine v_push hx DX12_told_52 ?_
              refine v_goto hx DX12_told_53 ?_
              exact v_ri hx hBD DX12_told_57 (⟨rfl, e0⟩)
        · skip
          refine v_aload hx DX12_told_33 0 rfl ?_
          refine v_iload hx DX12_told_34 1 rfl ?_
          refine v_cVp hx DX12_told_35 CVRX12_202 [iv f] (r_belows l G Λ sz μ hR ha (by omega)) hR.o rfl rfl (Nat.le_of_ble_eq_true rfl) (by decide) ⟨Nat.le_refl _, Nat.le_refl _⟩ ?_
          have e0 : b.dn f 5 = tldA b f w := by unfold tldA; rw [if1 ⟨(by omega : 0 ≤ f ∧ f ≤ 2), (by omega : 0 ≤ w ∧ w ≤ 3)⟩, if_neg (by omega), if_pos (by omega)]
          exact v_ri hx hBD DX12_told_38 (⟨rfl, e0⟩)
      · skip
        refine v_aload hx DX12_told_22 0 rfl ?_
        refine v_iload hx DX12_told_23 1 rfl ?_
        refine v_cVp hx DX12_told_24 CVRX12_196 [iv f] (r_presentOf l G Λ sz μ hR ha (by omega)) hR.o rfl rfl (Nat.le_of_ble_eq_true rfl) (by decide) ⟨Nat.le_refl _, Nat.le_refl _⟩ ?_
        have e0 : b.fl f 5 = tldA b f w := by unfold tldA; rw [if1 ⟨(by omega : 0 ≤ f ∧ f ≤ 2), (by omega : 0 ≤ w ∧ w ≤ 3)⟩, if_pos (by omega)]
        exact v_ri hx hBD DX12_told_27 (⟨rfl, e0⟩)
    · skip
      have d13 := bzf c13
      have e0 : (-1 : Int) = tldA b f w := (if0 (fun q => d13 q.2)).symm
      refine v_push hx DX12_told_16 ?_
      exact v_ri hx hBD DX12_told_17 (⟨rfl, e0⟩)
theorem r_count (l : Launch) (G : Gl) (Λ : Lay) (sz : Nat) (μ : Mem) {ν : Nat} {ρ : Nat → PS} {b : Bd} {h : Hs} {w : Int} (hR : refK Λ ν) (ha : RA μ ν ρ b) (hh : RH μ ν h) (hw0 : inR w) : Sp l G yX12_count cX12_count 2 (some FieldType.int) 1 [.ref ν, iv w] Λ sz μ (pP μ (cntA b h w)) := by
  refine Sp.intro (by decide) (Nat.le_of_ble_eq_true rfl) (fun x hx hBD => ?_)
  refine v_lv [(0, .ref ν), (1, iv w)] rfl ?_
  refine v_iload hx DX12_count_0 1 rfl ?_
  refine v_if_ne hx DX12_count_1 (by omega) (fun c1 => ?_) (fun c1 => ?_)
  · skip
    refine v_iload hx DX12_count_11 1 rfl ?_
    refine v_push hx DX12_count_12 ?_
    refine v_push hx DX12_count_13 ?_
    refine v_cSp hx DX12_count_14 CSRX12_121 [iv w, iv 1, iv 4] (r_in l G Λ sz μ (by omega) (by omega) (by omega)) rfl rfl (Nat.le_of_ble_eq_true rfl) (by decide) ⟨Nat.le_refl _, Nat.le_refl _⟩ ?_
    have br14 := bz_rng (1 ≤ w ∧ w ≤ 4)
    refine v_if_eq hx DX12_count_17 (by omega) (fun c17 => ?_) (fun c17 => ?_)
    · skip
      have d17 := bzf c17
      refine v_iload hx DX12_count_31 1 rfl ?_
      refine v_push hx DX12_count_32 ?_
      refine v_icmp_ne hx DX12_count_33 (by omega) (by decide) (fun c33 => ?_) (fun c33 => ?_)
      · skip
        have e0 : (-1 : Int) = cntA b h w := by unfold cntA; rw [if_neg (by omega), if_neg (by omega), if_neg (by omega)]
        refine v_push hx DX12_count_43 ?_
        exact v_ri hx hBD DX12_count_44 (⟨rfl, e0⟩)
      · skip
        refine v_aload hx DX12_count_36 0 rfl ?_
        refine v_get hx DX12_count_37 FLRX12_135 hR.o (fv_i rfl (by obtain ⟨B, nx, q1, q2, q3, q4, q5, q6⟩ := hh; exact q3) : _ = iv (h.1 : Int)) ?_
        have e0 : (h.1 : Int) = cntA b h w := by unfold cntA; rw [if_neg (by omega), if_neg (by omega), if_pos (by omega)]
        refine v_goto hx DX12_count_40 ?_
        exact v_ri hx hBD DX12_count_44 (⟨rfl, e0⟩)
    · skip
      have d17 := bzt c17
      refine v_aload hx DX12_count_20 0 rfl ?_
      refine v_get hx DX12_count_21 FLRX12_68 hR.o (v := .ref (ν + 3)) rfl ?_
      refine v_iload hx DX12_count_24 1 rfl ?_
      refine v_push hx DX12_count_25 ?_
      refine v_isub hx DX12_count_26 ?_
      refine v_iald hx DX12_count_27 hR.u (by omega) (by decide) (z := b.2.1 (w - 1)) (ha.2.2.2.1 (w - 1) (by omega) (by omega)) ?_
      have e0 : b.2.1 (w - 1) = cntA b h w := by unfold cntA; rw [if_neg (by omega), if_pos (by omega)]
      refine v_goto hx DX12_count_28 ?_
      exact v_ri hx hBD DX12_count_44 (⟨rfl, e0⟩)
  · skip
    refine v_aload hx DX12_count_4 0 rfl ?_
    refine v_get hx DX12_count_5 FLRX12_125 hR.o (fv_i rfl ha.2.2.2.2.1 : _ = iv b.2.2.1) ?_
    have e0 : b.2.2.1 = cntA b h w := by unfold cntA; rw [if_pos (by omega)]
    refine v_goto hx DX12_count_8 ?_
    exact v_ri hx hBD DX12_count_44 (⟨rfl, e0⟩)
