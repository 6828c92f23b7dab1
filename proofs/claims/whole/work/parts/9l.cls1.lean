/-! ===== the class: small helpers; the parts' layout ===== -/
def pq (p : Nat) : List (Option Nat) := [some (p + 26), some (p + 31), some (p + 36), some (p + 41), some (p + 46), some (p + 51)]
def pr5 (p : Nat) : List (Option Nat) := [some (p + 56), some (p + 61), some (p + 66), some (p + 71), some (p + 76)]
def partK (Λ : Lay) (p κ σ : Nat) : Prop := Λ p = some (.inl (4, [some (.ref κ), some (.ref σ), some (.ref (p + 1)), some (.ref (p + 2)), some (.ref (p + 3)), some (.ref (p + 8)), some (.ref (p + 13)), some (.ref (p + 15)), some (.ref (p + 17)), some (.ref (p + 19)), some (.ref (p + 21)), some (.ref (p + 23)), some (.ref (p + 25)), none, none, none])) ∧
  Λ (p + 1) = some (.inr (4, 6, pq p)) ∧ Λ (p + 2) = some (.inr (4, 5, pr5 p)) ∧ Λ (p + 25) = some (.inr (1, 101, [])) ∧ (fracK Λ (p + 3) ∧ fracK Λ (p + 8)) ∧ (polyK Λ (p + 13) ∧ polyK Λ (p + 15) ∧ polyK Λ (p + 17) ∧ polyK Λ (p + 19) ∧ polyK Λ (p + 21) ∧ polyK Λ (p + 23)) ∧ (∀ k : Nat, k < 6 → fracK Λ (p + 26 + 5 * k)) ∧ (∀ k : Nat, k < 5 → fracK Λ (p + 56 + 5 * k))
theorem pq_at {p : Nat} {z : Int} (h : 0 ≤ z ∧ z < 6) : (pq p).getD z.toNat none = some (p + 26 + 5 * z.toNat) := by
  have : z = 0 ∨ z = 1 ∨ z = 2 ∨ z = 3 ∨ z = 4 ∨ z = 5 := by omega
  rcases this with rfl | rfl | rfl | rfl | rfl | rfl <;> rfl
theorem pr_at {p : Nat} {z : Int} (h : 0 ≤ z ∧ z < 5) : (pr5 p).getD z.toNat none = some (p + 56 + 5 * z.toNat) := by
  have : z = 0 ∨ z = 1 ∨ z = 2 ∨ z = 3 ∨ z = 4 := by omega
  rcases this with rfl | rfl | rfl | rfl | rfl <;> rfl
theorem c_within (l : Launch) (G : Gl) (Λ : Lay) (sz : Nat) (μ : Mem) {v a b : Int} (hv : inR v) (ha : inR a) (hb : inR b) : Sp l G yX11_within cX11_within 3 (some FieldType.boolean) 0 [iv v, iv a, iv b] Λ sz μ (pP μ (bz (a ≤ v ∧ v ≤ b))) := by
  refine Sp.intro (by decide) (Nat.le_of_ble_eq_true rfl) (fun x hx hBD => ?_)
  refine v_lv [(0, iv v), (1, iv a), (2, iv b)] rfl ?_
  refine v_iload hx DX11_within_0 0 rfl ?_
  refine v_iload hx DX11_within_1 1 rfl ?_
  refine v_icmp_lt hx DX11_within_2 (by omega) (by omega) (fun c2 => ?_) (fun c2 => ?_)
  · skip
    have e0 : (0 : Int) = bz (a ≤ v ∧ v ≤ b) := (bz_neg (by omega)).symm
    refine v_push hx DX11_within_14 ?_
    exact v_rz hx hBD (by omega) DX11_within_15 (⟨rfl, e0⟩)
  · skip
    refine v_iload hx DX11_within_5 0 rfl ?_
    refine v_iload hx DX11_within_6 2 rfl ?_
    refine v_icmp_gt hx DX11_within_7 (by omega) (by omega) (fun c7 => ?_) (fun c7 => ?_)
    · skip
      have e0 : (0 : Int) = bz (a ≤ v ∧ v ≤ b) := (bz_neg (by omega)).symm
      refine v_push hx DX11_within_14 ?_
      exact v_rz hx hBD (by omega) DX11_within_15 (⟨rfl, e0⟩)
    · skip
      have e0 : (1 : Int) = bz (a ≤ v ∧ v ≤ b) := (bz_pos (by omega)).symm
      refine v_push hx DX11_within_10 ?_
      refine v_goto hx DX11_within_11 ?_
      exact v_rz hx hBD (by omega) DX11_within_15 (⟨rfl, e0⟩)
theorem c_isFunction (l : Launch) (G : Gl) (Λ : Lay) (sz : Nat) (μ : Mem) {f : Int} (hf : inR f) : Sp l G yX11_isFunction cX11_isFunction 1 (some FieldType.boolean) 0 [iv f] Λ sz μ (pP μ (bz (0 ≤ f ∧ f ≤ 2))) := by
  refine Sp.intro (by decide) (Nat.le_of_ble_eq_true rfl) (fun x hx hBD => ?_)
  refine v_lv [(0, iv f)] rfl ?_
  refine v_iload hx DX11_isFunction_0 0 rfl ?_
  refine v_if_lt hx DX11_isFunction_1 (by omega) (fun c1 => ?_) (fun c1 => ?_)
  · skip
    have e0 : (0 : Int) = bz (0 ≤ f ∧ f ≤ 2) := (bz_neg (by omega)).symm
    refine v_push hx DX11_isFunction_13 ?_
    exact v_rz hx hBD (by omega) DX11_isFunction_14 (⟨rfl, e0⟩)
  · skip
    refine v_iload hx DX11_isFunction_4 0 rfl ?_
    refine v_push hx DX11_isFunction_5 ?_
    refine v_icmp_ge hx DX11_isFunction_6 (by omega) (by decide) (fun c6 => ?_) (fun c6 => ?_)
    · skip
      have e0 : (0 : Int) = bz (0 ≤ f ∧ f ≤ 2) := (bz_neg (by omega)).symm
      refine v_push hx DX11_isFunction_13 ?_
      exact v_rz hx hBD (by omega) DX11_isFunction_14 (⟨rfl, e0⟩)
    · skip
      have e0 : (1 : Int) = bz (0 ≤ f ∧ f ≤ 2) := (bz_pos (by omega)).symm
      refine v_push hx DX11_isFunction_9 ?_
      refine v_goto hx DX11_isFunction_10 ?_
      exact v_rz hx hBD (by omega) DX11_isFunction_14 (⟨rfl, e0⟩)
theorem c_termOf (l : Launch) (G : Gl) (Λ : Lay) (sz : Nat) (μ : Mem) {f i : Int} (hf : inR f) (hi : inR i) : Sp l G yX11_termOf cX11_termOf 2 (some FieldType.int) 1 [iv f, iv i] Λ sz μ (pP μ (if bz (isTO f i) = 1 then 5 * f + i + 2 else -1)) := by
  refine Sp.intro (by decide) (Nat.le_of_ble_eq_true rfl) (fun x hx hBD => ?_)
  refine v_lv [(0, iv f), (1, iv i)] rfl ?_
  refine v_iload hx DX11_termOf_0 0 rfl ?_
  refine v_cSp hx DX11_termOf_1 CSRX11_139 [iv f] (c_isFunction l G Λ sz μ (by omega)) rfl rfl (Nat.le_of_ble_eq_true rfl) (by decide) ⟨Nat.le_refl _, Nat.le_refl _⟩ ?_
  have br1 := bz_rng (0 ≤ f ∧ f ≤ 2)
  refine v_if_eq hx DX11_termOf_4 (by omega) (fun c4 => ?_) (fun c4 => ?_)
  · skip
    have d4 := bzf c4
    have e0 : (-1 : Int) = (if bz (isTO f i) = 1 then 5 * f + i + 2 else -1) := by rw [if0 (fun q => by have := q.n; omega)]
    refine v_push hx DX11_termOf_27 ?_
    exact v_ri hx hBD DX11_termOf_28 (⟨rfl, e0⟩)
  · skip
    have d4 := bzt c4
    refine v_iload hx DX11_termOf_7 1 rfl ?_
    refine v_push hx DX11_termOf_8 ?_
    refine v_push hx DX11_termOf_10 ?_
    refine v_cSp hx DX11_termOf_11 CSRX11_117 [iv i, iv (-2), iv 2] (c_within l G Λ sz μ (by omega) (by omega) (by omega)) rfl rfl (Nat.le_of_ble_eq_true rfl) (by decide) ⟨Nat.le_refl _, Nat.le_refl _⟩ ?_
    have br11 := bz_rng ((-2) ≤ i ∧ i ≤ 2)
    refine v_if_eq hx DX11_termOf_14 (by omega) (fun c14 => ?_) (fun c14 => ?_)
    · skip
      have d14 := bzf c14
      have e0 : (-1 : Int) = (if bz (isTO f i) = 1 then 5 * f + i + 2 else -1) := by rw [if0 (fun q => by have := q.n; omega)]
      refine v_push hx DX11_termOf_27 ?_
      exact v_ri hx hBD DX11_termOf_28 (⟨rfl, e0⟩)
    · skip
      have d14 := bzt c14
      refine v_iload hx DX11_termOf_17 0 rfl ?_
      refine v_push hx DX11_termOf_18 ?_
      refine v_imul hx DX11_termOf_19 ?_
      refine v_iload hx DX11_termOf_20 1 rfl ?_
      refine v_iadd hx DX11_termOf_21 ?_
      refine v_push hx DX11_termOf_22 ?_
      refine v_iadd hx DX11_termOf_23 ?_
      have e0 : f * 5 + i + 2 = (if bz (isTO f i) = 1 then 5 * f + i + 2 else -1) := by rw [if1 ⟨by omega, by omega, by omega, by omega⟩]; omega
      refine v_goto hx DX11_termOf_24 ?_
      exact v_ri hx hBD DX11_termOf_28 (⟨rfl, e0⟩)
theorem c_piece (l : Launch) (G : Gl) (Λ : Lay) (sz : Nat) (μ : Mem) {p κ σ : Nat} {i : Int} (hP : partK Λ p κ σ) (hi : -2 ≤ i ∧ i ≤ 3) : Sp l G yX4_piece cX4_piece 3 (some (FieldType.object "FiniteTerms$Frac")) 0 [.ref p, iv i] Λ sz μ (pR (fun a μ' => a = p + 26 + 5 * (i + 2).toNat ∧ μ' = μ)) := by
  refine Sp.intro (by decide) (Nat.le_of_ble_eq_true rfl) (fun x hx hBD => ?_)
  refine v_lv [(0, .ref p), (1, iv i)] rfl ?_
  refine v_iload hx DX4_piece_0 1 rfl ?_
  refine v_push hx DX4_piece_1 ?_
  refine v_iadd hx DX4_piece_2 ?_
  refine v_istore hx DX4_piece_3 [(2, iv (i + 2)), (0, .ref p), (1, iv i)] rfl (by decide) ?_
  refine v_iload hx DX4_piece_4 0 rfl ?_
  refine v_if_lt hx DX4_piece_5 (by omega) (fun c5 => ?_) (fun c5 => ?_)
  · exact absurd c5 (by omega)
  · skip
    refine v_iload hx DX4_piece_8 0 rfl ?_
    refine v_aload hx DX4_piece_9 1 rfl ?_
    refine v_get hx DX4_piece_10 FLRX4_11 hP.1 (v := .ref (p + 1)) rfl ?_
    refine v_alenI hx DX4_piece_13 hP.2.1 (by decide) (z := 6) rfl ?_
    refine v_icmp_ge hx DX4_piece_14 (by omega) (by decide) (fun c14 => ?_) (fun c14 => ?_)
    · exact absurd c14 (by omega)
    · skip
      refine v_aload hx DX4_piece_17 1 rfl ?_
      refine v_get hx DX4_piece_18 FLRX4_11 hP.1 (v := .ref (p + 1)) rfl ?_
      refine v_iload hx DX4_piece_21 0 rfl ?_
      refine v_aald hx DX4_piece_22 hP.2.1 (by decide) (by omega) (by decide) (b := p + 26 + 5 * (i + 2).toNat) (pq_at (by omega)) ?_
      refine v_goto hx DX4_piece_23 ?_
      exact v_rr hx hBD DX4_piece_30 (⟨rfl, rfl⟩)
theorem c_rest (l : Launch) (G : Gl) (Λ : Lay) (sz : Nat) (μ : Mem) {p κ σ : Nat} {i : Int} (hP : partK Λ p κ σ) (hi : -2 ≤ i ∧ i ≤ 2) : Sp l G yX4_rest cX4_rest 3 (some (FieldType.object "FiniteTerms$Frac")) 0 [.ref p, iv i] Λ sz μ (pR (fun a μ' => a = p + 56 + 5 * (i + 2).toNat ∧ μ' = μ)) := by
  refine Sp.intro (by decide) (Nat.le_of_ble_eq_true rfl) (fun x hx hBD => ?_)
  refine v_lv [(0, .ref p), (1, iv i)] rfl ?_
  refine v_iload hx DX4_rest_0 1 rfl ?_
  refine v_push hx DX4_rest_1 ?_
  refine v_iadd hx DX4_rest_2 ?_
  refine v_istore hx DX4_rest_3 [(2, iv (i + 2)), (0, .ref p), (1, iv i)] rfl (by decide) ?_
  refine v_iload hx DX4_rest_4 0 rfl ?_
  refine v_if_lt hx DX4_rest_5 (by omega) (fun c5 => ?_) (fun c5 => ?_)
  · exact absurd c5 (by omega)
  · skip
    refine v_iload hx DX4_rest_8 0 rfl ?_
    refine v_aload hx DX4_rest_9 1 rfl ?_
    refine v_get hx DX4_rest_10 FLRX4_17 hP.1 (v := .ref (p + 2)) rfl ?_
    refine v_alenI hx DX4_rest_13 hP.2.2.1 (by decide) (z := 5) rfl ?_
    refine v_icmp_ge hx DX4_rest_14 (by omega) (by decide) (fun c14 => ?_) (fun c14 => ?_)
    · exact absurd c14 (by omega)
    · skip
      refine v_aload hx DX4_rest_17 1 rfl ?_
      refine v_get hx DX4_rest_18 FLRX4_17 hP.1 (v := .ref (p + 2)) rfl ?_
      refine v_iload hx DX4_rest_21 0 rfl ?_
      refine v_aald hx DX4_rest_22 hP.2.2.1 (by decide) (by omega) (by decide) (b := p + 56 + 5 * (i + 2).toNat) (pr_at (by omega)) ?_
      refine v_goto hx DX4_rest_23 ?_
      exact v_rr hx hBD DX4_rest_30 (⟨rfl, rfl⟩)
theorem c_suits (l : Launch) (G : Gl) (Λ : Lay) (sz : Nat) (μ : Mem) {p κ σ : Nat} {c : Int} (hP : partK Λ p κ σ) (hc : 0 ≤ c ∧ c ≤ 100) (hz : μ.1 (p + 25) c = 0 ∨ μ.1 (p + 25) c = 1) : Sp l G yX4_suits cX4_suits 2 (some FieldType.boolean) 0 [.ref p, iv c] Λ sz μ (pP μ (μ.1 (p + 25) c)) := by
  refine Sp.intro (by decide) (Nat.le_of_ble_eq_true rfl) (fun x hx hBD => ?_)
  refine v_lv [(0, .ref p), (1, iv c)] rfl ?_
  refine v_iload hx DX4_suits_0 1 rfl ?_
  refine v_if_lt hx DX4_suits_1 (by omega) (fun c1 => ?_) (fun c1 => ?_)
  · exact absurd c1 (by omega)
  · skip
    refine v_iload hx DX4_suits_4 1 rfl ?_
    refine v_aload hx DX4_suits_5 0 rfl ?_
    refine v_get hx DX4_suits_6 FLRX4_50 hP.1 (v := .ref (p + 25)) rfl ?_
    refine v_alenI hx DX4_suits_9 hP.2.2.2.1 (by decide) (z := 101) rfl ?_
    refine v_icmp_ge hx DX4_suits_10 (by omega) (by decide) (fun c10 => ?_) (fun c10 => ?_)
    · exact absurd c10 (by omega)
    · skip
      refine v_aload hx DX4_suits_13 0 rfl ?_
      refine v_get hx DX4_suits_14 FLRX4_50 hP.1 (v := .ref (p + 25)) rfl ?_
      refine v_iload hx DX4_suits_17 1 rfl ?_
      refine v_zald hx DX4_suits_18 hP.2.2.2.1 (by omega) (by decide) (z := μ.1 (p + 25) c) rfl ?_
      refine v_if_eq hx DX4_suits_19 (by omega) (fun c19 => ?_) (fun c19 => ?_)
      · skip
        refine v_push hx DX4_suits_26 ?_
        exact v_rz hx hBD (by omega) DX4_suits_27 (⟨rfl, by omega⟩)
      · skip
        refine v_push hx DX4_suits_22 ?_
        refine v_goto hx DX4_suits_23 ?_
        exact v_rz hx hBD (by omega) DX4_suits_27 (⟨rfl, by omega⟩)
