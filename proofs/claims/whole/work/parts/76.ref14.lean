/-! ===== the reference's board ===== -/
def RA (μ : Mem) (ν : Nat) (ρ : Nat → PS) (b : Bd) : Prop := RW μ ν ρ ∧ b.ok ∧ (∀ t : Nat, t < 15 → ρ (2 * t) = b.num t ∧ ρ (2 * t + 1) = b.den t) ∧ (∀ j : Int, 0 ≤ j → j < 4 → μ.1 (ν + 3) j = b.2.1 j) ∧ μ.1 ν 2 = b.2.2.1 ∧ μ.1 ν 4 = b.2.2.2
theorem RA.num {μ : Mem} {ν : Nat} {ρ : Nat → PS} {b : Bd} (h : RA μ ν ρ b) {t : Int} (h0 : 0 ≤ t ∧ t < 15) : ρ (2 * t.toNat) = b.num t := by
  have := (h.2.2.1 t.toNat (by omega)).1
  rwa [Int.toNat_of_nonneg h0.1] at this
theorem RA.den {μ : Mem} {ν : Nat} {ρ : Nat → PS} {b : Bd} (h : RA μ ν ρ b) {t : Int} (h0 : 0 ≤ t ∧ t < 15) : ρ (2 * t.toNat + 1) = b.den t := by
  have := (h.2.2.1 t.toNat (by omega)).2
  rwa [Int.toNat_of_nonneg h0.1] at this
theorem Bd.den_eq {b : Bd} (h : b.ok) {t o : Int} (ht : 0 ≤ t ∧ t < 15) (ho : 0 ≤ o ∧ o < 15) : b.den t = b.den o ↔ b.agP t o 7 := by
  constructor
  · intro e k h7 h12
    have h1 := Bd.den_cf h ht (k := k - 7) (by omega) (by omega)
    have h2 := Bd.den_cf h ho (k := k - 7) (by omega) (by omega)
    rw [e] at h1
    rw [show 7 + (k - 7) = k by omega] at h1 h2
    omega
  · intro e
    refine PS.ext fun k => ?_
    unfold Bd.den
    rw [if_pos ht, if_pos ho]
    split
    · rw [e (7 + (k : Int)) (by omega) (by omega)]
    · rfl
theorem Bd.num_eq {b : Bd} (h : b.ok) {t o : Int} : b.num t = b.num o ↔ ∀ k : Int, 0 ≤ k → k < 7 → b.cell t k = b.cell o k := by
  constructor
  · intro e k h0 h7
    have h1 := Bd.num_cf h (t := t) (k := k) (by omega) (by omega)
    have h2 := Bd.num_cf h (t := o) (k := k) (by omega) (by omega)
    rw [e] at h1
    omega
  · intro e
    refine PS.ext fun k => ?_
    unfold Bd.num
    split
    · rw [e (k : Int) (by omega) (by omega)]
    · rfl
theorem Bd.same_eq {b : Bd} (h : b.ok) {t o : Int} (ht : 0 ≤ t ∧ t < 15) (ho : 0 ≤ o ∧ o < 15) : (b.num t = b.num o ∧ b.den t = b.den o) ↔ b.agP t o 0 := by
  rw [Bd.num_eq h, Bd.den_eq h ht ho]
  constructor
  · intro q k h0 h1
    by_cases c : k < 7
    · exact q.1 k h0 c
    · exact q.2 k (by omega) h1
  · intro q
    exact ⟨fun k h0 h1 => q k h0 (by omega), fun k h0 h1 => q k (by omega) h1⟩
theorem RA.fl_step {μ : Mem} {ν : Nat} {ρ : Nat → PS} {b : Bd} (h : RA μ ν ρ b) {f i : Int} (hf : 0 ≤ f ∧ f < 3) (hi : -2 ≤ i ∧ i ≤ 2) : b.fl f (i + 1 + 2).toNat = b.fl f (i + 2).toNat + (if bz (ρ (2 * (5 * f + i + 2).toNat) = PS.zero) = 1 then 0 else 2 ^ (i + 2).toNat) := by
  rw [show (i + 1 + 2).toNat = (i + 2).toNat + 1 by omega, Bd.fl, h.num (by omega), show f * 5 + ((i + 2).toNat : Int) = 5 * f + i + 2 by omega]
theorem bit_and27 {s : Int} (hs : 0 ≤ s ∧ s < 32) : Int32.ofInt s &&& Int32.ofInt 27 = Int32.ofInt (s - s / 4 % 2 * 4) := by
  have h : ∀ s : Fin 32, Int32.ofInt (s.val : Int) &&& Int32.ofInt 27 = Int32.ofInt ((s.val : Int) - (s.val : Int) / 4 % 2 * 4) := by decide +kernel
  have := h ⟨s.toNat, by omega⟩
  simpa [Int.toNat_of_nonneg hs.1] using this
/-- the least function that is the same -/
noncomputable def Bd.tw (b : Bd) (f : Int) : Int := if bz (b.twP 0 f 5) = 1 then 0 else if bz (b.twP 1 f 5) = 1 then 1 else 2
theorem Bd.tw_of {b : Bd} {f z : Int} (hf : 0 ≤ f ∧ f < 3) (h0 : 0 ≤ z) (h1 : z ≤ f) (h2 : b.twP z f 5) (h3 : ∀ g : Int, 0 ≤ g → g < z → ¬ b.twP g f 5) : z = b.tw f := by
  unfold Bd.tw
  by_cases c0 : z = 0
  · subst c0
    rw [if_pos (bz_one.mpr h2)]
  · rw [if_neg (fun q => h3 0 (by omega) (by omega) (bz_one.mp q))]
    by_cases c1 : z = 1
    · subst c1
      rw [if_pos (bz_one.mpr h2)]
    · rw [if_neg (fun q => h3 1 (by omega) (by omega) (bz_one.mp q))]
      omega
theorem r_aboveI (l : Launch) (G : Gl) (Λ : Lay) (sz : Nat) (μ : Mem) {t : Int} (h : 0 ≤ t) : Sp l G yX12_above cX12_above 1 (some FieldType.int) 0 [iv t] Λ sz μ (pP μ ((2 * t.toNat : Nat) : Int)) := by
  have q := r_above (f := t.toNat) l G Λ sz μ
  rwa [Int.toNat_of_nonneg h] at q
theorem r_belowI (l : Launch) (G : Gl) (Λ : Lay) (sz : Nat) (μ : Mem) {t : Int} (h : 0 ≤ t) : Sp l G yX12_below cX12_below 1 (some FieldType.int) 0 [iv t] Λ sz μ (pP μ ((2 * t.toNat + 1 : Nat) : Int)) := by
  have q := r_below (f := t.toNat) l G Λ sz μ
  rwa [Int.toNat_of_nonneg h] at q
theorem r_noughtI (l : Launch) (G : Gl) (Λ : Lay) (sz : Nat) (μ : Mem) {ν : Nat} {ρ : Nat → PS} {t : Int} (hR : refK Λ ν) (hw : RW μ ν ρ) (h : 0 ≤ t ∧ t < 77) : Sp l G yX12_nought cX12_nought 2 none 2 [.ref ν, iv t] Λ sz μ (pV (fun μ' => RW μ' ν (up (up ρ (2 * t.toNat) PS.zero) (2 * t.toNat + 1) PS.one) ∧ Fr [ν + 1] μ μ')) := by
  have q := r_nought (f := t.toNat) l G Λ sz μ hR hw (by omega)
  rwa [Int.toNat_of_nonneg h.1] at q
theorem Bd.tw_self (b : Bd) (f : Int) : b.twP f f 5 := fun _ _ _ _ _ _ => rfl
theorem r_presentOf (l : Launch) (G : Gl) (Λ : Lay) (sz : Nat) (μ : Mem) {ν : Nat} {ρ : Nat → PS} {b : Bd} {f : Int} (hR : refK Λ ν) (ha : RA μ ν ρ b) (hf : 0 ≤ f ∧ f < 3) : Sp l G yX12_presentOf cX12_presentOf 4 (some FieldType.int) 2 [.ref ν, iv f] Λ sz μ (pP μ (b.fl f 5)) := by
  refine Sp.intro (by decide) (Nat.le_of_ble_eq_true rfl) (fun x hx hBD => ?_)
  refine v_lv [(0, .ref ν), (1, iv f)] rfl ?_
  have L5 : ∀ (nf : Nat) (i z : Int), (3 - i < (nf : Int)) → (-2 ≤ i ∧ i ≤ 3) → (z = b.fl f (i + 2).toNat) → V G x (0, 0) Λ sz μ 5 [(3, iv i), (2, iv z), (0, .ref ν), (1, iv f)] [] := by
    intro nf
    induction nf with
    | zero => intro i z hm hi hz; exact absurd hm (by omega)
    | succ nf ih =>
      intro i z hm hi hz
      have hfr := b.fl_rng f (i + 2).toNat
      have hb1 := bz_rng (ρ (2 * (5 * f + i + 2).toNat) = PS.zero)
      refine v_iload hx DX12_presentOf_5 0 rfl ?_
      refine v_push hx DX12_presentOf_6 ?_
      refine v_icmp_gt hx DX12_presentOf_7 (by omega) (by decide) (fun c7 => ?_) (fun c7 => ?_)
      · skip
        refine v_iload hx DX12_presentOf_40 1 rfl ?_
        exact v_ri hx hBD DX12_presentOf_41 (⟨rfl, by rw [hz, show (i + 2).toNat = 5 by omega]⟩)
      · skip
        refine v_iload hx DX12_presentOf_10 1 rfl ?_
        refine v_aload hx DX12_presentOf_11 2 rfl ?_
        refine v_iload hx DX12_presentOf_12 3 rfl ?_
        refine v_iload hx DX12_presentOf_13 0 rfl ?_
        refine v_cSp hx DX12_presentOf_14 CSRX12_155 [iv f, iv i] (r_term l G Λ sz μ (by omega)) rfl rfl (Nat.le_of_ble_eq_true rfl) (by decide) ⟨Nat.le_refl _, Nat.le_refl _⟩ ?_
        refine v_cVp hx DX12_presentOf_17 CVRX12_186 [iv ((5 * f + i + 2).toNat : Int)] (r_isNought (f := (5 * f + i + 2).toNat) l G Λ sz μ hR ha.1 (by omega)) hR.o rfl rfl (Nat.le_of_ble_eq_true rfl) (by decide) ⟨Nat.le_refl _, Nat.le_refl _⟩ ?_
        refine v_if_eq hx DX12_presentOf_20 (by omega) (fun c20 => ?_) (fun c20 => ?_)
        · skip
          refine v_push hx DX12_presentOf_27 ?_
          refine v_iload hx DX12_presentOf_28 0 rfl ?_
          refine v_push hx DX12_presentOf_29 ?_
          refine v_iadd hx DX12_presentOf_30 ?_
          refine v_ishl hx DX12_presentOf_31 (z := 2 ^ (i + 2).toNat) (bit_shl (by omega)) ?_
          refine v_ior hx DX12_presentOf_32 (z := z + 2 ^ (i + 2).toNat) (bit_or (by omega) (by rw [hz]; exact hfr)) ?_
          have hq : z + 2 ^ (i + 2).toNat = b.fl f (i + 2).toNat + (if bz (ρ (2 * (5 * f + i + 2).toNat) = PS.zero) = 1 then 0 else 2 ^ (i + 2).toNat) := by rw [if_neg (by omega), hz]
          refine v_istore hx DX12_presentOf_33 [(2, iv (z + 2 ^ (i + 2).toNat)), (3, iv i), (0, .ref ν), (1, iv f)] rfl (by decide) ?_
          refine v_iinc hx DX12_presentOf_34 1 rfl [(3, iv (i + 1)), (2, iv (z + 2 ^ (i + 2).toNat)), (0, .ref ν), (1, iv f)] rfl (by decide) ?_
          refine v_goto hx DX12_presentOf_37 ?_
          exact v_sub [0, 1, 2, 3] _ rfl (ih (i + 1) (z + 2 ^ (i + 2).toNat) (by omega) (by omega) (by rw [ha.fl_step hf (by omega)]; exact hq))
        · skip
          refine v_push hx DX12_presentOf_23 ?_
          refine v_goto hx DX12_presentOf_24 ?_
          refine v_ior hx DX12_presentOf_32 (z := z) (bit_or0 z) ?_
          have hq : z = b.fl f (i + 2).toNat + (if bz (ρ (2 * (5 * f + i + 2).toNat) = PS.zero) = 1 then 0 else 2 ^ (i + 2).toNat) := by rw [if_pos (by omega), hz]; omega
          refine v_istore hx DX12_presentOf_33 [(2, iv z), (3, iv i), (0, .ref ν), (1, iv f)] rfl (by decide) ?_
          refine v_iinc hx DX12_presentOf_34 1 rfl [(3, iv (i + 1)), (2, iv z), (0, .ref ν), (1, iv f)] rfl (by decide) ?_
          refine v_goto hx DX12_presentOf_37 ?_
          exact v_sub [0, 1, 2, 3] _ rfl (ih (i + 1) z (by omega) (by omega) (by rw [ha.fl_step hf (by omega)]; exact hq))
  refine v_push hx DX12_presentOf_0 ?_
  refine v_istore hx DX12_presentOf_1 [(2, iv 0), (0, .ref ν), (1, iv f)] rfl (by decide) ?_
  refine v_push hx DX12_presentOf_2 ?_
  refine v_istore hx DX12_presentOf_4 [(3, iv (-2)), (2, iv 0), (0, .ref ν), (1, iv f)] rfl (by decide) ?_
  exact v_sub [0, 1, 2, 3] _ rfl (L5 100 (-2) 0 (by omega) (by omega) rfl)
theorem r_isSameFunction (l : Launch) (G : Gl) (Λ : Lay) (sz : Nat) (μ : Mem) {ν : Nat} {ρ : Nat → PS} {b : Bd} {f g : Int} (hR : refK Λ ν) (ha : RA μ ν ρ b) (hf : 0 ≤ f ∧ f < 3) (hg : 0 ≤ g ∧ g < 3) : Sp l G yX12_isSameFunction cX12_isSameFunction 5 (some FieldType.boolean) 2 [.ref ν, iv f, iv g] Λ sz μ (pP μ (bz (b.twP f g 5))) := by
  refine Sp.intro (by decide) (Nat.le_of_ble_eq_true rfl) (fun x hx hBD => ?_)
  refine v_lv [(0, .ref ν), (1, iv f), (2, iv g)] rfl ?_
  have L6 : ∀ (nf : Nat) (i z : Int), (3 - i < (nf : Int)) → (-2 ≤ i ∧ i ≤ 3) → (z = bz (∀ j : Nat, (j : Int) < i + 2 → (fun j : Nat => b.agP (f * 5 + (j : Int)) (g * 5 + (j : Int)) 0) j)) → V G x (0, 0) Λ sz μ 6 [(4, iv i), (3, iv z), (0, .ref ν), (1, iv f), (2, iv g)] [] := by
    intro nf
    induction nf with
    | zero => intro i z hm hi hz; exact absurd hm (by omega)
    | succ nf ih =>
      intro i z hm hi hz
      have zr := hz.symm ▸ bz_rng _
      have hbr := bz_rng (ρ (2 * (5 * f + i + 2).toNat) = ρ (2 * (5 * g + i + 2).toNat) ∧ ρ (2 * (5 * f + i + 2).toNat + 1) = ρ (2 * (5 * g + i + 2).toNat + 1))
      refine v_iload hx DX12_isSameFunction_6 0 rfl ?_
      refine v_push hx DX12_isSameFunction_8 ?_
      refine v_icmp_gt hx DX12_isSameFunction_9 (by omega) (by decide) (fun c9 => ?_) (fun c9 => ?_)
      · skip
        refine v_iload hx DX12_isSameFunction_47 1 rfl ?_
        exact v_rz hx hBD (by omega) DX12_isSameFunction_48 (⟨rfl, hz.trans (bz_congr ⟨fun q k h0 h1 => by have := q k.toNat (by omega); simp only [Int.toNat_of_nonneg h0] at this; exact this, fun q j hj => q (j : Int) (by omega) (by omega)⟩)⟩)
      · skip
        have hx1 : (ρ (2 * (5 * f + i + 2).toNat) = ρ (2 * (5 * g + i + 2).toNat) ∧ ρ (2 * (5 * f + i + 2).toNat + 1) = ρ (2 * (5 * g + i + 2).toNat + 1)) ↔ (fun j : Nat => b.agP (f * 5 + (j : Int)) (g * 5 + (j : Int)) 0) (i + 2).toNat := by
          rw [ha.num (by omega), ha.num (by omega), ha.den (by omega), ha.den (by omega), Bd.same_eq ha.2.1 (by omega) (by omega)]
          show b.agP _ _ 0 ↔ b.agP (f * 5 + ((i + 2).toNat : Int)) (g * 5 + ((i + 2).toNat : Int)) 0
          rw [show f * 5 + ((i + 2).toNat : Int) = 5 * f + i + 2 by omega, show g * 5 + ((i + 2).toNat : Int) = 5 * g + i + 2 by omega]
        refine v_iload hx DX12_isSameFunction_12 1 rfl ?_
        refine v_if_eq hx DX12_isSameFunction_13 (by omega) (fun c13 => ?_) (fun c13 => ?_)
        · skip
          refine v_push hx DX12_isSameFunction_39 ?_
          refine v_istore hx DX12_isSameFunction_40 [(3, iv 0), (4, iv i), (0, .ref ν), (1, iv f), (2, iv g)] rfl (by decide) ?_
          refine v_iinc hx DX12_isSameFunction_41 1 rfl [(4, iv (i + 1)), (3, iv 0), (0, .ref ν), (1, iv f), (2, iv g)] rfl (by decide) ?_
          refine v_goto hx DX12_isSameFunction_44 ?_
          exact v_sub [0, 1, 2, 3, 4] _ rfl (ih (i + 1) 0 (by omega) (by omega) (by rw [show i + 1 + 2 = i + 2 + 1 by omega]; exact bz_all0 hz c13))
        · skip
          refine v_aload hx DX12_isSameFunction_16 2 rfl ?_
          refine v_iload hx DX12_isSameFunction_17 3 rfl ?_
          refine v_iload hx DX12_isSameFunction_18 0 rfl ?_
          refine v_cSp hx DX12_isSameFunction_20 CSRX12_155 [iv f, iv i] (r_term l G Λ sz μ (by omega)) rfl rfl (Nat.le_of_ble_eq_true rfl) (by decide) ⟨Nat.le_refl _, Nat.le_refl _⟩ ?_
          refine v_iload hx DX12_isSameFunction_23 4 rfl ?_
          refine v_iload hx DX12_isSameFunction_24 0 rfl ?_
          refine v_cSp hx DX12_isSameFunction_26 CSRX12_155 [iv g, iv i] (r_term l G Λ sz μ (by omega)) rfl rfl (Nat.le_of_ble_eq_true rfl) (by decide) ⟨Nat.le_refl _, Nat.le_refl _⟩ ?_
          refine v_cVp hx DX12_isSameFunction_29 CVRX12_190 [iv ((5 * f + i + 2).toNat : Int), iv ((5 * g + i + 2).toNat : Int)] (r_isSame (f := (5 * f + i + 2).toNat) (g := (5 * g + i + 2).toNat) l G Λ sz μ hR ha.1 (by omega) (by omega)) hR.o rfl rfl (Nat.le_of_ble_eq_true rfl) (by decide) ⟨Nat.le_refl _, Nat.le_refl _⟩ ?_
          refine v_if_eq hx DX12_isSameFunction_32 (by omega) (fun c32 => ?_) (fun c32 => ?_)
          · skip
            refine v_push hx DX12_isSameFunction_39 ?_
            refine v_istore hx DX12_isSameFunction_40 [(3, iv 0), (4, iv i), (0, .ref ν), (1, iv f), (2, iv g)] rfl (by decide) ?_
            refine v_iinc hx DX12_isSameFunction_41 1 rfl [(4, iv (i + 1)), (3, iv 0), (0, .ref ν), (1, iv f), (2, iv g)] rfl (by decide) ?_
            refine v_goto hx DX12_isSameFunction_44 ?_
            exact v_sub [0, 1, 2, 3, 4] _ rfl (ih (i + 1) 0 (by omega) (by omega) (by rw [show i + 1 + 2 = i + 2 + 1 by omega]; exact bz_all1 (by omega) (fun q => bz_zero.mp c32 (hx1.mpr q))))
          · skip
            refine v_push hx DX12_isSameFunction_35 ?_
            refine v_goto hx DX12_isSameFunction_36 ?_
            refine v_istore hx DX12_isSameFunction_40 [(3, iv 1), (4, iv i), (0, .ref ν), (1, iv f), (2, iv g)] rfl (by decide) ?_
            refine v_iinc hx DX12_isSameFunction_41 1 rfl [(4, iv (i + 1)), (3, iv 1), (0, .ref ν), (1, iv f), (2, iv g)] rfl (by decide) ?_
            refine v_goto hx DX12_isSameFunction_44 ?_
            exact v_sub [0, 1, 2, 3, 4] _ rfl (ih (i + 1) 1 (by omega) (by omega) (by rw [show i + 1 + 2 = i + 2 + 1 by omega]; exact bz_all2 (by omega) hz c13 (hx1.mp (Classical.byContradiction (fun q => c32 (bz_neg q))))))
  refine v_push hx DX12_isSameFunction_0 ?_
  refine v_istore hx DX12_isSameFunction_1 [(3, iv 1), (0, .ref ν), (1, iv f), (2, iv g)] rfl (by decide) ?_
  refine v_push hx DX12_isSameFunction_2 ?_
  refine v_istore hx DX12_isSameFunction_4 [(4, iv (-2)), (3, iv 1), (0, .ref ν), (1, iv f), (2, iv g)] rfl (by decide) ?_
  exact v_sub [0, 1, 2, 3, 4] _ rfl (L6 100 (-2) 1 (by omega) (by omega) (bz_pos (fun j hj => by omega)).symm)
theorem r_belows (l : Launch) (G : Gl) (Λ : Lay) (sz : Nat) (μ : Mem) {ν : Nat} {ρ : Nat → PS} {b : Bd} {f : Int} (hR : refK Λ ν) (ha : RA μ ν ρ b) (hf : 0 ≤ f ∧ f < 3) : Sp l G yX12_belows cX12_belows 6 (some FieldType.int) 2 [.ref ν, iv f] Λ sz μ (pP μ (b.dn f 5)) := by
  refine Sp.intro (by decide) (Nat.le_of_ble_eq_true rfl) (fun x hx hBD => ?_)
  refine v_lv [(0, .ref ν), (1, iv f)] rfl ?_
  have L17 : ∀ (nf : Nat) (i z k w : Int), (i - k < (nf : Int)) → (-2 ≤ i ∧ i ≤ 2) → (-2 ≤ k ∧ k ≤ i) → (w = bz (∀ j : Nat, (j : Int) < k + 2 → (fun j : Nat => ¬ b.agP (f * 5 + (j : Int)) (f * 5 + (i + 2)) 7) j)) → (∀ (v : Int), (v = bz (b.frs f (i + 2) (i + 2))) → V G x (0, 0) Λ sz μ 59 [(4, iv v), (3, iv i), (2, iv z), (0, .ref ν), (1, iv f)] []) → V G x (0, 0) Λ sz μ 17 [(5, iv k), (4, iv w), (3, iv i), (2, iv z), (0, .ref ν), (1, iv f)] [] := by
    intro nf
    induction nf with
    | zero => intro i z k w hm hi hj hw2 hC; exact absurd hm (by omega)
    | succ nf ih =>
      intro i z k w hm hi hj hw2 hC
      have wr := hw2.symm ▸ bz_rng _
      have hbr := bz_rng (ρ (2 * (5 * f + i + 2).toNat + 1) = ρ (2 * (5 * f + k + 2).toNat + 1))
      refine v_iload hx DX12_belows_17 0 rfl ?_
      refine v_iload hx DX12_belows_19 2 rfl ?_
      refine v_icmp_ge hx DX12_belows_20 (by omega) (by omega) (fun c20 => ?_) (fun c20 => ?_)
      · skip
        exact v_sub [1, 2, 3, 4, 5] _ rfl (hC w (hw2.trans (bz_congr ⟨fun q j h0 h1 => by have := q j.toNat (by omega); simp only [Int.toNat_of_nonneg h0] at this; exact this, fun q j hj => q (j : Int) (by omega) (by omega)⟩)))
      · skip
        have hx1 : (ρ (2 * (5 * f + i + 2).toNat + 1) = ρ (2 * (5 * f + k + 2).toNat + 1)) ↔ b.agP (f * 5 + ((k + 2).toNat : Int)) (f * 5 + (i + 2)) 7 := by
          rw [ha.den (by omega), ha.den (by omega), eq_comm, Bd.den_eq ha.2.1 (by omega) (by omega), show f * 5 + ((k + 2).toNat : Int) = 5 * f + k + 2 by omega, show f * 5 + (i + 2) = 5 * f + i + 2 by omega]
        refine v_iload hx DX12_belows_23 1 rfl ?_
        refine v_if_eq hx DX12_belows_25 (by omega) (fun c25 => ?_) (fun c25 => ?_)
        · skip
          refine v_push hx DX12_belows_50 ?_
          refine v_istore hx DX12_belows_51 [(4, iv 0), (5, iv k), (3, iv i), (2, iv z), (0, .ref ν), (1, iv f)] rfl (by decide) ?_
          refine v_iinc hx DX12_belows_53 1 rfl [(5, iv (k + 1)), (4, iv 0), (3, iv i), (2, iv z), (0, .ref ν), (1, iv f)] rfl (by decide) ?_
          refine v_goto hx DX12_belows_56 ?_
          exact v_sub [0, 1, 2, 3, 4, 5] _ rfl (ih i z (k + 1) 0 (by omega) hi (by omega) (by rw [show k + 1 + 2 = k + 2 + 1 by omega]; exact bz_all0 hw2 c25) hC)
        · skip
          refine v_aload hx DX12_belows_28 4 rfl ?_
          refine v_iload hx DX12_belows_29 5 rfl ?_
          refine v_iload hx DX12_belows_30 2 rfl ?_
          refine v_cSp hx DX12_belows_31 CSRX12_155 [iv f, iv i] (r_term l G Λ sz μ (by omega)) rfl rfl (Nat.le_of_ble_eq_true rfl) (by decide) ⟨Nat.le_refl _, Nat.le_refl _⟩ ?_
          refine v_iload hx DX12_belows_34 5 rfl ?_
          refine v_iload hx DX12_belows_35 0 rfl ?_
          refine v_cSp hx DX12_belows_37 CSRX12_155 [iv f, iv k] (r_term l G Λ sz μ (by omega)) rfl rfl (Nat.le_of_ble_eq_true rfl) (by decide) ⟨Nat.le_refl _, Nat.le_refl _⟩ ?_
          refine v_cVp hx DX12_belows_40 CVRX12_193 [iv ((5 * f + i + 2).toNat : Int), iv ((5 * f + k + 2).toNat : Int)] (r_isBelowAlike (f := (5 * f + i + 2).toNat) (g := (5 * f + k + 2).toNat) l G Λ sz μ hR ha.1 (by omega) (by omega)) hR.o rfl rfl (Nat.le_of_ble_eq_true rfl) (by decide) ⟨Nat.le_refl _, Nat.le_refl _⟩ ?_
          refine v_if_ne hx DX12_belows_43 (by omega) (fun c43 => ?_) (fun c43 => ?_)
          · skip
            refine v_push hx DX12_belows_50 ?_
            refine v_istore hx DX12_belows_51 [(4, iv 0), (5, iv k), (3, iv i), (2, iv z), (0, .ref ν), (1, iv f)] rfl (by decide) ?_
            refine v_iinc hx DX12_belows_53 1 rfl [(5, iv (k + 1)), (4, iv 0), (3, iv i), (2, iv z), (0, .ref ν), (1, iv f)] rfl (by decide) ?_
            refine v_goto hx DX12_belows_56 ?_
            exact v_sub [0, 1, 2, 3, 4, 5] _ rfl (ih i z (k + 1) 0 (by omega) hi (by omega) (by rw [show k + 1 + 2 = k + 2 + 1 by omega]; exact bz_all1 (by omega) (fun q => q (hx1.mp (Classical.byContradiction (fun q => c43 (bz_neg q)))))) hC)
          · skip
            refine v_push hx DX12_belows_46 ?_
            refine v_goto hx DX12_belows_47 ?_
            refine v_istore hx DX12_belows_51 [(4, iv 1), (5, iv k), (3, iv i), (2, iv z), (0, .ref ν), (1, iv f)] rfl (by decide) ?_
            refine v_iinc hx DX12_belows_53 1 rfl [(5, iv (k + 1)), (4, iv 1), (3, iv i), (2, iv z), (0, .ref ν), (1, iv f)] rfl (by decide) ?_
            refine v_goto hx DX12_belows_56 ?_
            exact v_sub [0, 1, 2, 3, 4, 5] _ rfl (ih i z (k + 1) 1 (by omega) hi (by omega) (by rw [show k + 1 + 2 = k + 2 + 1 by omega]; exact bz_all2 (by omega) hw2 c25 (fun q => bz_zero.mp c43 (hx1.mpr q))) hC)
  have L5 : ∀ (nf : Nat) (i z : Int), (3 - i < (nf : Int)) → (-2 ≤ i ∧ i ≤ 3) → (z = b.dn f (i + 2).toNat) → V G x (0, 0) Λ sz μ 5 [(3, iv i), (2, iv z), (0, .ref ν), (1, iv f)] [] := by
    intro nf
    induction nf with
    | zero => intro i z hm hi hz; exact absurd hm (by omega)
    | succ nf ih =>
      intro i z hm hi hz
      refine v_iload hx DX12_belows_5 0 rfl ?_
      refine v_push hx DX12_belows_6 ?_
      refine v_icmp_gt hx DX12_belows_7 (by omega) (by decide) (fun c7 => ?_) (fun c7 => ?_)
      · skip
        refine v_iload hx DX12_belows_78 1 rfl ?_
        exact v_ri hx hBD DX12_belows_79 (⟨rfl, by rw [hz, show (i + 2).toNat = 5 by omega]⟩)
      · skip
        refine v_push hx DX12_belows_10 ?_
        refine v_istore hx DX12_belows_11 [(4, iv 1), (3, iv i), (2, iv z), (0, .ref ν), (1, iv f)] rfl (by decide) ?_
        refine v_push hx DX12_belows_13 ?_
        refine v_istore hx DX12_belows_15 [(5, iv (-2)), (4, iv 1), (3, iv i), (2, iv z), (0, .ref ν), (1, iv f)] rfl (by decide) ?_
        refine v_sub [0, 1, 2, 3, 4, 5] _ rfl (L17 100 i z (-2) 1 (by omega) (by omega) (by omega) (bz_pos (fun j hj => by omega)).symm (fun v hv => ?_))
        have hvr := bz_rng (b.frs f (i + 2) (i + 2))
        refine v_iload hx DX12_belows_59 2 rfl ?_
        refine v_iload hx DX12_belows_60 0 rfl ?_
        refine v_if_eq hx DX12_belows_62 (by omega) (fun c62 => ?_) (fun c62 => ?_)
        · skip
          have hq : z + 0 = z + bz (b.frs f (i + 2) (i + 2)) := by omega
          refine v_push hx DX12_belows_69 ?_
          refine v_iadd hx DX12_belows_70 ?_
          refine v_istore hx DX12_belows_71 [(2, iv (z + 0)), (4, iv v), (3, iv i), (0, .ref ν), (1, iv f)] rfl (by decide) ?_
          refine v_iinc hx DX12_belows_72 2 rfl [(3, iv (i + 1)), (2, iv (z + 0)), (4, iv v), (0, .ref ν), (1, iv f)] rfl (by decide) ?_
          refine v_goto hx DX12_belows_75 ?_
          exact v_sub [0, 1, 3, 4] _ rfl (ih (i + 1) (z + 0) (by omega) (by omega) (by rw [show (i + 1 + 2).toNat = (i + 2).toNat + 1 by omega, Bd.dn, ← hz, Int.toNat_of_nonneg (by omega)]; exact hq))
        · skip
          have hq : z + 1 = z + bz (b.frs f (i + 2) (i + 2)) := by omega
          refine v_push hx DX12_belows_65 ?_
          refine v_goto hx DX12_belows_66 ?_
          refine v_iadd hx DX12_belows_70 ?_
          refine v_istore hx DX12_belows_71 [(2, iv (z + 1)), (4, iv v), (3, iv i), (0, .ref ν), (1, iv f)] rfl (by decide) ?_
          refine v_iinc hx DX12_belows_72 2 rfl [(3, iv (i + 1)), (2, iv (z + 1)), (4, iv v), (0, .ref ν), (1, iv f)] rfl (by decide) ?_
          refine v_goto hx DX12_belows_75 ?_
          exact v_sub [0, 1, 3, 4] _ rfl (ih (i + 1) (z + 1) (by omega) (by omega) (by rw [show (i + 1 + 2).toNat = (i + 2).toNat + 1 by omega, Bd.dn, ← hz, Int.toNat_of_nonneg (by omega)]; exact hq))
  refine v_push hx DX12_belows_0 ?_
  refine v_istore hx DX12_belows_1 [(2, iv 0), (0, .ref ν), (1, iv f)] rfl (by decide) ?_
  refine v_push hx DX12_belows_2 ?_
  refine v_istore hx DX12_belows_4 [(3, iv (-2)), (2, iv 0), (0, .ref ν), (1, iv f)] rfl (by decide) ?_
  exact v_sub [0, 1, 2, 3] _ rfl (L5 100 (-2) 0 (by omega) (by omega) rfl)
theorem r_fits (l : Launch) (G : Gl) (Λ : Lay) (sz : Nat) (μ : Mem) {ν : Nat} {ρ : Nat → PS} {b : Bd} {f : Int} (hR : refK Λ ν) (ha : RA μ ν ρ b) (hf : 0 ≤ f ∧ f < 3) : Sp l G yX12_fits cX12_fits 3 (some FieldType.boolean) 3 [.ref ν, iv f] Λ sz μ (pP μ (b.fit f)) := by
  refine Sp.intro (by decide) (Nat.le_of_ble_eq_true rfl) (fun x hx hBD => ?_)
  refine v_lv [(0, .ref ν), (1, iv f)] rfl ?_
  have hfr := b.fl_rng f 5
  have hfr2 : 0 ≤ b.fl f 5 ∧ b.fl f 5 < 32 := hfr
  have uk := ha.2.1.2.2.1
  refine v_aload hx DX12_fits_0 0 rfl ?_
  refine v_iload hx DX12_fits_1 1 rfl ?_
  refine v_cVp hx DX12_fits_2 CVRX12_196 [iv f] (r_presentOf l G Λ sz μ hR ha hf) hR.o rfl rfl (Nat.le_of_ble_eq_true rfl) (by decide) ⟨Nat.le_refl _, Nat.le_refl _⟩ ?_
  refine v_istore hx DX12_fits_5 [(2, iv (b.fl f 5)), (0, .ref ν), (1, iv f)] rfl (by decide) ?_
  refine v_aload hx DX12_fits_6 1 rfl ?_
  refine v_get hx DX12_fits_7 FLRX12_125 hR.o (fv_i rfl ha.2.2.2.2.1 : _ = iv b.2.2.1) ?_
  refine v_push hx DX12_fits_10 ?_
  refine v_icmp_eq hx DX12_fits_11 (by omega) (by decide) (fun c11 => ?_) (fun c11 => ?_)
  · skip
    have e0 : (1 : Int) = b.fit f := by unfold Bd.fit; rw [if_neg (by omega), bz_pos (Or.inl (by omega))]
    refine v_push hx DX12_fits_32 ?_
    refine v_goto hx DX12_fits_33 ?_
    exact v_rz hx hBD (by omega) DX12_fits_37 (⟨rfl, e0⟩)
  · skip
    refine v_iload hx DX12_fits_14 0 rfl ?_
    refine v_aload hx DX12_fits_15 1 rfl ?_
    refine v_get hx DX12_fits_16 FLRX12_125 hR.o (fv_i rfl ha.2.2.2.2.1 : _ = iv b.2.2.1) ?_
    refine v_if_ne hx DX12_fits_19 (by omega) (fun c19 => ?_) (fun c19 => ?_)
    · skip
      refine v_push hx DX12_fits_27 ?_
      refine v_iand hx DX12_fits_28 (z := b.fl f 5 % 4) (bit_and3 hfr2) ?_
      refine v_if_ne hx DX12_fits_29 (by omega) (fun c29 => ?_) (fun c29 => ?_)
      · skip
        have e0 : (0 : Int) = b.fit f := by unfold Bd.fit; rw [if_neg (by omega), bz_neg (fun q => q.elim (fun q => by omega) c29)]
        refine v_push hx DX12_fits_36 ?_
        exact v_rz hx hBD (by omega) DX12_fits_37 (⟨rfl, e0⟩)
      · skip
        have e0 : (1 : Int) = b.fit f := by unfold Bd.fit; rw [if_neg (by omega), bz_pos (Or.inr c29)]
        refine v_push hx DX12_fits_32 ?_
        refine v_goto hx DX12_fits_33 ?_
        exact v_rz hx hBD (by omega) DX12_fits_37 (⟨rfl, e0⟩)
    · skip
      refine v_push hx DX12_fits_22 ?_
      refine v_goto hx DX12_fits_24 ?_
      refine v_iand hx DX12_fits_28 (z := b.fl f 5 - b.fl f 5 / 4 % 2 * 4) (bit_and27 hfr2) ?_
      refine v_if_ne hx DX12_fits_29 (by omega) (fun c29 => ?_) (fun c29 => ?_)
      · skip
        have e0 : (0 : Int) = b.fit f := by unfold Bd.fit; rw [if_pos (by omega), bz_neg c29]
        refine v_push hx DX12_fits_36 ?_
        exact v_rz hx hBD (by omega) DX12_fits_37 (⟨rfl, e0⟩)
      · skip
        have e0 : (1 : Int) = b.fit f := by unfold Bd.fit; rw [if_pos (by omega), bz_pos c29]
        refine v_push hx DX12_fits_32 ?_
        refine v_goto hx DX12_fits_33 ?_
        exact v_rz hx hBD (by omega) DX12_fits_37 (⟨rfl, e0⟩)
theorem r_valueOf (l : Launch) (G : Gl) (Λ : Lay) (sz : Nat) (μ : Mem) {ν : Nat} {ρ : Nat → PS} {b : Bd} {t v : Int} (hR : refK Λ ν) (ha : RA μ ν ρ b) (ht : 0 ≤ t ∧ t < 15) (hx0 : 0 ≤ v ∧ v ≤ 100) : Sp l G yX12_valueOf cX12_valueOf 4 (some FieldType.int) 2 [.ref ν, iv (t.toNat : Int), iv v] Λ sz μ (pP μ (b.val t v)) := by
  refine Sp.intro (by decide) (Nat.le_of_ble_eq_true rfl) (fun x hx hBD => ?_)
  refine v_lv [(0, .ref ν), (1, iv (t.toNat : Int)), (2, iv v)] rfl ?_
  have e1 := ha.num ht
  have e2 := ha.den ht
  have r1 := evI_rng (b.num t) v 0
  have r2 := evI_rng (b.den t) v 0
  have r3 := ivI_rng (evI (b.den t) v 0)
  have r4 := mulb (a := evI (b.num t) v 0) (b := ivI (evI (b.den t) v 0)) (B := 100) r1.1 r1.2 (by omega) (by omega)
  refine v_aload hx DX12_valueOf_0 0 rfl ?_
  refine v_iload hx DX12_valueOf_1 1 rfl ?_
  refine v_cSp hx DX12_valueOf_2 CSRX12_41 [iv (t.toNat : Int)] (r_below l G Λ sz μ) rfl rfl (Nat.le_of_ble_eq_true rfl) (by decide) ⟨Nat.le_refl _, Nat.le_refl _⟩ ?_
  refine v_iload hx DX12_valueOf_5 2 rfl ?_
  refine v_cVp hx DX12_valueOf_6 CVRX12_177 [iv ((2 * t.toNat + 1 : Nat) : Int), iv v] (r_valueAt (s := 2 * t.toNat + 1) l G Λ sz μ hR ha.1 (by omega) (by omega)) hR.o rfl rfl (Nat.le_of_ble_eq_true rfl) (by decide) ⟨Nat.le_refl _, Nat.le_refl _⟩ ?_
  rw [e2]
  refine v_istore hx DX12_valueOf_9 [(3, iv (evI (b.den t) v 0)), (0, .ref ν), (1, iv (t.toNat : Int)), (2, iv v)] rfl (by decide) ?_
  refine v_iload hx DX12_valueOf_10 0 rfl ?_
  refine v_if_ne hx DX12_valueOf_11 (by omega) (fun c11 => ?_) (fun c11 => ?_)
  · skip
    have e0 : evI (b.num t) v 0 * ivI (evI (b.den t) v 0) % 101 = b.val t v := by unfold Bd.val; rw [if_neg c11]
    refine v_aload hx DX12_valueOf_19 1 rfl ?_
    refine v_iload hx DX12_valueOf_20 2 rfl ?_
    refine v_cSp hx DX12_valueOf_21 CSRX12_38 [iv (t.toNat : Int)] (r_above l G Λ sz μ) rfl rfl (Nat.le_of_ble_eq_true rfl) (by decide) ⟨Nat.le_refl _, Nat.le_refl _⟩ ?_
    refine v_iload hx DX12_valueOf_24 3 rfl ?_
    refine v_cVp hx DX12_valueOf_25 CVRX12_177 [iv ((2 * t.toNat : Nat) : Int), iv v] (r_valueAt (s := 2 * t.toNat) l G Λ sz μ hR ha.1 (by omega) (by omega)) hR.o rfl rfl (Nat.le_of_ble_eq_true rfl) (by decide) ⟨Nat.le_refl _, Nat.le_refl _⟩ ?_
    rw [e1]
    refine v_iload hx DX12_valueOf_28 0 rfl ?_
    refine v_cSp hx DX12_valueOf_29 CSRX12_24 [iv (evI (b.den t) v 0)] (r_over l G Λ sz μ (by omega)) rfl rfl (Nat.le_of_ble_eq_true rfl) (by decide) ⟨Nat.le_refl _, Nat.le_refl _⟩ ?_
    refine v_imul hx DX12_valueOf_32 ?_
    refine v_push hx DX12_valueOf_33 ?_
    refine v_irem hx (by omega) (by decide) DX12_valueOf_35 ?_
    exact v_ri hx hBD DX12_valueOf_36 (⟨rfl, e0⟩)
  · skip
    have e0 : (-4 : Int) = b.val t v := by unfold Bd.val; rw [if_pos c11]
    refine v_push hx DX12_valueOf_14 ?_
    refine v_goto hx DX12_valueOf_16 ?_
    exact v_ri hx hBD DX12_valueOf_36 (⟨rfl, e0⟩)
