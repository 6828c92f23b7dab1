/-! ===== the reference's fractions ===== -/
def RFI (ρ : Nat → PS) (k : Int) (a : FP2) : Prop := ρ (2 * k.toNat) = a.1 ∧ ρ (2 * k.toNat + 1) = a.2
theorem RFI.kept {ρ ρ' : Nat → PS} {k o : Int} {a : FP2} (h : RFI ρ k a) (hk : 0 ≤ k ∧ k < 70) (ho : 0 ≤ o) (hne : k ≠ o) (e : ∀ r : Nat, (r < 140 ∨ 147 < r ∧ r < 151) → r ≠ 2 * o.toNat → r ≠ 2 * o.toNat + 1 → ρ' r = ρ r) : RFI ρ' k a :=
  ⟨(e _ (by omega) (by omega) (by omega)).trans h.1, (e _ (by omega) (by omega) (by omega)).trans h.2⟩
theorem RA.tm {μ : Mem} {ν : Nat} {ρ : Nat → PS} {b : Bd} (h : RA μ ν ρ b) {t : Int} (h0 : 0 ≤ t ∧ t < 15) : RFI ρ t (b.tm t) := ⟨h.num h0, h.den h0⟩
theorem RFI.low {ρ σ : Nat → PS} {t : Int} {a : FP2} (h : RFI ρ t a) (h0 : 0 ≤ t ∧ t < 15) (e : ∀ r : Nat, r < 30 → σ r = ρ r) : RFI σ t a := ⟨(e _ (by omega)).trans h.1, (e _ (by omega)).trans h.2⟩
section Wrap
variable (l : Launch) (G : Gl) (Λ : Lay) (sz : Nat) (μ : Mem) {ν : Nat} {ρ : Nat → PS}
abbrev outF (μ : Mem) (ν : Nat) (ρ : Nat → PS) (o : Int) (x : FP2) : Mem → Prop := fun μ' => ∃ ρ', RW μ' ν ρ' ∧ ρ' (2 * o.toNat) = x.1 ∧ ρ' (2 * o.toNat + 1) = x.2 ∧ (∀ r : Nat, (r < 140 ∨ 147 < r ∧ r < 151) → r ≠ 2 * o.toNat → r ≠ 2 * o.toNat + 1 → ρ' r = ρ r) ∧ Fr [ν + 1, ν + 2] μ μ'
theorem prod_lt {ρ : Nat → PS} (hw : RW μ ν ρ) {a b : Nat} {A B : PS} (ha : a < 154) (hb : b < 154) (eA : ρ a = A) (eB : ρ b = B) (h : A.size + B.size ≤ 97) : ((ρ a).mul (ρ b)).lt 96 := by
  have h1 := PS.lt_size (hw a ha).1
  have h2 := PS.lt_size (hw b hb).1
  exact PS.lt_mul' h1 h2 (by rw [eA, eB]; omega)
theorem r_plusF {o a b v : Int} {A B : FP2} (hR : refK Λ ν) (hw : RW μ ν ρ) (ho : 0 ≤ o ∧ o < 70) (ha : 0 ≤ a ∧ a < 70) (hb : 0 ≤ b ∧ b < 70) (hv : inR v) (hA : RFI ρ a A) (hB : RFI ρ b B) (zA : A.2 ≠ PS.zero) (zB : B.2 ≠ PS.zero) (s1 : A.1.size + B.2.size ≤ 97) (s2 : B.1.size + A.2.size ≤ 97) (s3 : A.2.size + B.2.size ≤ 97) : Sp l G yX12_plus cX12_plus 5 none 5 [.ref ν, iv o, iv a, iv b, iv v] Λ sz μ (pV (outF μ ν ρ o (fpl A B (fi v)))) := by
  have q := r_plus (o := o.toNat) (a := a.toNat) (b := b.toNat) (v := v) l G Λ sz μ hR hw (by omega) (by omega) (by omega) hv (prod_lt μ hw (by omega) (by omega) hA.1 hB.2 s1) (prod_lt μ hw (by omega) (by omega) hB.1 hA.2 s2) (prod_lt μ hw (by omega) (by omega) hA.2 hB.2 s3) (PS.mul_ne (hw _ (by omega)).1 (hw _ (by omega)).1 (by rw [hA.2]; exact zA) (by rw [hB.2]; exact zB))
  rw [Int.toNat_of_nonneg ho.1, Int.toNat_of_nonneg ha.1, Int.toNat_of_nonneg hb.1, hA.1, hA.2, hB.1, hB.2] at q
  exact q
theorem r_multipliesF {o a b : Int} {A B : FP2} (hR : refK Λ ν) (hw : RW μ ν ρ) (ho : 0 ≤ o ∧ o < 70) (ha : 0 ≤ a ∧ a < 70) (hb : 0 ≤ b ∧ b < 70) (hA : RFI ρ a A) (hB : RFI ρ b B) (zA : A.2 ≠ PS.zero) (zB : B.2 ≠ PS.zero) (s1 : A.1.size + B.1.size ≤ 97) (s3 : A.2.size + B.2.size ≤ 97) : Sp l G yX12_multiplies cX12_multiplies 4 none 5 [.ref ν, iv o, iv a, iv b] Λ sz μ (pV (outF μ ν ρ o (fml A B))) := by
  have q := r_multiplies (o := o.toNat) (a := a.toNat) (b := b.toNat) l G Λ sz μ hR hw (by omega) (by omega) (by omega) (prod_lt μ hw (by omega) (by omega) hA.1 hB.1 s1) (prod_lt μ hw (by omega) (by omega) hA.2 hB.2 s3) (PS.mul_ne (hw _ (by omega)).1 (hw _ (by omega)).1 (by rw [hA.2]; exact zA) (by rw [hB.2]; exact zB))
  rw [Int.toNat_of_nonneg ho.1, Int.toNat_of_nonneg ha.1, Int.toNat_of_nonneg hb.1, hA.1, hA.2, hB.1, hB.2] at q
  exact q
theorem r_quotientF {o a b : Int} {A B : FP2} (hR : refK Λ ν) (hw : RW μ ν ρ) (ho : 0 ≤ o ∧ o < 70) (ha : 0 ≤ a ∧ a < 70) (hb : 0 ≤ b ∧ b < 70) (hA : RFI ρ a A) (hB : RFI ρ b B) (zA : A.2 ≠ PS.zero) (zB : B.1 ≠ PS.zero) (s1 : A.1.size + B.2.size ≤ 97) (s3 : A.2.size + B.1.size ≤ 97) : Sp l G yX12_quotient cX12_quotient 4 none 5 [.ref ν, iv o, iv a, iv b] Λ sz μ (pV (outF μ ν ρ o (fdv A B))) := by
  have q := r_quotient (o := o.toNat) (a := a.toNat) (b := b.toNat) l G Λ sz μ hR hw (by omega) (by omega) (by omega) (prod_lt μ hw (by omega) (by omega) hA.1 hB.2 s1) (prod_lt μ hw (by omega) (by omega) hA.2 hB.1 s3) (PS.mul_ne (hw _ (by omega)).1 (hw _ (by omega)).1 (by rw [hA.2]; exact zA) (by rw [hB.1]; exact zB))
  rw [Int.toNat_of_nonneg ho.1, Int.toNat_of_nonneg ha.1, Int.toNat_of_nonneg hb.1, hA.1, hA.2, hB.1, hB.2] at q
  exact q
theorem r_derivedF {o a : Int} {A : FP2} (hR : refK Λ ν) (hw : RW μ ν ρ) (ho : 0 ≤ o ∧ o < 70) (ha : 0 ≤ a ∧ a < 70) (hA : RFI ρ a A) (hf : A.1.fin ∧ A.2.fin) (zA : A.2 ≠ PS.zero) (s1 : A.1.size + A.2.size ≤ 97) (s3 : A.2.size + A.2.size ≤ 97) : Sp l G yX12_derived cX12_derived 3 none 5 [.ref ν, iv o, iv a] Λ sz μ (pV (outF μ ν ρ o (fdr A))) := by
  have d1 := PS.der_size hf.1
  have d2 := PS.der_size hf.2
  have q := r_derived (o := o.toNat) (a := a.toNat) l G Λ sz μ hR hw (by omega) (by omega) (by rw [hA.1, hA.2]; exact PS.lt_mul' (PS.flt (PS.fin_der hf.1)) (PS.flt hf.2) (by omega)) (by rw [hA.1, hA.2]; exact PS.lt_mul' (PS.flt (PS.fin_der hf.2)) (PS.flt hf.1) (by omega)) (prod_lt μ hw (by omega) (by omega) hA.2 hA.2 s3) (PS.mul_ne (hw _ (by omega)).1 (hw _ (by omega)).1 (by rw [hA.2]; exact zA) (by rw [hA.2]; exact zA))
  rw [Int.toNat_of_nonneg ho.1, Int.toNat_of_nonneg ha.1, hA.1, hA.2] at q
  exact q
theorem r_takesF {o a : Int} {A : FP2} (hR : refK Λ ν) (hw : RW μ ν ρ) (ho : 0 ≤ o ∧ o < 77) (ha : 0 ≤ a ∧ a < 77) (hA : RFI ρ a A) : Sp l G yX12_takes cX12_takes 3 none 1 [.ref ν, iv o, iv a] Λ sz μ (pV (fun μ' => RW μ' ν (up (up ρ (2 * o.toNat) A.1) (2 * o.toNat + 1) A.2) ∧ Fr [ν + 1] μ μ')) := by
  have q := r_takes (f := o.toNat) (g := a.toNat) l G Λ sz μ hR hw (by omega) (by omega)
  rw [Int.toNat_of_nonneg ho.1, Int.toNat_of_nonneg ha.1, hA.1, hA.2] at q
  exact q
theorem r_isTermF {a : Int} {A : FP2} (hR : refK Λ ν) (hw : RW μ ν ρ) (ha : 0 ≤ a ∧ a < 77) (hA : RFI ρ a A) : Sp l G yX12_isTerm cX12_isTerm 2 (some FieldType.boolean) 1 [.ref ν, iv a] Λ sz μ (pP μ (isT A.1 A.2)) := by
  have q := r_isTerm (f := a.toNat) l G Λ sz μ hR hw (by omega)
  rw [Int.toNat_of_nonneg ha.1, hA.1, hA.2] at q
  exact q
theorem r_isNoughtF {a : Int} {A : FP2} (hR : refK Λ ν) (hw : RW μ ν ρ) (ha : 0 ≤ a ∧ a < 77) (hA : RFI ρ a A) : Sp l G yX12_isNought cX12_isNought 2 (some FieldType.boolean) 1 [.ref ν, iv a] Λ sz μ (pP μ (bz (A.1 = PS.zero))) := by
  have q := r_isNought (f := a.toNat) l G Λ sz μ hR hw (by omega)
  rw [Int.toNat_of_nonneg ha.1, hA.1] at q
  exact q
end Wrap
theorem RFI.wr {ρ : Nat → PS} {o : Int} (A : FP2) : RFI (up (up ρ (2 * o.toNat) A.1) (2 * o.toNat + 1) A.2) o A := ⟨by rw [up_ne (by omega), up_at], up_at⟩
theorem RFI.wro {ρ : Nat → PS} {o k : Int} {A B : FP2} (h : RFI ρ k B) (ho : 0 ≤ o) (hk : 0 ≤ k) (hne : k ≠ o) : RFI (up (up ρ (2 * o.toNat) A.1) (2 * o.toNat + 1) A.2) k B := ⟨by rw [up_ne (by omega), up_ne (by omega)]; exact h.1, by rw [up_ne (by omega), up_ne (by omega)]; exact h.2⟩
theorem RA.sto {μ μ' : Mem} {ν : Nat} {ρ : Nat → PS} {b : Bd} {t : Int} {A : FP2} (h : RA μ ν ρ b) (ht : 0 ≤ t ∧ t < 15) (hw : RW μ' ν (up (up ρ (2 * t.toNat) A.1) (2 * t.toNat + 1) A.2)) (hf : Fr [ν + 1] μ μ') (h1 : A.1.lt 7) (h2 : A.2.lt 5) : RA μ' ν (up (up ρ (2 * t.toNat) A.1) (2 * t.toNat + 1) A.2) (b.sto t A.1 A.2) := by
  refine ⟨hw, Bd.sto_ok h.2.1 t A.1 A.2, fun s hs => ?_, fun j g0 g1 => by rw [hf.1 _ (by simp)]; exact h.2.2.2.1 j g0 g1, by rw [hf.1 _ (by simp)]; exact h.2.2.2.2.1, by rw [hf.1 _ (by simp)]; exact h.2.2.2.2.2⟩
  rw [Bd.sto_num ht (by omega) h1, Bd.sto_den ht (by omega) h2]
  by_cases c : (s : Int) = t
  · have e : t.toNat = s := by omega
    rw [if_pos c, if_pos c, e]
    exact ⟨by rw [up_ne (by omega), up_at], up_at⟩
  · rw [if_neg c, if_neg c, up_ne (by omega), up_ne (by omega), up_ne (by omega), up_ne (by omega)]
    exact h.2.2.1 s hs
/-- the nine rows of a join -/
def JR (σ : Nat → PS) (J : Int → FP2) : Prop := ∀ s : Int, -4 ≤ s → s ≤ 4 → RFI σ (32 + s + 4) (J s)
theorem cv_in {σ : Nat → PS} {b : Bd} {g h i : Int} (hi : -2 ≤ i ∧ i ≤ 2) (h2 : JR σ (fun s => cv b g h s (i + 2).toNat)) : JR σ (fun s => cv b g h s ((i + 2).toNat + (if s - i < -2 then 1 else 0))) := by
  intro s h0 h9
  have q := h2 s h0 h9
  show RFI σ _ (cv b g h s ((i + 2).toNat + (if s - i < -2 then 1 else 0)))
  by_cases c : s - i < -2
  · rw [if_pos c, cv, if_neg (by omega)]; exact q
  · rw [if_neg c]; exact q
theorem cv_out {σ : Nat → PS} {b : Bd} {g h i k : Int} (hi : -2 ≤ i ∧ i ≤ 2) (hk : k = 3) (h2 : JR σ (fun s => cv b g h s ((i + 2).toNat + (if s - i < k then 1 else 0)))) : JR σ (fun s => cv b g h s (i + 1 + 2).toNat) := by
  intro s h0 h9
  have q := h2 s h0 h9
  show RFI σ _ (cv b g h s (i + 1 + 2).toNat)
  rw [show (i + 1 + 2).toNat = (i + 2).toNat + 1 by omega]
  by_cases c : s - i < k
  · simp only [c, if_true] at q; exact q
  · simp only [c, if_false, Nat.add_zero] at q
    rw [cv, if_neg (by omega)]; exact q
theorem cv_step {σ σ1 σ2 : Nat → PS} {b : Bd} {g h i k : Int} (hi : -2 ≤ i ∧ i ≤ 2) (hk : -2 ≤ k ∧ k ≤ 2) (h2 : JR σ (fun s => cv b g h s ((i + 2).toNat + (if s - i < k then 1 else 0))))
    (k1 : ∀ r : Nat, (r < 140 ∨ 147 < r ∧ r < 151) → r ≠ 2 * (60 : Int).toNat → r ≠ 2 * (60 : Int).toNat + 1 → σ1 r = σ r) (k3 : ∀ r : Nat, (r < 140 ∨ 147 < r ∧ r < 151) → r ≠ 2 * (32 + i + k + 4).toNat → r ≠ 2 * (32 + i + k + 4).toNat + 1 → σ2 r = σ1 r)
    (x2 : RFI σ2 (32 + i + k + 4) (fpl (cv b g h (i + k) (i + 2).toNat) (fml (b.tm (5 * g + i + 2)) (b.tm (5 * h + k + 2))) (fi 1))) : JR σ2 (fun s => cv b g h s ((i + 2).toNat + (if s - i < k + 1 then 1 else 0))) := by
  intro s h0 h9
  show RFI σ2 _ (cv b g h s ((i + 2).toNat + (if s - i < k + 1 then 1 else 0)))
  by_cases c : s = i + k
  · subst c
    rw [if_pos (by omega), cv, if_pos (by omega), show 32 + (i + k) + 4 = 32 + i + k + 4 by omega, show 5 * g + ((i + 2).toNat : Int) = 5 * g + i + 2 by omega, show 5 * h + (i + k - (((i + 2).toNat : Int) - 2)) + 2 = 5 * h + k + 2 by omega]
    exact x2
  · have q := ((h2 s h0 h9).kept (by omega) (by omega) (by omega) k1).kept (by omega) (by omega) (by omega) k3
    have e : (if s - i < k + 1 then 1 else 0) = (if s - i < k then 1 else (0 : Nat)) := by
      by_cases d : s - i < k
      · rw [if_pos d, if_pos (by omega)]
      · rw [if_neg d, if_neg (by omega)]
    rw [e]; exact q
theorem r_noJoins (l : Launch) (G : Gl) (Λ : Lay) (sz : Nat) (μ : Mem) {ν : Nat} {ρ : Nat → PS} (hR : refK Λ ν) (hw : RW μ ν ρ) : Sp l G yX12_noJoins cX12_noJoins 2 none 3 [.ref ν] Λ sz μ (pV (fun μ' => ∃ σ, RW μ' ν σ ∧ JR σ (fun _ => f00) ∧ (∀ r : Nat, r < 64 ∨ 82 ≤ r → σ r = ρ r) ∧ Fr [ν + 1] μ μ')) := by
  refine Sp.intro (by decide) (Nat.le_of_ble_eq_true rfl) (fun x hx hBD => ?_)
  refine v_lv [(0, .ref ν)] rfl ?_
  have L2 : ∀ (nf : Nat) (k : Int) (m : Mem) (σ : Nat → PS), (9 - k < (nf : Int)) → (0 ≤ k ∧ k ≤ 9) → (RW m ν σ) → (∀ s : Int, 0 ≤ s → s < k → RFI σ (32 + s) f00) → (∀ r : Nat, r < 64 ∨ 82 ≤ r → σ r = ρ r) → (Fr [ν + 1] μ m) → V G x (0, 0) Λ sz m 2 [(1, iv k), (0, .ref ν)] [] := by
    intro nf
    induction nf with
    | zero => intro k m σ hm hk h1 h2 h3 hf; exact absurd hm (by omega)
    | succ nf ih =>
      intro k m σ hm hk h1 h2 h3 hf
      refine v_iload hx DX12_noJoins_2 0 rfl ?_
      refine v_push hx DX12_noJoins_3 ?_
      refine v_icmp_ge hx DX12_noJoins_5 (by omega) (by decide) (fun c5 => ?_) (fun c5 => ?_)
      · skip
        exact v_rv hx hBD DX12_noJoins_22 (⟨σ, h1, fun s g0 g1 => by have := h2 (s + 4) (by omega) (by omega); rwa [show 32 + (s + 4) = 32 + s + 4 by omega] at this, h3, hf⟩)
      · skip
        refine v_aload hx DX12_noJoins_8 1 rfl ?_
        refine v_push hx DX12_noJoins_9 ?_
        refine v_iload hx DX12_noJoins_11 0 rfl ?_
        refine v_iadd hx DX12_noJoins_12 ?_
        refine v_cVv hx DX12_noJoins_13 CVRX12_118 [iv (32 + k)] (r_noughtI (t := 32 + k) l G Λ sz m hR h1 (by omega)) hR.o rfl rfl (Nat.le_of_ble_eq_true rfl) (by decide) ⟨Nat.le_refl _, Nat.le_refl _⟩ (fun μ1 hμ1 => ?_)
        refine v_iinc hx DX12_noJoins_16 0 rfl [(1, iv (k + 1)), (0, .ref ν)] rfl (by decide) ?_
        refine v_goto hx DX12_noJoins_19 ?_
        exact v_sub [0, 1] _ rfl (ih (k + 1) μ1 _ (by omega) (by omega) hμ1.1 (fun s h0 h9 => (Classical.em (s = k)).elim (fun q => by rw [q]; exact RFI.wr f00) (fun q => RFI.wro (A := f00) (h2 s h0 (by omega)) (by omega) (by omega) (by omega))) (fun r hr => by rw [up_ne (by omega), up_ne (by omega)]; exact h3 r hr) (hf.trans hμ1.2))
  refine v_push hx DX12_noJoins_0 ?_
  refine v_istore hx DX12_noJoins_1 [(1, iv 0), (0, .ref ν)] rfl (by decide) ?_
  exact v_sub [0, 1] _ rfl (L2 100 0 μ ρ (by omega) (by omega) hw (fun s h0 h1 => by omega) (fun r hr => rfl) Fr.rf)
theorem r_multipliesAll (l : Launch) (G : Gl) (Λ : Lay) (sz : Nat) (μ : Mem) {ν : Nat} {ρ : Nat → PS} {b : Bd} {g h : Int} (hR : refK Λ ν) (ha : RA μ ν ρ b) (hgd : b.good) (hg : 0 ≤ g ∧ g < 3) (hh0 : 0 ≤ h ∧ h < 3) (hJ : JR ρ (fun _ => f00)) : Sp l G yX12_multipliesAll cX12_multipliesAll 5 none 6 [.ref ν, iv g, iv h] Λ sz μ (pV (fun μ' => ∃ σ, RW μ' ν σ ∧ JR σ (fun s => cv b g h s 5) ∧ (∀ r : Nat, r < 30 → σ r = ρ r) ∧ Fr [ν + 1, ν + 2] μ μ')) := by
  refine Sp.intro (by decide) (Nat.le_of_ble_eq_true rfl) (fun x hx hBD => ?_)
  refine v_lv [(0, .ref ν), (1, iv g), (2, iv h)] rfl ?_
  have L12 : ∀ (nf : Nat) (i k : Int) (m : Mem) (σ : Nat → PS), (3 - k < (nf : Int)) → (-2 ≤ i ∧ i ≤ 2) → (-2 ≤ k ∧ k ≤ 3) → (RW m ν σ) → (JR σ (fun s => cv b g h s ((i + 2).toNat + (if s - i < k then 1 else 0)))) → (∀ r : Nat, r < 30 → σ r = ρ r) → (Fr [ν + 1, ν + 2] μ m) → (∀ (m2 : Mem) (σ2 : Nat → PS), (RW m2 ν σ2) → (JR σ2 (fun s => cv b g h s (i + 1 + 2).toNat)) → (∀ r : Nat, r < 30 → σ2 r = ρ r) → (Fr [ν + 1, ν + 2] μ m2) → V G x (0, 0) Λ sz m2 66 [(3, iv i), (0, .ref ν), (1, iv g), (2, iv h)] []) → V G x (0, 0) Λ sz m 12 [(4, iv k), (3, iv i), (0, .ref ν), (1, iv g), (2, iv h)] [] := by
    intro nf
    induction nf with
    | zero => intro i k m σ hm hi hk h1 h2 h3 hf hC; exact absurd hm (by omega)
    | succ nf ih =>
      intro i k m σ hm hi hk h1 h2 h3 hf hC
      refine v_iload hx DX12_multipliesAll_12 0 rfl ?_
      refine v_push hx DX12_multipliesAll_14 ?_
      refine v_icmp_gt hx DX12_multipliesAll_15 (by omega) (by decide) (fun c15 => ?_) (fun c15 => ?_)
      · skip
        have e2 := cv_out hi (show k = 3 by omega) h2
        exact v_sub [1, 2, 3, 4] _ rfl (hC m σ h1 e2 h3 hf)
      · skip
        have tg := (ha.tm (t := ((5 * g + i + 2).toNat : Int)) (by omega)).low (by omega) h3
        have th := (ha.tm (t := ((5 * h + k + 2).toNat : Int)) (by omega)).low (by omega) h3
        have og := hgd.tm (t := ((5 * g + i + 2).toNat : Int)) (by omega)
        have oh := hgd.tm (t := ((5 * h + k + 2).toNat : Int)) (by omega)
        have om := og.ml oh (k := 13) (q := 9) (by omega) (by omega) (by omega)
        have oc := cv_ok (s := i + k) hgd hg hh0 (i + 2).toNat (by omega)
        refine v_aload hx DX12_multipliesAll_18 2 rfl ?_
        refine v_push hx DX12_multipliesAll_19 ?_
        refine v_iload hx DX12_multipliesAll_21 3 rfl ?_
        refine v_iload hx DX12_multipliesAll_22 1 rfl ?_
        refine v_cSp hx DX12_multipliesAll_23 CSRX12_155 [iv g, iv i] (r_term l G Λ sz m (by omega)) rfl rfl (Nat.le_of_ble_eq_true rfl) (by decide) ⟨Nat.le_refl _, Nat.le_refl _⟩ ?_
        refine v_iload hx DX12_multipliesAll_26 4 rfl ?_
        refine v_iload hx DX12_multipliesAll_27 0 rfl ?_
        refine v_cSp hx DX12_multipliesAll_29 CSRX12_155 [iv h, iv k] (r_term l G Λ sz m (by omega)) rfl rfl (Nat.le_of_ble_eq_true rfl) (by decide) ⟨Nat.le_refl _, Nat.le_refl _⟩ ?_
        refine v_cVv hx DX12_multipliesAll_32 CVRX12_220 [iv 60, iv ((5 * g + i + 2).toNat : Int), iv ((5 * h + k + 2).toNat : Int)] (r_multipliesF (o := 60) l G Λ sz m hR h1 (by omega) (by omega) (by omega) tg th og.1.2.2.1 oh.1.2.2.1 (by have := og.2.1; have := oh.2.1; omega) (by have := og.2.2; have := oh.2.2; omega)) hR.o rfl rfl (Nat.le_of_ble_eq_true rfl) (by decide) ⟨Nat.le_refl _, Nat.le_refl _⟩ (fun μ5 hμ5 => ?_)
        obtain ⟨σ1, w1, x1a, x1b, k1, f1⟩ := hμ5
        have x1 : RFI σ1 60 _ := ⟨x1a, x1b⟩
        have jr := (h2 (i + k) (by omega) (by omega)).kept (by omega) (by omega) (by omega) k1
        have jr2 : RFI σ1 (32 + i + k + 4) (cv b g h (i + k) (i + 2).toNat) := by
          have q := jr
          simp only [show ¬ (i + k - i < k) by omega, if_false, Nat.add_zero] at q
          rwa [show 32 + (i + k) + 4 = 32 + i + k + 4 by omega] at q
        refine v_aload hx DX12_multipliesAll_35 2 rfl ?_
        refine v_push hx DX12_multipliesAll_36 ?_
        refine v_iload hx DX12_multipliesAll_38 1 rfl ?_
        refine v_iadd hx DX12_multipliesAll_39 ?_
        refine v_iload hx DX12_multipliesAll_40 0 rfl ?_
        refine v_iadd hx DX12_multipliesAll_42 ?_
        refine v_push hx DX12_multipliesAll_43 ?_
        refine v_iadd hx DX12_multipliesAll_44 ?_
        refine v_push hx DX12_multipliesAll_45 ?_
        refine v_iload hx DX12_multipliesAll_47 1 rfl ?_
        refine v_iadd hx DX12_multipliesAll_48 ?_
        refine v_iload hx DX12_multipliesAll_49 0 rfl ?_
        refine v_iadd hx DX12_multipliesAll_51 ?_
        refine v_push hx DX12_multipliesAll_52 ?_
        refine v_iadd hx DX12_multipliesAll_53 ?_
        refine v_push hx DX12_multipliesAll_54 ?_
        refine v_push hx DX12_multipliesAll_56 ?_
        refine v_cVv hx DX12_multipliesAll_57 CVRX12_223 [iv (((32 + i) + k) + 4), iv (((32 + i) + k) + 4), iv 60, iv 1] (r_plusF (o := 32 + i + k + 4) (a := 32 + i + k + 4) (b := 60) (A := cv b g h (i + k) (i + 2).toNat) l G Λ sz μ5 hR w1 (by omega) (by omega) (by omega) (by omega) jr2 x1 oc.1.2.2.1 om.1.2.2.1 (by have := oc.2.1; have := om.2.2; omega) (by have := om.2.1; have := oc.2.2; omega) (by have := om.2.2; have := oc.2.2; omega)) hR.o rfl rfl (Nat.le_of_ble_eq_true rfl) (by decide) ⟨Nat.le_refl _, Nat.le_refl _⟩ (fun μ7 hμ7 => ?_)
        obtain ⟨σ2, w2, x2a, x2b, k3, f3⟩ := hμ7
        have x2 : RFI σ2 (32 + i + k + 4) _ := ⟨x2a, x2b⟩
        have j2 : JR σ2 (fun s => cv b g h s ((i + 2).toNat + (if s - i < k + 1 then 1 else 0))) := by
          refine cv_step hi (by omega) h2 k1 k3 ?_
          have e1 : ((5 * g + i + 2).toNat : Int) = 5 * g + i + 2 := by omega
          have e2 : ((5 * h + k + 2).toNat : Int) = 5 * h + k + 2 := by omega
          rw [e1, e2] at x2
          exact x2
        have k2 : ∀ r : Nat, r < 30 → σ2 r = ρ r := fun r hr => ((k3 r (by omega) (by omega) (by omega)).trans (k1 r (by omega) (by omega) (by omega))).trans (h3 r hr)
        have f2 := (hf.trans f1).trans f3
        refine v_iinc hx DX12_multipliesAll_60 0 rfl [(4, iv (k + 1)), (3, iv i), (0, .ref ν), (1, iv g), (2, iv h)] rfl (by decide) ?_
        refine v_goto hx DX12_multipliesAll_63 ?_
        exact v_sub [0, 1, 2, 3, 4] _ rfl (ih i (k + 1) μ7 σ2 (by omega) (by omega) (by omega) w2 j2 k2 f2 hC)
  have L3 : ∀ (nf : Nat) (i : Int) (m : Mem) (σ : Nat → PS), (3 - i < (nf : Int)) → (-2 ≤ i ∧ i ≤ 3) → (RW m ν σ) → (JR σ (fun s => cv b g h s (i + 2).toNat)) → (∀ r : Nat, r < 30 → σ r = ρ r) → (Fr [ν + 1, ν + 2] μ m) → V G x (0, 0) Λ sz m 3 [(3, iv i), (0, .ref ν), (1, iv g), (2, iv h)] [] := by
    intro nf
    induction nf with
    | zero => intro i m σ hm hi h1 h2 h3 hf; exact absurd hm (by omega)
    | succ nf ih =>
      intro i m σ hm hi h1 h2 h3 hf
      refine v_iload hx DX12_multipliesAll_3 0 rfl ?_
      refine v_push hx DX12_multipliesAll_4 ?_
      refine v_icmp_gt hx DX12_multipliesAll_5 (by omega) (by decide) (fun c5 => ?_) (fun c5 => ?_)
      · skip
        exact v_rv hx hBD DX12_multipliesAll_72 (⟨σ, h1, by have q := h2; rw [show (i + 2).toNat = 5 by omega] at q; exact q, h3, hf⟩)
      · skip
        refine v_push hx DX12_multipliesAll_8 ?_
        refine v_istore hx DX12_multipliesAll_10 [(4, iv (-2)), (3, iv i), (0, .ref ν), (1, iv g), (2, iv h)] rfl (by decide) ?_
        refine v_sub [0, 1, 2, 3, 4] _ rfl (L12 100 i (-2) m σ (by omega) (by omega) (by omega) h1 (cv_in (by omega) h2) h3 hf (fun m2 σ2 g1 g2 g3 g4 => ?_))
        refine v_iinc hx DX12_multipliesAll_66 0 rfl [(3, iv (i + 1)), (0, .ref ν), (1, iv g), (2, iv h)] rfl (by decide) ?_
        refine v_goto hx DX12_multipliesAll_69 ?_
        exact v_sub [0, 1, 2, 3] _ rfl (ih (i + 1) m2 σ2 (by omega) (by omega) g1 g2 g3 g4)
  refine v_push hx DX12_multipliesAll_0 ?_
  refine v_istore hx DX12_multipliesAll_2 [(3, iv (-2)), (0, .ref ν), (1, iv g), (2, iv h)] rfl (by decide) ?_
  exact v_sub [0, 1, 2, 3] _ rfl (L3 100 (-2) μ ρ (by omega) (by omega) ha.1 hJ (fun r hr => rfl) Fr.rf)
