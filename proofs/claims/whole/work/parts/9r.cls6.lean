/-! ===== the class: judge ===== -/
def rw1 (w : Int → Int) (k z : Int) : Int → Int := fun j => if j = k then z else w j
/-- like Chg, but the row of the object p (no polynomial) is w now -/
def ChgX (Λ : Lay) (S : Nat → Prop) (p : Nat) (w : Int → Int) (μ μ' : Mem) (π π' : Nat → PS) : Prop := AB Λ μ' π' ∧ (∀ a, ¬ S a → π' a = π a) ∧ ((∀ a, ¬ polyC Λ a → a ≠ p → μ'.1 a = μ.1 a) ∧ μ'.2 = μ.2) ∧ μ'.1 p = w ∧ ¬ polyC Λ p
theorem ChgX.rf {Λ : Lay} {S : Nat → Prop} {p : Nat} {μ : Mem} {π : Nat → PS} (h : AB Λ μ π) (ho : ¬ polyC Λ p) : ChgX Λ S p (μ.1 p) μ μ π π := ⟨h, fun _ _ => rfl, ⟨fun _ _ _ => rfl, rfl⟩, rfl, ho⟩
theorem ChgX.trans {Λ : Lay} {S : Nat → Prop} {p : Nat} {w : Int → Int} {μ μ1 μ2 : Mem} {π π1 π2 : Nat → PS} (h : ChgX Λ S p w μ μ1 π π1) (h' : Chg Λ S μ1 μ2 π1 π2) : ChgX Λ S p w μ μ2 π π2 :=
  ⟨h'.1, fun a ha => (h'.2.1 a ha).trans (h.2.1 a ha), ⟨fun a ha hp => (h'.2.2.1 a ha).trans (h.2.2.1.1 a ha hp), h'.2.2.2.trans h.2.2.1.2⟩, (h'.2.2.1 p h.2.2.2.2).trans h.2.2.2.1, h.2.2.2.2⟩
theorem ChgX.tx {Λ : Lay} {S : Nat → Prop} {p : Nat} {w w' : Int → Int} {μ μ1 μ2 : Mem} {π π1 π2 : Nat → PS} (h : ChgX Λ S p w μ μ1 π π1) (h' : ChgX Λ S p w' μ1 μ2 π1 π2) : ChgX Λ S p w' μ μ2 π π2 :=
  ⟨h'.1, fun a ha => (h'.2.1 a ha).trans (h.2.1 a ha), ⟨fun a ha hp => (h'.2.2.1.1 a ha hp).trans (h.2.2.1.1 a ha hp), h'.2.2.1.2.trans h.2.2.1.2⟩, h'.2.2.2.1, h.2.2.2.2⟩
theorem ChgX.mono {Λ : Lay} {S S' : Nat → Prop} {p : Nat} {w : Int → Int} {μ μ1 : Mem} {π π1 : Nat → PS} (h : ChgX Λ S p w μ μ1 π π1) (hs : ∀ a, S a → S' a) : ChgX Λ S' p w μ μ1 π π1 := ⟨h.1, fun a ha => h.2.1 a (fun z => ha (hs a z)), h.2.2⟩
theorem ChgX.put {Λ : Lay} {S : Nat → Prop} {p : Nat} {w : Int → Int} {μ μ1 : Mem} {π π1 : Nat → PS} {k z : Int} (h : ChgX Λ S p w μ μ1 π π1) : ChgX Λ S p (rw1 w k z) μ (mI μ1 p k z) π π1 :=
  ⟨h.1.mI h.2.2.2.2, h.2.1, ⟨fun a ha hp => by rw [mI_ne hp]; exact h.2.2.1.1 a ha hp, h.2.2.1.2⟩, by funext j; rw [mI_at, h.2.2.2.1]; rfl, h.2.2.2.2⟩
theorem ChgX.of {Λ : Lay} {S : Nat → Prop} {p : Nat} {μ μ1 : Mem} {π π1 : Nat → PS} {k z : Int} (ho : ¬ polyC Λ p) (h : Chg Λ S (mI μ p k z) μ1 π π1) : ChgX Λ S p (rw1 (μ.1 p) k z) μ μ1 π π1 :=
  ⟨h.1, h.2.1, ⟨fun a ha hp => by rw [h.2.2.1 a ha, mI_ne hp], h.2.2.2⟩, by rw [h.2.2.1 p ho]; funext j; rw [mI_at]; rfl, ho⟩
def jdO (C : Int → Int) : Int := if C 2 < 0 then 2 else if C 1 < 0 then 1 else if C (-1) < 0 then -1 else if C (-2) < 0 then -2 else 0
theorem jdO_of {C : Int → Int} {r : Int} (h : (C 2 < 0 ∧ r = 2) ∨ (¬ C 2 < 0 ∧ C 1 < 0 ∧ r = 1) ∨ (¬ C 2 < 0 ∧ ¬ C 1 < 0 ∧ C (-1) < 0 ∧ r = -1) ∨ (¬ C 2 < 0 ∧ ¬ C 1 < 0 ∧ ¬ C (-1) < 0 ∧ C (-2) < 0 ∧ r = -2) ∨ (¬ C 2 < 0 ∧ ¬ C 1 < 0 ∧ ¬ C (-1) < 0 ∧ ¬ C (-2) < 0 ∧ r = 0)) : jdO C = r := by
  unfold jdO
  split
  · omega
  · split
    · omega
    · split
      · omega
      · split <;> omega
theorem ratI_rng (p q : PS) : -1 ≤ ratI p q ∧ ratI p q ≤ 100 := by unfold ratI; split <;> omega
theorem cstI_rng (kd : Int) (N D u s : PS) : -1 ≤ cstI kd N D u s ∧ cstI kd N D u s ≤ 100 := by
  unfold cstI; split <;> exact ratI_rng _ _
/-- the constants of the rests -/
noncomputable def cC (kd : Int) (p : Nat) (π : Nat → PS) (i : Int) : Int := cstI kd (π (p + 56 + 5 * (i + 2).toNat + 1)) (π (p + 56 + 5 * (i + 2).toNat + 3)) (π (p + 13)) (π (p + 15))
theorem cC_rng (kd : Int) (p : Nat) (π : Nat → PS) (i : Int) : -1 ≤ cC kd p π i ∧ cC kd p π i ≤ 100 := cstI_rng _ _ _ _ _
theorem c_const2 (l : Launch) (G : Gl) (Λ : Lay) (sz : Nat) (μ : Mem) {π : Nat → PS} {p κ σ : Nat} {i kd : Int} (π0 : Nat → PS) (hA : AB Λ μ π) (hI : INV G Λ) (hK : kitK Λ κ) (hP : partK Λ p κ σ) (hi : -2 ≤ i ∧ i ≤ 2) (hkd : μ.1 p 13 = kd ∧ 0 ≤ kd ∧ kd ≤ 2) (hord : κ + 16 < p)
    (hz : kd = 2 → ∀ j : Int, -2 ≤ j → j ≤ 2 → (π0 (p + 56 + 5 * (j + 2).toNat + 1)).size + (π0 (p + 13)).size ≤ 49 ∧ (π0 (p + 56 + 5 * (j + 2).toNat + 3)).size + (π0 (p + 15)).size ≤ 49)
    (hs : ∀ a, (a = p + 13 ∨ a = p + 15 ∨ (p + 56 < a ∧ a < p + 81)) → π a = π0 a) :
    Sp l G yX4_constant cX4_constant 2 (some FieldType.int) 3 [.ref p, iv i] Λ sz μ (pI (fun z μ' => ∃ π', Chg Λ (fun c => c = p + 17 ∨ c = p + 21) μ μ' π π' ∧ z = cC kd p π0 i)) := by
  have e1 := hs (p + 56 + 5 * (i + 2).toNat + 1) (by omega)
  have e2 := hs (p + 56 + 5 * (i + 2).toNat + 3) (by omega)
  have e3 := hs (p + 13) (by omega)
  have e4 := hs (p + 15) (by omega)
  refine (c_constant l G Λ sz μ hA hI hK hP hi hkd hord (fun q => ?_) (fun q => ?_)).mono ?_
  · rw [e1, e3]; exact (hz q i hi.1 hi.2).1
  · rw [e2, e4]; exact (hz q i hi.1 hi.2).2
  · rintro v μ' ⟨z, ev, ez, π', hc⟩
    refine ⟨z, ev, π', hc, ?_⟩
    rw [ez, e1, e2, e3, e4]; rfl
theorem c_judge (l : Launch) (G : Gl) (Λ : Lay) (sz : Nat) (μ : Mem) {π : Nat → PS} {p κ σ : Nat} {kd : Int} (hA : AB Λ μ π) (hI : INV G Λ) (hK : kitK Λ κ) (hP : partK Λ p κ σ) (hkd : μ.1 p 13 = kd ∧ 0 ≤ kd ∧ kd ≤ 2) (hord : κ + 16 < p) (hz : kd = 2 → ∀ j : Int, -2 ≤ j → j ≤ 2 → (π (p + 56 + 5 * (j + 2).toNat + 1)).size + (π (p + 13)).size ≤ 49 ∧ (π (p + 56 + 5 * (j + 2).toNat + 3)).size + (π (p + 15)).size ≤ 49) : Sp l G yX4_judge cX4_judge 3 none 4 [.ref p] Λ sz μ (pV (fun μ' => ∃ π' w, ChgX Λ (fun c => c = p + 17 ∨ c = p + 21 ∨ c = p + 46 + 1 ∨ c = p + 51 + 1) p w μ μ' π π' ∧ w 13 = kd ∧ w 14 = (if jdO (cC kd p π) = 0 then 1 else 0) ∧ (jdO (cC kd p π) ≠ 0 → w 15 = jdO (cC kd p π)) ∧ (¬ (jdO (cC kd p π) = 0 ∧ kd = 2) → π' (p + 46 + 1) = π (p + 46 + 1) ∧ π' (p + 51 + 1) = π (p + 51 + 1)) ∧ (jdO (cC kd p π) = 0 ∧ kd = 2 → π' (p + 46 + 1) = (π (p + 46 + 1)).am (π (p + 46 + 3)) (fi (cC kd p π 1 * ivI 2 % 101)) 0 ∧ π' (p + 51 + 1) = (π (p + 51 + 1)).am (π (p + 51 + 3)) (fi (cC kd p π 2 * ivI 3 % 101)) 0))) := by
  refine Sp.intro (by decide) (Nat.le_of_ble_eq_true rfl) (fun x hx hBD => ?_)
  refine v_lv [(0, .ref p)] rfl ?_
  have hoff := hP.off
  have hF4 : fracK Λ (p + 46) := hP.2.2.2.2.2.2.1 4 (by omega)
  have hF5 : fracK Λ (p + 51) := hP.2.2.2.2.2.2.1 5 (by omega)
  have r1 := cC_rng kd p π 1
  have r2 := cC_rng kd p π 2
  have r3 := cC_rng kd p π (-1)
  have r4 := cC_rng kd p π (-2)
  have i2 := ivI_rng 2
  have i3 := ivI_rng 3
  have l4 := PS.size_le (hA _ hF4.2.2).1.1
  have l5 := PS.size_le (hA _ hF5.2.2).1.1
  have m1 : 0 ≤ cC kd p π 1 → 0 ≤ cC kd p π 1 * ivI 2 ∧ cC kd p π 1 * ivI 2 ≤ 100 * 100 := fun q => mulb q r1.2 i2.1 i2.2
  have m2 : 0 ≤ cC kd p π 2 → 0 ≤ cC kd p π 2 * ivI 3 ∧ cC kd p π 2 * ivI 3 ≤ 100 * 100 := fun q => mulb q r2.2 i3.1 i3.2
  have hch0 : ChgX Λ (fun c => c = p + 17 ∨ c = p + 21 ∨ c = p + 46 + 1 ∨ c = p + 51 + 1) p (μ.1 p) μ μ π π := ChgX.rf hA hoff
  refine v_aload hx DX4_judge_0 0 rfl ?_
  refine v_push hx DX4_judge_1 ?_
  refine v_pZ hx DX4_judge_2 FPRX4_58 hP.1 rfl (ki := 14) rfl (by omega) (fun μ1 eμ1 => ?_)
  have hA2 : AB Λ μ1 π := by rw [eμ1]; exact hA.mI hoff
  have hch2 : ChgX Λ (fun c => c = p + 17 ∨ c = p + 21 ∨ c = p + 46 + 1 ∨ c = p + 51 + 1) p (rw1 (μ.1 p) 14 1) μ μ1 π π := by rw [eμ1]; exact hch0.put
  refine v_push hx DX4_judge_5 ?_
  refine v_istore hx DX4_judge_6 [(1, iv 2), (0, .ref p)] rfl (by decide) ?_
  refine v_iload hx DX4_judge_7 0 rfl ?_
  refine v_push hx DX4_judge_8 ?_
  refine v_icmp_lt hx DX4_judge_10 (by decide) (by decide) (fun c10 => ?_) (fun c10 => ?_)
  · exact absurd c10 (by decide)
  · skip
    refine v_aload hx DX4_judge_13 1 rfl ?_
    refine v_get hx DX4_judge_14 FLRX4_58 hP.1 (fv_i rfl (by rw [hch2.2.2.2.1]; rfl) : _ = iv 1) ?_
    refine v_if_eq hx DX4_judge_17 (by decide) (fun c17 => ?_) (fun c17 => ?_)
    · exact absurd c17 (by decide)
    · skip
      refine v_iload hx DX4_judge_20 0 rfl ?_
      refine v_if_eq hx DX4_judge_21 (by decide) (fun c21 => ?_) (fun c21 => ?_)
      · exact absurd c21 (by decide)
      · skip
        refine v_aload hx DX4_judge_24 1 rfl ?_
        refine v_iload hx DX4_judge_25 0 rfl ?_
        refine v_cVi hx DX4_judge_26 CVRX4_156 [iv 2] (c_const2 (i := 2) (kd := kd) l G Λ sz μ1 π hA2 hI hK hP (by omega) ⟨(congrFun hch2.2.2.2.1 13).trans hkd.1, hkd.2⟩ hord hz (fun a ha => hch2.2.1 a (by omega))) hP.1 rfl rfl (Nat.le_of_ble_eq_true rfl) (by decide) ⟨Nat.le_refl _, Nat.le_refl _⟩ (fun z3 μ3 hμ3 => ?_)
        obtain ⟨π3, hc3, hz0⟩ := hμ3
        have hA3 := hc3.1
        have hch3 := hch2.trans (hc3.mono (fun c hc => by first | omega | (dsimp only at hc ⊢; omega)))
        have v3_0 : π3 ((p + 46) + 1) = π (p + 46 + 1) := (hc3.2.1 ((p + 46) + 1) (by first | omega | (dsimp only; omega))).trans rfl
        have v3_1 : π3 ((p + 46) + 3) = π (p + 46 + 3) := (hc3.2.1 ((p + 46) + 3) (by first | omega | (dsimp only; omega))).trans rfl
        have v3_2 : π3 ((p + 51) + 1) = π (p + 51 + 1) := (hc3.2.1 ((p + 51) + 1) (by first | omega | (dsimp only; omega))).trans rfl
        have v3_3 : π3 ((p + 51) + 3) = π (p + 51 + 3) := (hc3.2.1 ((p + 51) + 3) (by first | omega | (dsimp only; omega))).trans rfl
        rw [hz0]
        refine v_if_ge hx DX4_judge_29 (by omega) (fun c29 => ?_) (fun c29 => ?_)
        · skip
          refine v_iinc hx DX4_judge_42 0 rfl [(1, iv 1), (0, .ref p)] rfl (by decide) ?_
          refine v_goto hx DX4_judge_45 ?_
          refine v_iload hx DX4_judge_7 0 rfl ?_
          refine v_push hx DX4_judge_8 ?_
          refine v_icmp_lt hx DX4_judge_10 (by decide) (by decide) (fun c10 => ?_) (fun c10 => ?_)
          · exact absurd c10 (by decide)
          · skip
            refine v_aload hx DX4_judge_13 1 rfl ?_
            refine v_get hx DX4_judge_14 FLRX4_58 hP.1 (fv_i rfl (by rw [hch3.2.2.2.1]; rfl) : _ = iv 1) ?_
            refine v_if_eq hx DX4_judge_17 (by decide) (fun c17 => ?_) (fun c17 => ?_)
            · exact absurd c17 (by decide)
            · skip
              refine v_iload hx DX4_judge_20 0 rfl ?_
              refine v_if_eq hx DX4_judge_21 (by decide) (fun c21 => ?_) (fun c21 => ?_)
              · exact absurd c21 (by decide)
              · skip
                refine v_aload hx DX4_judge_24 1 rfl ?_
                refine v_iload hx DX4_judge_25 0 rfl ?_
                refine v_cVi hx DX4_judge_26 CVRX4_156 [iv 1] (c_const2 (i := 1) (kd := kd) l G Λ sz μ3 π hA3 hI hK hP (by omega) ⟨(congrFun hch3.2.2.2.1 13).trans hkd.1, hkd.2⟩ hord hz (fun a ha => hch3.2.1 a (by omega))) hP.1 rfl rfl (Nat.le_of_ble_eq_true rfl) (by decide) ⟨Nat.le_refl _, Nat.le_refl _⟩ (fun z4 μ4 hμ4 => ?_)
                obtain ⟨π4, hc4, hz0⟩ := hμ4
                have hA4 := hc4.1
                have hch4 := hch3.trans (hc4.mono (fun c hc => by first | omega | (dsimp only at hc ⊢; omega)))
                have v4_0 : π4 ((p + 46) + 1) = π (p + 46 + 1) := (hc4.2.1 ((p + 46) + 1) (by first | omega | (dsimp only; omega))).trans v3_0
                have v4_1 : π4 ((p + 46) + 3) = π (p + 46 + 3) := (hc4.2.1 ((p + 46) + 3) (by first | omega | (dsimp only; omega))).trans v3_1
                have v4_2 : π4 ((p + 51) + 1) = π (p + 51 + 1) := (hc4.2.1 ((p + 51) + 1) (by first | omega | (dsimp only; omega))).trans v3_2
                have v4_3 : π4 ((p + 51) + 3) = π (p + 51 + 3) := (hc4.2.1 ((p + 51) + 3) (by first | omega | (dsimp only; omega))).trans v3_3
                rw [hz0]
                refine v_if_ge hx DX4_judge_29 (by omega) (fun c29 => ?_) (fun c29 => ?_)
                · skip
                  refine v_iinc hx DX4_judge_42 0 rfl [(1, iv 0), (0, .ref p)] rfl (by decide) ?_
                  refine v_goto hx DX4_judge_45 ?_
                  refine v_iload hx DX4_judge_7 0 rfl ?_
                  refine v_push hx DX4_judge_8 ?_
                  refine v_icmp_lt hx DX4_judge_10 (by decide) (by decide) (fun c10 => ?_) (fun c10 => ?_)
                  · exact absurd c10 (by decide)
                  · skip
                    refine v_aload hx DX4_judge_13 1 rfl ?_
                    refine v_get hx DX4_judge_14 FLRX4_58 hP.1 (fv_i rfl (by rw [hch4.2.2.2.1]; rfl) : _ = iv 1) ?_
                    refine v_if_eq hx DX4_judge_17 (by decide) (fun c17 => ?_) (fun c17 => ?_)
                    · exact absurd c17 (by decide)
                    · skip
                      refine v_iload hx DX4_judge_20 0 rfl ?_
                      refine v_if_eq hx DX4_judge_21 (by decide) (fun c21 => ?_) (fun c21 => ?_)
                      · skip
                        refine v_iinc hx DX4_judge_42 0 rfl [(1, iv (-1)), (0, .ref p)] rfl (by decide) ?_
                        refine v_goto hx DX4_judge_45 ?_
                        refine v_iload hx DX4_judge_7 0 rfl ?_
                        refine v_push hx DX4_judge_8 ?_
                        refine v_icmp_lt hx DX4_judge_10 (by decide) (by decide) (fun c10 => ?_) (fun c10 => ?_)
                        · exact absurd c10 (by decide)
                        · skip
                          refine v_aload hx DX4_judge_13 1 rfl ?_
                          refine v_get hx DX4_judge_14 FLRX4_58 hP.1 (fv_i rfl (by rw [hch4.2.2.2.1]; rfl) : _ = iv 1) ?_
                          refine v_if_eq hx DX4_judge_17 (by decide) (fun c17 => ?_) (fun c17 => ?_)
                          · exact absurd c17 (by decide)
                          · skip
                            refine v_iload hx DX4_judge_20 0 rfl ?_
                            refine v_if_eq hx DX4_judge_21 (by decide) (fun c21 => ?_) (fun c21 => ?_)
                            · exact absurd c21 (by decide)
                            · skip
                              refine v_aload hx DX4_judge_24 1 rfl ?_
                              refine v_iload hx DX4_judge_25 0 rfl ?_
                              refine v_cVi hx DX4_judge_26 CVRX4_156 [iv (-1)] (c_const2 (i := -1) (kd := kd) l G Λ sz μ4 π hA4 hI hK hP (by omega) ⟨(congrFun hch4.2.2.2.1 13).trans hkd.1, hkd.2⟩ hord hz (fun a ha => hch4.2.1 a (by omega))) hP.1 rfl rfl (Nat.le_of_ble_eq_true rfl) (by decide) ⟨Nat.le_refl _, Nat.le_refl _⟩ (fun z5 μ5 hμ5 => ?_)
                              obtain ⟨π5, hc5, hz0⟩ := hμ5
                              have hA5 := hc5.1
                              have hch5 := hch4.trans (hc5.mono (fun c hc => by first | omega | (dsimp only at hc ⊢; omega)))
                              have v5_0 : π5 ((p + 46) + 1) = π (p + 46 + 1) := (hc5.2.1 ((p + 46) + 1) (by first | omega | (dsimp only; omega))).trans v4_0
                              have v5_1 : π5 ((p + 46) + 3) = π (p + 46 + 3) := (hc5.2.1 ((p + 46) + 3) (by first | omega | (dsimp only; omega))).trans v4_1
                              have v5_2 : π5 ((p + 51) + 1) = π (p + 51 + 1) := (hc5.2.1 ((p + 51) + 1) (by first | omega | (dsimp only; omega))).trans v4_2
                              have v5_3 : π5 ((p + 51) + 3) = π (p + 51 + 3) := (hc5.2.1 ((p + 51) + 3) (by first | omega | (dsimp only; omega))).trans v4_3
                              rw [hz0]
                              refine v_if_ge hx DX4_judge_29 (by omega) (fun c29 => ?_) (fun c29 => ?_)
                              · skip
                                refine v_iinc hx DX4_judge_42 0 rfl [(1, iv (-2)), (0, .ref p)] rfl (by decide) ?_
                                refine v_goto hx DX4_judge_45 ?_
                                refine v_iload hx DX4_judge_7 0 rfl ?_
                                refine v_push hx DX4_judge_8 ?_
                                refine v_icmp_lt hx DX4_judge_10 (by decide) (by decide) (fun c10 => ?_) (fun c10 => ?_)
                                · exact absurd c10 (by decide)
                                · skip
                                  refine v_aload hx DX4_judge_13 1 rfl ?_
                                  refine v_get hx DX4_judge_14 FLRX4_58 hP.1 (fv_i rfl (by rw [hch5.2.2.2.1]; rfl) : _ = iv 1) ?_
                                  refine v_if_eq hx DX4_judge_17 (by decide) (fun c17 => ?_) (fun c17 => ?_)
                                  · exact absurd c17 (by decide)
                                  · skip
                                    refine v_iload hx DX4_judge_20 0 rfl ?_
                                    refine v_if_eq hx DX4_judge_21 (by decide) (fun c21 => ?_) (fun c21 => ?_)
                                    · exact absurd c21 (by decide)
                                    · skip
                                      refine v_aload hx DX4_judge_24 1 rfl ?_
                                      refine v_iload hx DX4_judge_25 0 rfl ?_
                                      refine v_cVi hx DX4_judge_26 CVRX4_156 [iv (-2)] (c_const2 (i := -2) (kd := kd) l G Λ sz μ5 π hA5 hI hK hP (by omega) ⟨(congrFun hch5.2.2.2.1 13).trans hkd.1, hkd.2⟩ hord hz (fun a ha => hch5.2.1 a (by omega))) hP.1 rfl rfl (Nat.le_of_ble_eq_true rfl) (by decide) ⟨Nat.le_refl _, Nat.le_refl _⟩ (fun z6 μ6 hμ6 => ?_)
                                      obtain ⟨π6, hc6, hz0⟩ := hμ6
                                      have hA6 := hc6.1
                                      have hch6 := hch5.trans (hc6.mono (fun c hc => by first | omega | (dsimp only at hc ⊢; omega)))
                                      have v6_0 : π6 ((p + 46) + 1) = π (p + 46 + 1) := (hc6.2.1 ((p + 46) + 1) (by first | omega | (dsimp only; omega))).trans v5_0
                                      have v6_1 : π6 ((p + 46) + 3) = π (p + 46 + 3) := (hc6.2.1 ((p + 46) + 3) (by first | omega | (dsimp only; omega))).trans v5_1
                                      have v6_2 : π6 ((p + 51) + 1) = π (p + 51 + 1) := (hc6.2.1 ((p + 51) + 1) (by first | omega | (dsimp only; omega))).trans v5_2
                                      have v6_3 : π6 ((p + 51) + 3) = π (p + 51 + 3) := (hc6.2.1 ((p + 51) + 3) (by first | omega | (dsimp only; omega))).trans v5_3
                                      rw [hz0]
                                      refine v_if_ge hx DX4_judge_29 (by omega) (fun c29 => ?_) (fun c29 => ?_)
                                      · skip
                                        refine v_iinc hx DX4_judge_42 0 rfl [(1, iv (-3)), (0, .ref p)] rfl (by decide) ?_
                                        refine v_goto hx DX4_judge_45 ?_
                                        refine v_iload hx DX4_judge_7 0 rfl ?_
                                        refine v_push hx DX4_judge_8 ?_
                                        refine v_icmp_lt hx DX4_judge_10 (by decide) (by decide) (fun c10 => ?_) (fun c10 => ?_)
                                        · skip
                                          refine v_push hx DX4_judge_48 ?_
                                          refine v_istore hx DX4_judge_49 [(1, iv 1), (0, .ref p)] rfl (by decide) ?_
                                          refine v_iload hx DX4_judge_50 0 rfl ?_
                                          refine v_push hx DX4_judge_51 ?_
                                          refine v_icmp_gt hx DX4_judge_52 (by decide) (by decide) (fun c52 => ?_) (fun c52 => ?_)
                                          · exact absurd c52 (by decide)
                                          · skip
                                            refine v_aload hx DX4_judge_55 1 rfl ?_
                                            refine v_get hx DX4_judge_56 FLRX4_58 hP.1 (fv_i rfl (by rw [hch6.2.2.2.1]; rfl) : _ = iv 1) ?_
                                            refine v_if_eq hx DX4_judge_59 (by decide) (fun c59 => ?_) (fun c59 => ?_)
                                            · exact absurd c59 (by decide)
                                            · skip
                                              refine v_aload hx DX4_judge_62 1 rfl ?_
                                              refine v_get hx DX4_judge_63 FLRX4_54 hP.1 (fv_i rfl (by rw [hch6.2.2.2.1]; exact hkd.1) : _ = iv kd) ?_
                                              refine v_push hx DX4_judge_66 ?_
                                              refine v_icmp_ne hx DX4_judge_67 (by omega) (by decide) (fun c67 => ?_) (fun c67 => ?_)
                                              · skip
                                                exact v_rv hx hBD DX4_judge_111 (⟨π6, _, hch6, hkd.1, by rw [jdO_of (C := cC kd p π) (r := 0) (by omega)]; rfl, fun q => absurd (jdO_of (C := cC kd p π) (r := 0) (by omega)) q, fun _ => ⟨v6_0, v6_2⟩, fun q => absurd q.2 (by omega)⟩)
                                              · skip
                                                refine v_aload hx DX4_judge_70 1 rfl ?_
                                                refine v_iload hx DX4_judge_71 0 rfl ?_
                                                refine v_push hx DX4_judge_72 ?_
                                                refine v_iadd hx DX4_judge_73 ?_
                                                refine v_top (z' := 2) (by decide) ?_
                                                refine v_cVr hx DX4_judge_74 CVRX4_124 [iv 2] (c_piece (i := 2) l G Λ sz μ6 hP (by omega)) hP.1 rfl rfl (Nat.le_of_ble_eq_true rfl) (by decide) ⟨Nat.le_refl _, Nat.le_refl _⟩ (fun z8 μ7 hμ7 => ?_)
                                                obtain ⟨ea, em⟩ := hμ7
                                                have ea : z8 = p + 46 := ea
                                                rw [ea, em]
                                                refine v_astore hx DX4_judge_77 [(2, .ref (p + 46)), (1, iv 1), (0, .ref p)] rfl (by decide) ?_
                                                refine v_aload hx DX4_judge_78 0 rfl ?_
                                                refine v_get hx DX4_judge_79 FLRX4_82 hF4.1 (v := .ref ((p + 46) + 1)) rfl ?_
                                                refine v_aload hx DX4_judge_82 0 rfl ?_
                                                refine v_get hx DX4_judge_83 FLRX4_99 hF4.1 (v := .ref ((p + 46) + 3)) rfl ?_
                                                refine v_aload hx DX4_judge_86 2 rfl ?_
                                                refine v_iload hx DX4_judge_87 1 rfl ?_
                                                refine v_cVi hx DX4_judge_88 CVRX4_156 [iv 1] (c_const2 (i := 1) (kd := kd) l G Λ sz μ6 π hA6 hI hK hP (by omega) ⟨(congrFun hch6.2.2.2.1 13).trans hkd.1, hkd.2⟩ hord hz (fun a ha => hch6.2.1 a (by omega))) hP.1 rfl rfl (Nat.le_of_ble_eq_true rfl) (by decide) ⟨Nat.le_refl _, Nat.le_refl _⟩ (fun z9 μ9 hμ9 => ?_)
                                                obtain ⟨π9, hc9, hz0⟩ := hμ9
                                                have hA9 := hc9.1
                                                have hch9 := hch6.trans (hc9.mono (fun c hc => by first | omega | (dsimp only at hc ⊢; omega)))
                                                have v9_0 : π9 ((p + 46) + 1) = π (p + 46 + 1) := (hc9.2.1 ((p + 46) + 1) (by first | omega | (dsimp only; omega))).trans v6_0
                                                have v9_1 : π9 ((p + 46) + 3) = π (p + 46 + 3) := (hc9.2.1 ((p + 46) + 3) (by first | omega | (dsimp only; omega))).trans v6_1
                                                have v9_2 : π9 ((p + 51) + 1) = π (p + 51 + 1) := (hc9.2.1 ((p + 51) + 1) (by first | omega | (dsimp only; omega))).trans v6_2
                                                have v9_3 : π9 ((p + 51) + 3) = π (p + 51 + 3) := (hc9.2.1 ((p + 51) + 3) (by first | omega | (dsimp only; omega))).trans v6_3
                                                rw [hz0]
                                                refine v_iload hx DX4_judge_91 1 rfl ?_
                                                refine v_push hx DX4_judge_92 ?_
                                                refine v_iadd hx DX4_judge_93 ?_
                                                refine v_top (z' := 2) (by decide) ?_
                                                refine v_cNp hx DX4_judge_94 CSRX4_160 [iv 2] (s_inverse l G Λ sz μ9 hI (by omega)) rfl rfl (Nat.le_of_ble_eq_true rfl) (by decide) ⟨Nat.le_refl _, Nat.le_refl _⟩ ?_
                                                have n1 := m1 (by omega)
                                                have n2 := m2 (by omega)
                                                refine v_imul hx DX4_judge_97 ?_
                                                refine v_push hx DX4_judge_98 ?_
                                                refine v_irem hx (by omega) (by decide) DX4_judge_100 ?_
                                                refine v_push hx DX4_judge_101 ?_
                                                refine v_cVv hx DX4_judge_102 CVRX4_95 [.ref ((p + 46) + 3), iv (((cC kd p π (1)) * (ivI 2)) % 101), iv 0] (s_addMultiple l G Λ sz μ9 hF4.2.1 hF4.2.2 (by omega) (AB.get (A := π (p + 46 + 1)) hA9 hF4.2.1 v9_0) (AB.get (A := π (p + 46 + 3)) hA9 hF4.2.2 v9_1) (by omega) (by omega) (by omega)) hF4.2.1.1 rfl rfl (Nat.le_of_ble_eq_true rfl) (by decide) ⟨Nat.le_refl _, Nat.le_refl _⟩ (fun μ12 hμ12 => ?_)
                                                obtain ⟨π12, hc12, he12, ho12⟩ := Chg.one (S := fun c => c = p + 17 ∨ c = p + 21 ∨ c = p + 46 + 1 ∨ c = p + 51 + 1) (R := PS.am (π (p + 46 + 1)) (π (p + 46 + 3)) (fi (((cC kd p π (1)) * (ivI 2)) % 101)) (Int.toNat 0)) hA9 hF4.2.1 (by first | omega | (dsimp only; omega)) hμ12
                                                have hA12 := hc12.1
                                                have hch12 := hch9.trans hc12
                                                have v12_1 : π12 ((p + 46) + 3) = π (p + 46 + 3) := (ho12 ((p + 46) + 3) (by omega)).trans v9_1
                                                have v12_2 : π12 ((p + 51) + 1) = π (p + 51 + 1) := (ho12 ((p + 51) + 1) (by omega)).trans v9_2
                                                have v12_3 : π12 ((p + 51) + 3) = π (p + 51 + 3) := (ho12 ((p + 51) + 3) (by omega)).trans v9_3
                                                refine v_iinc hx DX4_judge_105 1 rfl [(1, iv 2), (2, .ref (p + 46)), (0, .ref p)] rfl (by decide) ?_
                                                refine v_goto hx DX4_judge_108 ?_
                                                refine v_iload hx DX4_judge_50 0 rfl ?_
                                                refine v_push hx DX4_judge_51 ?_
                                                refine v_icmp_gt hx DX4_judge_52 (by decide) (by decide) (fun c52 => ?_) (fun c52 => ?_)
                                                · exact absurd c52 (by decide)
                                                · skip
                                                  refine v_aload hx DX4_judge_55 2 rfl ?_
                                                  refine v_get hx DX4_judge_56 FLRX4_58 hP.1 (fv_i rfl (by rw [hch12.2.2.2.1]; rfl) : _ = iv 1) ?_
                                                  refine v_if_eq hx DX4_judge_59 (by decide) (fun c59 => ?_) (fun c59 => ?_)
                                                  · exact absurd c59 (by decide)
                                                  · skip
                                                    refine v_aload hx DX4_judge_62 2 rfl ?_
                                                    refine v_get hx DX4_judge_63 FLRX4_54 hP.1 (fv_i rfl (by rw [hch12.2.2.2.1]; exact hkd.1) : _ = iv kd) ?_
                                                    refine v_push hx DX4_judge_66 ?_
                                                    refine v_icmp_ne hx DX4_judge_67 (by omega) (by decide) (fun c67 => ?_) (fun c67 => ?_)
                                                    · exact absurd c67 (by omega)
                                                    · skip
                                                      refine v_aload hx DX4_judge_70 2 rfl ?_
                                                      refine v_iload hx DX4_judge_71 0 rfl ?_
                                                      refine v_push hx DX4_judge_72 ?_
                                                      refine v_iadd hx DX4_judge_73 ?_
                                                      refine v_top (z' := 3) (by decide) ?_
                                                      refine v_cVr hx DX4_judge_74 CVRX4_124 [iv 3] (c_piece (i := 3) l G Λ sz μ12 hP (by omega)) hP.1 rfl rfl (Nat.le_of_ble_eq_true rfl) (by decide) ⟨Nat.le_refl _, Nat.le_refl _⟩ (fun z14 μ13 hμ13 => ?_)
                                                      obtain ⟨ea, em⟩ := hμ13
                                                      have ea : z14 = p + 51 := ea
                                                      rw [ea, em]
                                                      refine v_astore hx DX4_judge_77 [(2, .ref (p + 51)), (1, iv 2), (0, .ref p)] rfl (by decide) ?_
                                                      refine v_aload hx DX4_judge_78 0 rfl ?_
                                                      refine v_get hx DX4_judge_79 FLRX4_82 hF5.1 (v := .ref ((p + 51) + 1)) rfl ?_
                                                      refine v_aload hx DX4_judge_82 0 rfl ?_
                                                      refine v_get hx DX4_judge_83 FLRX4_99 hF5.1 (v := .ref ((p + 51) + 3)) rfl ?_
                                                      refine v_aload hx DX4_judge_86 2 rfl ?_
                                                      refine v_iload hx DX4_judge_87 1 rfl ?_
                                                      refine v_cVi hx DX4_judge_88 CVRX4_156 [iv 2] (c_const2 (i := 2) (kd := kd) l G Λ sz μ12 π hA12 hI hK hP (by omega) ⟨(congrFun hch12.2.2.2.1 13).trans hkd.1, hkd.2⟩ hord hz (fun a ha => hch12.2.1 a (by omega))) hP.1 rfl rfl (Nat.le_of_ble_eq_true rfl) (by decide) ⟨Nat.le_refl _, Nat.le_refl _⟩ (fun z15 μ15 hμ15 => ?_)
                                                      obtain ⟨π15, hc15, hz0⟩ := hμ15
                                                      have hA15 := hc15.1
                                                      have hch15 := hch12.trans (hc15.mono (fun c hc => by first | omega | (dsimp only at hc ⊢; omega)))
                                                      have v15_0 : π15 ((p + 46) + 3) = π (p + 46 + 3) := (hc15.2.1 ((p + 46) + 3) (by first | omega | (dsimp only; omega))).trans v12_1
                                                      have v15_1 : π15 ((p + 51) + 1) = π (p + 51 + 1) := (hc15.2.1 ((p + 51) + 1) (by first | omega | (dsimp only; omega))).trans v12_2
                                                      have v15_2 : π15 ((p + 51) + 3) = π (p + 51 + 3) := (hc15.2.1 ((p + 51) + 3) (by first | omega | (dsimp only; omega))).trans v12_3
                                                      have v15_3 : π15 ((p + 46) + 1) = PS.am (π (p + 46 + 1)) (π (p + 46 + 3)) (fi (((cC kd p π (1)) * (ivI 2)) % 101)) (Int.toNat 0) := (hc15.2.1 ((p + 46) + 1) (by first | omega | (dsimp only; omega))).trans he12
                                                      rw [hz0]
                                                      refine v_iload hx DX4_judge_91 1 rfl ?_
                                                      refine v_push hx DX4_judge_92 ?_
                                                      refine v_iadd hx DX4_judge_93 ?_
                                                      refine v_top (z' := 3) (by decide) ?_
                                                      refine v_cNp hx DX4_judge_94 CSRX4_160 [iv 3] (s_inverse l G Λ sz μ15 hI (by omega)) rfl rfl (Nat.le_of_ble_eq_true rfl) (by decide) ⟨Nat.le_refl _, Nat.le_refl _⟩ ?_
                                                      have n1 := m1 (by omega)
                                                      have n2 := m2 (by omega)
                                                      refine v_imul hx DX4_judge_97 ?_
                                                      refine v_push hx DX4_judge_98 ?_
                                                      refine v_irem hx (by omega) (by decide) DX4_judge_100 ?_
                                                      refine v_push hx DX4_judge_101 ?_
                                                      refine v_cVv hx DX4_judge_102 CVRX4_95 [.ref ((p + 51) + 3), iv (((cC kd p π (2)) * (ivI 3)) % 101), iv 0] (s_addMultiple l G Λ sz μ15 hF5.2.1 hF5.2.2 (by omega) (AB.get (A := π (p + 51 + 1)) hA15 hF5.2.1 v15_1) (AB.get (A := π (p + 51 + 3)) hA15 hF5.2.2 v15_2) (by omega) (by omega) (by omega)) hF5.2.1.1 rfl rfl (Nat.le_of_ble_eq_true rfl) (by decide) ⟨Nat.le_refl _, Nat.le_refl _⟩ (fun μ18 hμ18 => ?_)
                                                      obtain ⟨π18, hc18, he18, ho18⟩ := Chg.one (S := fun c => c = p + 17 ∨ c = p + 21 ∨ c = p + 46 + 1 ∨ c = p + 51 + 1) (R := PS.am (π (p + 51 + 1)) (π (p + 51 + 3)) (fi (((cC kd p π (2)) * (ivI 3)) % 101)) (Int.toNat 0)) hA15 hF5.2.1 (by first | omega | (dsimp only; omega)) hμ18
                                                      have hA18 := hc18.1
                                                      have hch18 := hch15.trans hc18
                                                      have v18_0 : π18 ((p + 46) + 3) = π (p + 46 + 3) := (ho18 ((p + 46) + 3) (by omega)).trans v15_0
                                                      have v18_2 : π18 ((p + 51) + 3) = π (p + 51 + 3) := (ho18 ((p + 51) + 3) (by omega)).trans v15_2
                                                      have v18_3 : π18 ((p + 46) + 1) = PS.am (π (p + 46 + 1)) (π (p + 46 + 3)) (fi (((cC kd p π (1)) * (ivI 2)) % 101)) (Int.toNat 0) := (ho18 ((p + 46) + 1) (by omega)).trans v15_3
                                                      refine v_iinc hx DX4_judge_105 1 rfl [(1, iv 3), (2, .ref (p + 51)), (0, .ref p)] rfl (by decide) ?_
                                                      refine v_goto hx DX4_judge_108 ?_
                                                      refine v_iload hx DX4_judge_50 0 rfl ?_
                                                      refine v_push hx DX4_judge_51 ?_
                                                      refine v_icmp_gt hx DX4_judge_52 (by decide) (by decide) (fun c52 => ?_) (fun c52 => ?_)
                                                      · skip
                                                        exact v_rv hx hBD DX4_judge_111 (⟨π18, _, hch18, hkd.1, by rw [jdO_of (C := cC kd p π) (r := 0) (by omega)]; rfl, fun q => absurd (jdO_of (C := cC kd p π) (r := 0) (by omega)) q, fun q => absurd ⟨jdO_of (C := cC kd p π) (r := 0) (by omega), by omega⟩ q, fun _ => ⟨v18_3, he18⟩⟩)
                                                      · exact absurd c52 (by decide)
                                        · exact absurd c10 (by decide)
                                      · skip
                                        refine v_aload hx DX4_judge_32 1 rfl ?_
                                        refine v_push hx DX4_judge_33 ?_
                                        refine v_pZ hx DX4_judge_34 FPRX4_58 hP.1 rfl (ki := 14) rfl (by omega) (fun μ19 eμ19 => ?_)
                                        have hA20 : AB Λ μ19 π6 := by rw [eμ19]; exact hA6.mI hoff
                                        have hch20 : ChgX Λ (fun c => c = p + 17 ∨ c = p + 21 ∨ c = p + 46 + 1 ∨ c = p + 51 + 1) p (rw1 (rw1 (μ.1 p) 14 1) 14 0) μ μ19 π π6 := by rw [eμ19]; exact hch6.put
                                        skip
                                        refine v_aload hx DX4_judge_37 1 rfl ?_
                                        refine v_iload hx DX4_judge_38 0 rfl ?_
                                        refine v_pI hx DX4_judge_39 FPRX4_62 hP.1 rfl (ki := 15) rfl (fun μ21 eμ21 => ?_)
                                        have hA22 : AB Λ μ21 π6 := by rw [eμ21]; exact hA20.mI hoff
                                        have hch22 : ChgX Λ (fun c => c = p + 17 ∨ c = p + 21 ∨ c = p + 46 + 1 ∨ c = p + 51 + 1) p (rw1 (rw1 (rw1 (μ.1 p) 14 1) 14 0) 15 (-2)) μ μ21 π π6 := by rw [eμ21]; exact hch20.put
                                        skip
                                        refine v_iinc hx DX4_judge_42 0 rfl [(1, iv (-3)), (0, .ref p)] rfl (by decide) ?_
                                        refine v_goto hx DX4_judge_45 ?_
                                        refine v_iload hx DX4_judge_7 0 rfl ?_
                                        refine v_push hx DX4_judge_8 ?_
                                        refine v_icmp_lt hx DX4_judge_10 (by decide) (by decide) (fun c10 => ?_) (fun c10 => ?_)
                                        · skip
                                          refine v_push hx DX4_judge_48 ?_
                                          refine v_istore hx DX4_judge_49 [(1, iv 1), (0, .ref p)] rfl (by decide) ?_
                                          refine v_iload hx DX4_judge_50 0 rfl ?_
                                          refine v_push hx DX4_judge_51 ?_
                                          refine v_icmp_gt hx DX4_judge_52 (by decide) (by decide) (fun c52 => ?_) (fun c52 => ?_)
                                          · exact absurd c52 (by decide)
                                          · skip
                                            refine v_aload hx DX4_judge_55 1 rfl ?_
                                            refine v_get hx DX4_judge_56 FLRX4_58 hP.1 (fv_i rfl (by rw [hch22.2.2.2.1]; rfl) : _ = iv 0) ?_
                                            refine v_if_eq hx DX4_judge_59 (by decide) (fun c59 => ?_) (fun c59 => ?_)
                                            · skip
                                              exact v_rv hx hBD DX4_judge_111 (⟨π6, _, hch22, hkd.1, by rw [jdO_of (C := cC kd p π) (r := (-2)) (by omega)]; rfl, fun _ => by rw [jdO_of (C := cC kd p π) (r := (-2)) (by omega)]; rfl, fun _ => ⟨v6_0, v6_2⟩, fun q => absurd ((jdO_of (C := cC kd p π) (r := (-2)) (by omega)).symm.trans q.1) (by decide)⟩)
                                            · exact absurd c59 (by decide)
                                        · exact absurd c10 (by decide)
                              · skip
                                refine v_aload hx DX4_judge_32 1 rfl ?_
                                refine v_push hx DX4_judge_33 ?_
                                refine v_pZ hx DX4_judge_34 FPRX4_58 hP.1 rfl (ki := 14) rfl (by omega) (fun μ23 eμ23 => ?_)
                                have hA24 : AB Λ μ23 π5 := by rw [eμ23]; exact hA5.mI hoff
                                have hch24 : ChgX Λ (fun c => c = p + 17 ∨ c = p + 21 ∨ c = p + 46 + 1 ∨ c = p + 51 + 1) p (rw1 (rw1 (μ.1 p) 14 1) 14 0) μ μ23 π π5 := by rw [eμ23]; exact hch5.put
                                skip
                                refine v_aload hx DX4_judge_37 1 rfl ?_
                                refine v_iload hx DX4_judge_38 0 rfl ?_
                                refine v_pI hx DX4_judge_39 FPRX4_62 hP.1 rfl (ki := 15) rfl (fun μ25 eμ25 => ?_)
                                have hA26 : AB Λ μ25 π5 := by rw [eμ25]; exact hA24.mI hoff
                                have hch26 : ChgX Λ (fun c => c = p + 17 ∨ c = p + 21 ∨ c = p + 46 + 1 ∨ c = p + 51 + 1) p (rw1 (rw1 (rw1 (μ.1 p) 14 1) 14 0) 15 (-1)) μ μ25 π π5 := by rw [eμ25]; exact hch24.put
                                skip
                                refine v_iinc hx DX4_judge_42 0 rfl [(1, iv (-2)), (0, .ref p)] rfl (by decide) ?_
                                refine v_goto hx DX4_judge_45 ?_
                                refine v_iload hx DX4_judge_7 0 rfl ?_
                                refine v_push hx DX4_judge_8 ?_
                                refine v_icmp_lt hx DX4_judge_10 (by decide) (by decide) (fun c10 => ?_) (fun c10 => ?_)
                                · exact absurd c10 (by decide)
                                · skip
                                  refine v_aload hx DX4_judge_13 1 rfl ?_
                                  refine v_get hx DX4_judge_14 FLRX4_58 hP.1 (fv_i rfl (by rw [hch26.2.2.2.1]; rfl) : _ = iv 0) ?_
                                  refine v_if_eq hx DX4_judge_17 (by decide) (fun c17 => ?_) (fun c17 => ?_)
                                  · skip
                                    refine v_push hx DX4_judge_48 ?_
                                    refine v_istore hx DX4_judge_49 [(1, iv 1), (0, .ref p)] rfl (by decide) ?_
                                    refine v_iload hx DX4_judge_50 0 rfl ?_
                                    refine v_push hx DX4_judge_51 ?_
                                    refine v_icmp_gt hx DX4_judge_52 (by decide) (by decide) (fun c52 => ?_) (fun c52 => ?_)
                                    · exact absurd c52 (by decide)
                                    · skip
                                      refine v_aload hx DX4_judge_55 1 rfl ?_
                                      refine v_get hx DX4_judge_56 FLRX4_58 hP.1 (fv_i rfl (by rw [hch26.2.2.2.1]; rfl) : _ = iv 0) ?_
                                      refine v_if_eq hx DX4_judge_59 (by decide) (fun c59 => ?_) (fun c59 => ?_)
                                      · skip
                                        exact v_rv hx hBD DX4_judge_111 (⟨π5, _, hch26, hkd.1, by rw [jdO_of (C := cC kd p π) (r := (-1)) (by omega)]; rfl, fun _ => by rw [jdO_of (C := cC kd p π) (r := (-1)) (by omega)]; rfl, fun _ => ⟨v5_0, v5_2⟩, fun q => absurd ((jdO_of (C := cC kd p π) (r := (-1)) (by omega)).symm.trans q.1) (by decide)⟩)
                                      · exact absurd c59 (by decide)
                                  · exact absurd c17 (by decide)
                      · exact absurd c21 (by decide)
                · skip
                  refine v_aload hx DX4_judge_32 1 rfl ?_
                  refine v_push hx DX4_judge_33 ?_
                  refine v_pZ hx DX4_judge_34 FPRX4_58 hP.1 rfl (ki := 14) rfl (by omega) (fun μ27 eμ27 => ?_)
                  have hA28 : AB Λ μ27 π4 := by rw [eμ27]; exact hA4.mI hoff
                  have hch28 : ChgX Λ (fun c => c = p + 17 ∨ c = p + 21 ∨ c = p + 46 + 1 ∨ c = p + 51 + 1) p (rw1 (rw1 (μ.1 p) 14 1) 14 0) μ μ27 π π4 := by rw [eμ27]; exact hch4.put
                  skip
                  refine v_aload hx DX4_judge_37 1 rfl ?_
                  refine v_iload hx DX4_judge_38 0 rfl ?_
                  refine v_pI hx DX4_judge_39 FPRX4_62 hP.1 rfl (ki := 15) rfl (fun μ29 eμ29 => ?_)
                  have hA30 : AB Λ μ29 π4 := by rw [eμ29]; exact hA28.mI hoff
                  have hch30 : ChgX Λ (fun c => c = p + 17 ∨ c = p + 21 ∨ c = p + 46 + 1 ∨ c = p + 51 + 1) p (rw1 (rw1 (rw1 (μ.1 p) 14 1) 14 0) 15 1) μ μ29 π π4 := by rw [eμ29]; exact hch28.put
                  skip
                  refine v_iinc hx DX4_judge_42 0 rfl [(1, iv 0), (0, .ref p)] rfl (by decide) ?_
                  refine v_goto hx DX4_judge_45 ?_
                  refine v_iload hx DX4_judge_7 0 rfl ?_
                  refine v_push hx DX4_judge_8 ?_
                  refine v_icmp_lt hx DX4_judge_10 (by decide) (by decide) (fun c10 => ?_) (fun c10 => ?_)
                  · exact absurd c10 (by decide)
                  · skip
                    refine v_aload hx DX4_judge_13 1 rfl ?_
                    refine v_get hx DX4_judge_14 FLRX4_58 hP.1 (fv_i rfl (by rw [hch30.2.2.2.1]; rfl) : _ = iv 0) ?_
                    refine v_if_eq hx DX4_judge_17 (by decide) (fun c17 => ?_) (fun c17 => ?_)
                    · skip
                      refine v_push hx DX4_judge_48 ?_
                      refine v_istore hx DX4_judge_49 [(1, iv 1), (0, .ref p)] rfl (by decide) ?_
                      refine v_iload hx DX4_judge_50 0 rfl ?_
                      refine v_push hx DX4_judge_51 ?_
                      refine v_icmp_gt hx DX4_judge_52 (by decide) (by decide) (fun c52 => ?_) (fun c52 => ?_)
                      · exact absurd c52 (by decide)
                      · skip
                        refine v_aload hx DX4_judge_55 1 rfl ?_
                        refine v_get hx DX4_judge_56 FLRX4_58 hP.1 (fv_i rfl (by rw [hch30.2.2.2.1]; rfl) : _ = iv 0) ?_
                        refine v_if_eq hx DX4_judge_59 (by decide) (fun c59 => ?_) (fun c59 => ?_)
                        · skip
                          exact v_rv hx hBD DX4_judge_111 (⟨π4, _, hch30, hkd.1, by rw [jdO_of (C := cC kd p π) (r := (1)) (by omega)]; rfl, fun _ => by rw [jdO_of (C := cC kd p π) (r := (1)) (by omega)]; rfl, fun _ => ⟨v4_0, v4_2⟩, fun q => absurd ((jdO_of (C := cC kd p π) (r := (1)) (by omega)).symm.trans q.1) (by decide)⟩)
                        · exact absurd c59 (by decide)
                    · exact absurd c17 (by decide)
        · skip
          refine v_aload hx DX4_judge_32 1 rfl ?_
          refine v_push hx DX4_judge_33 ?_
          refine v_pZ hx DX4_judge_34 FPRX4_58 hP.1 rfl (ki := 14) rfl (by omega) (fun μ31 eμ31 => ?_)
          have hA32 : AB Λ μ31 π3 := by rw [eμ31]; exact hA3.mI hoff
          have hch32 : ChgX Λ (fun c => c = p + 17 ∨ c = p + 21 ∨ c = p + 46 + 1 ∨ c = p + 51 + 1) p (rw1 (rw1 (μ.1 p) 14 1) 14 0) μ μ31 π π3 := by rw [eμ31]; exact hch3.put
          skip
          refine v_aload hx DX4_judge_37 1 rfl ?_
          refine v_iload hx DX4_judge_38 0 rfl ?_
          refine v_pI hx DX4_judge_39 FPRX4_62 hP.1 rfl (ki := 15) rfl (fun μ33 eμ33 => ?_)
          have hA34 : AB Λ μ33 π3 := by rw [eμ33]; exact hA32.mI hoff
          have hch34 : ChgX Λ (fun c => c = p + 17 ∨ c = p + 21 ∨ c = p + 46 + 1 ∨ c = p + 51 + 1) p (rw1 (rw1 (rw1 (μ.1 p) 14 1) 14 0) 15 2) μ μ33 π π3 := by rw [eμ33]; exact hch32.put
          skip
          refine v_iinc hx DX4_judge_42 0 rfl [(1, iv 1), (0, .ref p)] rfl (by decide) ?_
          refine v_goto hx DX4_judge_45 ?_
          refine v_iload hx DX4_judge_7 0 rfl ?_
          refine v_push hx DX4_judge_8 ?_
          refine v_icmp_lt hx DX4_judge_10 (by decide) (by decide) (fun c10 => ?_) (fun c10 => ?_)
          · exact absurd c10 (by decide)
          · skip
            refine v_aload hx DX4_judge_13 1 rfl ?_
            refine v_get hx DX4_judge_14 FLRX4_58 hP.1 (fv_i rfl (by rw [hch34.2.2.2.1]; rfl) : _ = iv 0) ?_
            refine v_if_eq hx DX4_judge_17 (by decide) (fun c17 => ?_) (fun c17 => ?_)
            · skip
              refine v_push hx DX4_judge_48 ?_
              refine v_istore hx DX4_judge_49 [(1, iv 1), (0, .ref p)] rfl (by decide) ?_
              refine v_iload hx DX4_judge_50 0 rfl ?_
              refine v_push hx DX4_judge_51 ?_
              refine v_icmp_gt hx DX4_judge_52 (by decide) (by decide) (fun c52 => ?_) (fun c52 => ?_)
              · exact absurd c52 (by decide)
              · skip
                refine v_aload hx DX4_judge_55 1 rfl ?_
                refine v_get hx DX4_judge_56 FLRX4_58 hP.1 (fv_i rfl (by rw [hch34.2.2.2.1]; rfl) : _ = iv 0) ?_
                refine v_if_eq hx DX4_judge_59 (by decide) (fun c59 => ?_) (fun c59 => ?_)
                · skip
                  exact v_rv hx hBD DX4_judge_111 (⟨π3, _, hch34, hkd.1, by rw [jdO_of (C := cC kd p π) (r := (2)) (by omega)]; rfl, fun _ => by rw [jdO_of (C := cC kd p π) (r := (2)) (by omega)]; rfl, fun _ => ⟨v3_0, v3_2⟩, fun q => absurd ((jdO_of (C := cC kd p π) (r := (2)) (by omega)).symm.trans q.1) (by decide)⟩)
                · exact absurd c59 (by decide)
            · exact absurd c17 (by decide)
