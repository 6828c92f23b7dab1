/-! ===== the reference tells ===== -/
theorem cf_eq {p q : PS} {j : Int} : cf p j = cf q j ↔ p j.toNat = q j.toNat := by
  unfold cf
  constructor
  · intro h; apply Fin.eq_of_val_eq; omega
  · intro h; rw [h]
theorem bz_all0 {P : Nat → Prop} {k z : Int} (h : z = bz (∀ j : Nat, (j : Int) < k → P j)) (c : z = 0) : (0 : Int) = bz (∀ j : Nat, (j : Int) < k + 1 → P j) :=
  (bz_neg (fun q => bz_zero.mp (h.symm.trans c) (fun j hj => q j (by omega)))).symm
theorem bz_all1 {P : Nat → Prop} {k : Int} (h0 : 0 ≤ k) (c : ¬ P k.toNat) : (0 : Int) = bz (∀ j : Nat, (j : Int) < k + 1 → P j) :=
  (bz_neg (fun q => c (q k.toNat (by omega)))).symm
theorem bz_all2 {P : Nat → Prop} {k z : Int} (h0 : 0 ≤ k) (h : z = bz (∀ j : Nat, (j : Int) < k → P j)) (c : z ≠ 0) (d : P k.toNat) : (1 : Int) = bz (∀ j : Nat, (j : Int) < k + 1 → P j) := by
  refine (bz_pos (fun j hj => ?_)).symm
  have h1 := Classical.byContradiction (fun q => c (h.trans (bz_neg q)))
  by_cases e : (j : Int) < k
  · exact h1 j e
  · have : j = k.toNat := by omega
    rw [this]; exact d
theorem bz_congr {P Q : Prop} (h : P ↔ Q) : bz P = bz Q := by rw [propext h]
theorem PS.eq_all {p q : PS} {n : Nat} (hp : p.lt n) (hq : q.lt n) : (∀ j : Nat, j < n → p j = q j) ↔ p = q := by
  constructor
  · intro h
    refine PS.ext fun j => ?_
    by_cases c : j < n
    · exact h j c
    · rw [hp j (by omega), hq j (by omega)]
  · intro h j _; rw [h]
theorem RW.fT {μ μ' : Mem} {ν : Nat} {ρ : Nat → PS} (h : RW μ ν ρ) (f : FrT ν μ μ') : RW μ' ν ρ := h.fr (f.1 _ (by omega) (by simp))
theorem r_tellsP (l : Launch) (G : Gl) (Λ : Lay) (sz : Nat) (μ : Mem) {ν : Nat} {ρ : Nat → PS} {T : List Int} {s : Nat} (hR : refK Λ ν) (hw : RW μ ν ρ) (hT : LA μ ν T) (hs : s < 154) (hp : (ρ s).size < 10) (hl : (T.length : Int) + lb (ρ s).size + 20 ≤ 256) : Sp l G yX12_tellsPolynomial cX12_tellsPolynomial 5 none 3 [.ref ν, iv (s : Int)] Λ sz μ (pV (fun μ' => LA μ' ν (T ++ ptxt (ρ s)) ∧ FrT ν μ μ')) := by
  refine Sp.intro (by decide) (Nat.le_of_ble_eq_true rfl) (fun x hx hBD => ?_)
  refine v_lv [(0, .ref ν), (1, iv (s : Int))] rfl ?_
  have hlp := lb_pos (ρ s).size
  have l0 : lb 0 = 0 := rfl
  have L8 : ∀ (nf : Nat) (k u : Int) (C : List Int) (m : Mem), (k + 1 < (nf : Int)) → (-1 ≤ k ∧ k < (ρ s).size) → ((u = 1 ∧ k = ((ρ s).size : Int) - 1) ∨ (u = 0 ∧ k < ((ρ s).size : Int) - 1)) → (C ++ polyT (ρ s) (((ρ s).size : Int) - 1) (k + 1).toNat = T ++ polyT (ρ s) (((ρ s).size : Int) - 1) (ρ s).size) → ((C.length : Int) + lb (k + 1) + 20 ≤ 256) → (LA m ν C ∧ FrT ν μ m) → V G x (0, 0) Λ sz m 8 [(3, iv k), (0, .ref ν), (1, iv (s : Int)), (2, iv u)] [] := by
    intro nf
    induction nf with
    | zero => intro k u C m hm hk hu hC hl2 hm; exact absurd hm (by omega)
    | succ nf ih =>
      intro k u C m hm hk hu hC hl2 hm
      have hwm := hw.fT hm.2
      have hcr := cf_rng (ρ s) k
      have hlk := lb_pos k
      have hlk1 := lb_pos (k + 1)
      have hls := lb_step (c := cf (ρ s) k) (k := k)
      have nc := (numT_len (cf (ρ s) k)).1
      have nk := (numT_len k).1
      have hp1 : 0 ≤ k → polyT (ρ s) (((ρ s).size : Int) - 1) (k + 1).toNat = (if (ρ s) k.toNat = 0 then [] else (if k < ((ρ s).size : Int) - 1 then [43] else []) ++ termT (cf (ρ s) k) k) ++ polyT (ρ s) (((ρ s).size : Int) - 1) k.toNat := fun h0 => by
        rw [show (k + 1).toNat = k.toNat + 1 by omega, polyT, Int.toNat_of_nonneg h0]
      refine v_iload hx DX12_tellsPolynomial_8 0 rfl ?_
      refine v_if_lt hx DX12_tellsPolynomial_9 (by omega) (fun c9 => ?_) (fun c9 => ?_)
      · skip
        refine v_iload hx DX12_tellsPolynomial_109 3 rfl ?_
        refine v_if_eq hx DX12_tellsPolynomial_110 (by omega) (fun c110 => ?_) (fun c110 => ?_)
        · skip
          exact v_rv hx hBD DX12_tellsPolynomial_119 (by have e : T ++ ptxt (ρ s) = C := (by rw [show (k + 1).toNat = 0 by omega] at hC; unfold ptxt; rw [if_neg (by omega), ← hC]; simp [polyT]); rw [e]; exact hm)
        · skip
          refine v_aload hx DX12_tellsPolynomial_113 1 rfl ?_
          refine v_push hx DX12_tellsPolynomial_114 ?_
          refine v_cVv hx DX12_tellsPolynomial_116 CVRX12_165 [iv 48] (r_says l G Λ sz m hR hm.1 (by omega)) hR.o rfl rfl (Nat.le_of_ble_eq_true rfl) (by decide) ⟨Nat.le_refl _, Nat.le_refl _⟩ (fun μ1 hμ1 => ?_)
          exact v_rv hx hBD DX12_tellsPolynomial_119 (by have e : T ++ ptxt (ρ s) = C ++ [48] := (by rw [show (k + 1).toNat = 0 by omega] at hC; unfold ptxt; have z0 : (ρ s).size = 0 := (by omega); rw [if_pos z0]; rw [z0] at hC; simp [polyT] at hC; rw [hC]); rw [e]; exact ⟨hμ1.1, hm.2.trans hμ1.2⟩)
      · skip
        have htop : k = ((ρ s).size : Int) - 1 → ¬ cf (ρ s) k = 0 := fun e q => by
          have h1 := (PS.size_isz (hw s hs).1).1
          rw [show (ρ s).size - 1 = k.toNat by omega] at h1
          exact h1.elim (fun z => by omega) (fun z => z (cf_zero.mp q))
        have hp1 := hp1 (by omega)
        have hls := hls (by omega) (by omega)
        refine v_aload hx DX12_tellsPolynomial_12 1 rfl ?_
        refine v_get hx DX12_tellsPolynomial_13 FLRX12_3 hR.o (v := .ref (ν + 1)) rfl ?_
        refine v_push hx DX12_tellsPolynomial_16 ?_
        refine v_iload hx DX12_tellsPolynomial_18 2 rfl ?_
        refine v_imul hx DX12_tellsPolynomial_19 ?_
        refine v_iload hx DX12_tellsPolynomial_20 0 rfl ?_
        refine v_iadd hx DX12_tellsPolynomial_21 ?_
        refine v_iald hx DX12_tellsPolynomial_22 hR.p (by omega) (by decide) (z := cf (ρ s) k) (hwm.at hs (by omega) (by omega) rfl) ?_
        refine v_istore hx DX12_tellsPolynomial_23 [(4, iv (cf (ρ s) k)), (3, iv k), (0, .ref ν), (1, iv (s : Int)), (2, iv u)] rfl (by decide) ?_
        refine v_iload hx DX12_tellsPolynomial_25 0 rfl ?_
        refine v_if_ne hx DX12_tellsPolynomial_27 (by omega) (fun c27 => ?_) (fun c27 => ?_)
        · skip
          refine v_iload hx DX12_tellsPolynomial_33 4 rfl ?_
          refine v_if_ne hx DX12_tellsPolynomial_34 (by omega) (fun c34 => ?_) (fun c34 => ?_)
          · skip
            refine v_push hx DX12_tellsPolynomial_43 ?_
            refine v_istore hx DX12_tellsPolynomial_44 [(2, iv 0), (4, iv (cf (ρ s) k)), (3, iv k), (0, .ref ν), (1, iv (s : Int))] rfl (by decide) ?_
            refine v_iload hx DX12_tellsPolynomial_45 1 rfl ?_
            refine v_push hx DX12_tellsPolynomial_47 ?_
            refine v_icmp_ne hx DX12_tellsPolynomial_48 (by omega) (by decide) (fun c48 => ?_) (fun c48 => ?_)
            · skip
              refine v_aload hx DX12_tellsPolynomial_55 3 rfl ?_
              refine v_iload hx DX12_tellsPolynomial_56 1 rfl ?_
              refine v_cVv hx DX12_tellsPolynomial_58 CVRX12_168 [iv (cf (ρ s) k)] (r_figures l G Λ sz m hR hm.1 (by omega) (by first | omega | (simp only [List.length_append, List.length_cons, List.length_nil]; omega))) hR.o rfl rfl (Nat.le_of_ble_eq_true rfl) (by decide) ⟨Nat.le_refl _, Nat.le_refl _⟩ (fun μ3 hμ3 => ?_)
              refine v_iload hx DX12_tellsPolynomial_61 1 rfl ?_
              refine v_push hx DX12_tellsPolynomial_63 ?_
              refine v_icmp_eq hx DX12_tellsPolynomial_64 (by omega) (by decide) (fun c64 => ?_) (fun c64 => ?_)
              · exact absurd c64 (by omega)
              · skip
                refine v_iload hx DX12_tellsPolynomial_67 2 rfl ?_
                refine v_if_le hx DX12_tellsPolynomial_68 (by omega) (fun c68 => ?_) (fun c68 => ?_)
                · skip
                  refine v_iload hx DX12_tellsPolynomial_77 2 rfl ?_
                  refine v_if_le hx DX12_tellsPolynomial_78 (by omega) (fun c78 => ?_) (fun c78 => ?_)
                  · skip
                    refine v_iload hx DX12_tellsPolynomial_87 2 rfl ?_
                    refine v_push hx DX12_tellsPolynomial_88 ?_
                    refine v_icmp_le hx DX12_tellsPolynomial_89 (by omega) (by decide) (fun c89 => ?_) (fun c89 => ?_)
                    · skip
                      refine v_iinc hx DX12_tellsPolynomial_103 2 rfl [(3, iv (k + (-1))), (2, iv 0), (4, iv (cf (ρ s) k)), (0, .ref ν), (1, iv (s : Int))] rfl (by decide) ?_
                      refine v_goto hx DX12_tellsPolynomial_106 ?_
                      exact v_sub [0, 3, 4, 1] _ rfl (ih (k + (-1)) 0 (C ++ ((if k < ((ρ s).size : Int) - 1 then [43] else []) ++ termT (cf (ρ s) k) k)) μ3 (by omega) (by omega) (by omega) (by rw [show (k + (-1) + 1).toNat = k.toNat by omega, ← hC, hp1, if_neg (fun q => c27 (cf_zero.mpr q))]; simp only [List.append_assoc]) (by rw [show k + (-1) + 1 = k by omega]; simp only [List.length_append]; have : (if k < ((ρ s).size : Int) - 1 then [(43 : Int)] else []).length ≤ 1 := (by split <;> simp); omega) ⟨by have e : C ++ ((if k < ((ρ s).size : Int) - 1 then [43] else []) ++ termT (cf (ρ s) k) k) = C ++ numT (cf (ρ s) k) := (by (first | rw [if_pos (show k < ((ρ s).size : Int) - 1 by omega)] | rw [if_neg (show ¬ k < ((ρ s).size : Int) - 1 by omega)]); unfold termT; (first | rw [if_pos (show 0 < k by omega), if_pos (show 0 < k by omega)] | rw [if_neg (show ¬ 0 < k by omega), if_neg (show ¬ 0 < k by omega)]); (first | rw [if_pos (show 1 < k by omega)] | rw [if_neg (show ¬ 1 < k by omega)]); (first | rw [if_pos (show cf (ρ s) k ≠ 1 ∨ k = 0 by omega)] | rw [if_neg (show ¬ (cf (ρ s) k ≠ 1 ∨ k = 0) by omega)]); simp); rw [e]; exact hμ3.1, (hm.2.trans hμ3.2)⟩)
                    · exact absurd c89 (by omega)
                  · exact absurd c78 (by omega)
                · skip
                  refine v_aload hx DX12_tellsPolynomial_71 3 rfl ?_
                  refine v_push hx DX12_tellsPolynomial_72 ?_
                  refine v_cVv hx DX12_tellsPolynomial_74 CVRX12_165 [iv 42] (r_says l G Λ sz μ3 hR hμ3.1 (by first | omega | (simp only [List.length_append, List.length_cons, List.length_nil]; omega))) hR.o rfl rfl (Nat.le_of_ble_eq_true rfl) (by decide) ⟨Nat.le_refl _, Nat.le_refl _⟩ (fun μ5 hμ5 => ?_)
                  refine v_iload hx DX12_tellsPolynomial_77 2 rfl ?_
                  refine v_if_le hx DX12_tellsPolynomial_78 (by omega) (fun c78 => ?_) (fun c78 => ?_)
                  · exact absurd c78 (by omega)
                  · skip
                    refine v_aload hx DX12_tellsPolynomial_81 3 rfl ?_
                    refine v_push hx DX12_tellsPolynomial_82 ?_
                    refine v_cVv hx DX12_tellsPolynomial_84 CVRX12_165 [iv 120] (r_says l G Λ sz μ5 hR hμ5.1 (by first | omega | (simp only [List.length_append, List.length_cons, List.length_nil]; omega))) hR.o rfl rfl (Nat.le_of_ble_eq_true rfl) (by decide) ⟨Nat.le_refl _, Nat.le_refl _⟩ (fun μ7 hμ7 => ?_)
                    refine v_iload hx DX12_tellsPolynomial_87 2 rfl ?_
                    refine v_push hx DX12_tellsPolynomial_88 ?_
                    refine v_icmp_le hx DX12_tellsPolynomial_89 (by omega) (by decide) (fun c89 => ?_) (fun c89 => ?_)
                    · skip
                      refine v_iinc hx DX12_tellsPolynomial_103 2 rfl [(3, iv (k + (-1))), (2, iv 0), (4, iv (cf (ρ s) k)), (0, .ref ν), (1, iv (s : Int))] rfl (by decide) ?_
                      refine v_goto hx DX12_tellsPolynomial_106 ?_
                      exact v_sub [0, 3, 4, 1] _ rfl (ih (k + (-1)) 0 (C ++ ((if k < ((ρ s).size : Int) - 1 then [43] else []) ++ termT (cf (ρ s) k) k)) μ7 (by omega) (by omega) (by omega) (by rw [show (k + (-1) + 1).toNat = k.toNat by omega, ← hC, hp1, if_neg (fun q => c27 (cf_zero.mpr q))]; simp only [List.append_assoc]) (by rw [show k + (-1) + 1 = k by omega]; simp only [List.length_append]; have : (if k < ((ρ s).size : Int) - 1 then [(43 : Int)] else []).length ≤ 1 := (by split <;> simp); omega) ⟨by have e : C ++ ((if k < ((ρ s).size : Int) - 1 then [43] else []) ++ termT (cf (ρ s) k) k) = C ++ numT (cf (ρ s) k) ++ [42] ++ [120] := (by (first | rw [if_pos (show k < ((ρ s).size : Int) - 1 by omega)] | rw [if_neg (show ¬ k < ((ρ s).size : Int) - 1 by omega)]); unfold termT; (first | rw [if_pos (show 0 < k by omega), if_pos (show 0 < k by omega)] | rw [if_neg (show ¬ 0 < k by omega), if_neg (show ¬ 0 < k by omega)]); (first | rw [if_pos (show 1 < k by omega)] | rw [if_neg (show ¬ 1 < k by omega)]); (first | rw [if_pos (show cf (ρ s) k ≠ 1 ∨ k = 0 by omega)] | rw [if_neg (show ¬ (cf (ρ s) k ≠ 1 ∨ k = 0) by omega)]); simp); rw [e]; exact hμ7.1, (((hm.2.trans hμ3.2).trans hμ5.2).trans hμ7.2)⟩)
                    · skip
                      refine v_aload hx DX12_tellsPolynomial_92 3 rfl ?_
                      refine v_push hx DX12_tellsPolynomial_93 ?_
                      refine v_cVv hx DX12_tellsPolynomial_95 CVRX12_165 [iv 94] (r_says l G Λ sz μ7 hR hμ7.1 (by first | omega | (simp only [List.length_append, List.length_cons, List.length_nil]; omega))) hR.o rfl rfl (Nat.le_of_ble_eq_true rfl) (by decide) ⟨Nat.le_refl _, Nat.le_refl _⟩ (fun μ9 hμ9 => ?_)
                      refine v_aload hx DX12_tellsPolynomial_98 3 rfl ?_
                      refine v_iload hx DX12_tellsPolynomial_99 2 rfl ?_
                      refine v_cVv hx DX12_tellsPolynomial_100 CVRX12_168 [iv k] (r_figures l G Λ sz μ9 hR hμ9.1 (by omega) (by first | omega | (simp only [List.length_append, List.length_cons, List.length_nil]; omega))) hR.o rfl rfl (Nat.le_of_ble_eq_true rfl) (by decide) ⟨Nat.le_refl _, Nat.le_refl _⟩ (fun μ11 hμ11 => ?_)
                      refine v_iinc hx DX12_tellsPolynomial_103 2 rfl [(3, iv (k + (-1))), (2, iv 0), (4, iv (cf (ρ s) k)), (0, .ref ν), (1, iv (s : Int))] rfl (by decide) ?_
                      refine v_goto hx DX12_tellsPolynomial_106 ?_
                      exact v_sub [0, 3, 4, 1] _ rfl (ih (k + (-1)) 0 (C ++ ((if k < ((ρ s).size : Int) - 1 then [43] else []) ++ termT (cf (ρ s) k) k)) μ11 (by omega) (by omega) (by omega) (by rw [show (k + (-1) + 1).toNat = k.toNat by omega, ← hC, hp1, if_neg (fun q => c27 (cf_zero.mpr q))]; simp only [List.append_assoc]) (by rw [show k + (-1) + 1 = k by omega]; simp only [List.length_append]; have : (if k < ((ρ s).size : Int) - 1 then [(43 : Int)] else []).length ≤ 1 := (by split <;> simp); omega) ⟨by have e : C ++ ((if k < ((ρ s).size : Int) - 1 then [43] else []) ++ termT (cf (ρ s) k) k) = C ++ numT (cf (ρ s) k) ++ [42] ++ [120] ++ [94] ++ numT k := (by (first | rw [if_pos (show k < ((ρ s).size : Int) - 1 by omega)] | rw [if_neg (show ¬ k < ((ρ s).size : Int) - 1 by omega)]); unfold termT; (first | rw [if_pos (show 0 < k by omega), if_pos (show 0 < k by omega)] | rw [if_neg (show ¬ 0 < k by omega), if_neg (show ¬ 0 < k by omega)]); (first | rw [if_pos (show 1 < k by omega)] | rw [if_neg (show ¬ 1 < k by omega)]); (first | rw [if_pos (show cf (ρ s) k ≠ 1 ∨ k = 0 by omega)] | rw [if_neg (show ¬ (cf (ρ s) k ≠ 1 ∨ k = 0) by omega)]); simp); rw [e]; exact hμ11.1, (((((hm.2.trans hμ3.2).trans hμ5.2).trans hμ7.2).trans hμ9.2).trans hμ11.2)⟩)
            · skip
              refine v_iload hx DX12_tellsPolynomial_51 2 rfl ?_
              refine v_if_ne hx DX12_tellsPolynomial_52 (by omega) (fun c52 => ?_) (fun c52 => ?_)
              · skip
                refine v_iload hx DX12_tellsPolynomial_61 1 rfl ?_
                refine v_push hx DX12_tellsPolynomial_63 ?_
                refine v_icmp_eq hx DX12_tellsPolynomial_64 (by omega) (by decide) (fun c64 => ?_) (fun c64 => ?_)
                · skip
                  refine v_iload hx DX12_tellsPolynomial_77 2 rfl ?_
                  refine v_if_le hx DX12_tellsPolynomial_78 (by omega) (fun c78 => ?_) (fun c78 => ?_)
                  · exact absurd c78 (by omega)
                  · skip
                    refine v_aload hx DX12_tellsPolynomial_81 3 rfl ?_
                    refine v_push hx DX12_tellsPolynomial_82 ?_
                    refine v_cVv hx DX12_tellsPolynomial_84 CVRX12_165 [iv 120] (r_says l G Λ sz m hR hm.1 (by first | omega | (simp only [List.length_append, List.length_cons, List.length_nil]; omega))) hR.o rfl rfl (Nat.le_of_ble_eq_true rfl) (by decide) ⟨Nat.le_refl _, Nat.le_refl _⟩ (fun μ13 hμ13 => ?_)
                    refine v_iload hx DX12_tellsPolynomial_87 2 rfl ?_
                    refine v_push hx DX12_tellsPolynomial_88 ?_
                    refine v_icmp_le hx DX12_tellsPolynomial_89 (by omega) (by decide) (fun c89 => ?_) (fun c89 => ?_)
                    · skip
                      refine v_iinc hx DX12_tellsPolynomial_103 2 rfl [(3, iv (k + (-1))), (2, iv 0), (4, iv (cf (ρ s) k)), (0, .ref ν), (1, iv (s : Int))] rfl (by decide) ?_
                      refine v_goto hx DX12_tellsPolynomial_106 ?_
                      exact v_sub [0, 3, 4, 1] _ rfl (ih (k + (-1)) 0 (C ++ ((if k < ((ρ s).size : Int) - 1 then [43] else []) ++ termT (cf (ρ s) k) k)) μ13 (by omega) (by omega) (by omega) (by rw [show (k + (-1) + 1).toNat = k.toNat by omega, ← hC, hp1, if_neg (fun q => c27 (cf_zero.mpr q))]; simp only [List.append_assoc]) (by rw [show k + (-1) + 1 = k by omega]; simp only [List.length_append]; have : (if k < ((ρ s).size : Int) - 1 then [(43 : Int)] else []).length ≤ 1 := (by split <;> simp); omega) ⟨by have e : C ++ ((if k < ((ρ s).size : Int) - 1 then [43] else []) ++ termT (cf (ρ s) k) k) = C ++ [120] := (by (first | rw [if_pos (show k < ((ρ s).size : Int) - 1 by omega)] | rw [if_neg (show ¬ k < ((ρ s).size : Int) - 1 by omega)]); unfold termT; (first | rw [if_pos (show 0 < k by omega), if_pos (show 0 < k by omega)] | rw [if_neg (show ¬ 0 < k by omega), if_neg (show ¬ 0 < k by omega)]); (first | rw [if_pos (show 1 < k by omega)] | rw [if_neg (show ¬ 1 < k by omega)]); (first | rw [if_pos (show cf (ρ s) k ≠ 1 ∨ k = 0 by omega)] | rw [if_neg (show ¬ (cf (ρ s) k ≠ 1 ∨ k = 0) by omega)]); simp); rw [e]; exact hμ13.1, (hm.2.trans hμ13.2)⟩)
                    · skip
                      refine v_aload hx DX12_tellsPolynomial_92 3 rfl ?_
                      refine v_push hx DX12_tellsPolynomial_93 ?_
                      refine v_cVv hx DX12_tellsPolynomial_95 CVRX12_165 [iv 94] (r_says l G Λ sz μ13 hR hμ13.1 (by first | omega | (simp only [List.length_append, List.length_cons, List.length_nil]; omega))) hR.o rfl rfl (Nat.le_of_ble_eq_true rfl) (by decide) ⟨Nat.le_refl _, Nat.le_refl _⟩ (fun μ15 hμ15 => ?_)
                      refine v_aload hx DX12_tellsPolynomial_98 3 rfl ?_
                      refine v_iload hx DX12_tellsPolynomial_99 2 rfl ?_
                      refine v_cVv hx DX12_tellsPolynomial_100 CVRX12_168 [iv k] (r_figures l G Λ sz μ15 hR hμ15.1 (by omega) (by first | omega | (simp only [List.length_append, List.length_cons, List.length_nil]; omega))) hR.o rfl rfl (Nat.le_of_ble_eq_true rfl) (by decide) ⟨Nat.le_refl _, Nat.le_refl _⟩ (fun μ17 hμ17 => ?_)
                      refine v_iinc hx DX12_tellsPolynomial_103 2 rfl [(3, iv (k + (-1))), (2, iv 0), (4, iv (cf (ρ s) k)), (0, .ref ν), (1, iv (s : Int))] rfl (by decide) ?_
                      refine v_goto hx DX12_tellsPolynomial_106 ?_
                      exact v_sub [0, 3, 4, 1] _ rfl (ih (k + (-1)) 0 (C ++ ((if k < ((ρ s).size : Int) - 1 then [43] else []) ++ termT (cf (ρ s) k) k)) μ17 (by omega) (by omega) (by omega) (by rw [show (k + (-1) + 1).toNat = k.toNat by omega, ← hC, hp1, if_neg (fun q => c27 (cf_zero.mpr q))]; simp only [List.append_assoc]) (by rw [show k + (-1) + 1 = k by omega]; simp only [List.length_append]; have : (if k < ((ρ s).size : Int) - 1 then [(43 : Int)] else []).length ≤ 1 := (by split <;> simp); omega) ⟨by have e : C ++ ((if k < ((ρ s).size : Int) - 1 then [43] else []) ++ termT (cf (ρ s) k) k) = C ++ [120] ++ [94] ++ numT k := (by (first | rw [if_pos (show k < ((ρ s).size : Int) - 1 by omega)] | rw [if_neg (show ¬ k < ((ρ s).size : Int) - 1 by omega)]); unfold termT; (first | rw [if_pos (show 0 < k by omega), if_pos (show 0 < k by omega)] | rw [if_neg (show ¬ 0 < k by omega), if_neg (show ¬ 0 < k by omega)]); (first | rw [if_pos (show 1 < k by omega)] | rw [if_neg (show ¬ 1 < k by omega)]); (first | rw [if_pos (show cf (ρ s) k ≠ 1 ∨ k = 0 by omega)] | rw [if_neg (show ¬ (cf (ρ s) k ≠ 1 ∨ k = 0) by omega)]); simp); rw [e]; exact hμ17.1, (((hm.2.trans hμ13.2).trans hμ15.2).trans hμ17.2)⟩)
                · exact absurd c64 (by omega)
              · skip
                refine v_aload hx DX12_tellsPolynomial_55 3 rfl ?_
                refine v_iload hx DX12_tellsPolynomial_56 1 rfl ?_
                refine v_cVv hx DX12_tellsPolynomial_58 CVRX12_168 [iv (cf (ρ s) k)] (r_figures l G Λ sz m hR hm.1 (by omega) (by first | omega | (simp only [List.length_append, List.length_cons, List.length_nil]; omega))) hR.o rfl rfl (Nat.le_of_ble_eq_true rfl) (by decide) ⟨Nat.le_refl _, Nat.le_refl _⟩ (fun μ19 hμ19 => ?_)
                refine v_iload hx DX12_tellsPolynomial_61 1 rfl ?_
                refine v_push hx DX12_tellsPolynomial_63 ?_
                refine v_icmp_eq hx DX12_tellsPolynomial_64 (by omega) (by decide) (fun c64 => ?_) (fun c64 => ?_)
                · skip
                  refine v_iload hx DX12_tellsPolynomial_77 2 rfl ?_
                  refine v_if_le hx DX12_tellsPolynomial_78 (by omega) (fun c78 => ?_) (fun c78 => ?_)
                  · skip
                    refine v_iload hx DX12_tellsPolynomial_87 2 rfl ?_
                    refine v_push hx DX12_tellsPolynomial_88 ?_
                    refine v_icmp_le hx DX12_tellsPolynomial_89 (by omega) (by decide) (fun c89 => ?_) (fun c89 => ?_)
                    · skip
                      refine v_iinc hx DX12_tellsPolynomial_103 2 rfl [(3, iv (k + (-1))), (2, iv 0), (4, iv (cf (ρ s) k)), (0, .ref ν), (1, iv (s : Int))] rfl (by decide) ?_
                      refine v_goto hx DX12_tellsPolynomial_106 ?_
                      exact v_sub [0, 3, 4, 1] _ rfl (ih (k + (-1)) 0 (C ++ ((if k < ((ρ s).size : Int) - 1 then [43] else []) ++ termT (cf (ρ s) k) k)) μ19 (by omega) (by omega) (by omega) (by rw [show (k + (-1) + 1).toNat = k.toNat by omega, ← hC, hp1, if_neg (fun q => c27 (cf_zero.mpr q))]; simp only [List.append_assoc]) (by rw [show k + (-1) + 1 = k by omega]; simp only [List.length_append]; have : (if k < ((ρ s).size : Int) - 1 then [(43 : Int)] else []).length ≤ 1 := (by split <;> simp); omega) ⟨by have e : C ++ ((if k < ((ρ s).size : Int) - 1 then [43] else []) ++ termT (cf (ρ s) k) k) = C ++ numT (cf (ρ s) k) := (by (first | rw [if_pos (show k < ((ρ s).size : Int) - 1 by omega)] | rw [if_neg (show ¬ k < ((ρ s).size : Int) - 1 by omega)]); unfold termT; (first | rw [if_pos (show 0 < k by omega), if_pos (show 0 < k by omega)] | rw [if_neg (show ¬ 0 < k by omega), if_neg (show ¬ 0 < k by omega)]); (first | rw [if_pos (show 1 < k by omega)] | rw [if_neg (show ¬ 1 < k by omega)]); (first | rw [if_pos (show cf (ρ s) k ≠ 1 ∨ k = 0 by omega)] | rw [if_neg (show ¬ (cf (ρ s) k ≠ 1 ∨ k = 0) by omega)]); simp); rw [e]; exact hμ19.1, (hm.2.trans hμ19.2)⟩)
                    · exact absurd c89 (by omega)
                  · exact absurd c78 (by omega)
                · exact absurd c64 (by omega)
          · skip
            refine v_aload hx DX12_tellsPolynomial_37 2 rfl ?_
            refine v_push hx DX12_tellsPolynomial_38 ?_
            refine v_cVv hx DX12_tellsPolynomial_40 CVRX12_165 [iv 43] (r_says l G Λ sz m hR hm.1 (by first | omega | (simp only [List.length_append, List.length_cons, List.length_nil]; omega))) hR.o rfl rfl (Nat.le_of_ble_eq_true rfl) (by decide) ⟨Nat.le_refl _, Nat.le_refl _⟩ (fun μ21 hμ21 => ?_)
            refine v_push hx DX12_tellsPolynomial_43 ?_
            refine v_istore hx DX12_tellsPolynomial_44 [(2, iv 0), (4, iv (cf (ρ s) k)), (3, iv k), (0, .ref ν), (1, iv (s : Int))] rfl (by decide) ?_
            refine v_iload hx DX12_tellsPolynomial_45 1 rfl ?_
            refine v_push hx DX12_tellsPolynomial_47 ?_
            refine v_icmp_ne hx DX12_tellsPolynomial_48 (by omega) (by decide) (fun c48 => ?_) (fun c48 => ?_)
            · skip
              refine v_aload hx DX12_tellsPolynomial_55 3 rfl ?_
              refine v_iload hx DX12_tellsPolynomial_56 1 rfl ?_
              refine v_cVv hx DX12_tellsPolynomial_58 CVRX12_168 [iv (cf (ρ s) k)] (r_figures l G Λ sz μ21 hR hμ21.1 (by omega) (by first | omega | (simp only [List.length_append, List.length_cons, List.length_nil]; omega))) hR.o rfl rfl (Nat.le_of_ble_eq_true rfl) (by decide) ⟨Nat.le_refl _, Nat.le_refl _⟩ (fun μ23 hμ23 => ?_)
              refine v_iload hx DX12_tellsPolynomial_61 1 rfl ?_
              refine v_push hx DX12_tellsPolynomial_63 ?_
              refine v_icmp_eq hx DX12_tellsPolynomial_64 (by omega) (by decide) (fun c64 => ?_) (fun c64 => ?_)
              · exact absurd c64 (by omega)
              · skip
                refine v_iload hx DX12_tellsPolynomial_67 2 rfl ?_
                refine v_if_le hx DX12_tellsPolynomial_68 (by omega) (fun c68 => ?_) (fun c68 => ?_)
                · skip
                  refine v_iload hx DX12_tellsPolynomial_77 2 rfl ?_
                  refine v_if_le hx DX12_tellsPolynomial_78 (by omega) (fun c78 => ?_) (fun c78 => ?_)
                  · skip
                    refine v_iload hx DX12_tellsPolynomial_87 2 rfl ?_
                    refine v_push hx DX12_tellsPolynomial_88 ?_
                    refine v_icmp_le hx DX12_tellsPolynomial_89 (by omega) (by decide) (fun c89 => ?_) (fun c89 => ?_)
                    · skip
                      refine v_iinc hx DX12_tellsPolynomial_103 2 rfl [(3, iv (k + (-1))), (2, iv 0), (4, iv (cf (ρ s) k)), (0, .ref ν), (1, iv (s : Int))] rfl (by decide) ?_
                      refine v_goto hx DX12_tellsPolynomial_106 ?_
                      exact v_sub [0, 3, 4, 1] _ rfl (ih (k + (-1)) 0 (C ++ ((if k < ((ρ s).size : Int) - 1 then [43] else []) ++ termT (cf (ρ s) k) k)) μ23 (by omega) (by omega) (by omega) (by rw [show (k + (-1) + 1).toNat = k.toNat by omega, ← hC, hp1, if_neg (fun q => c27 (cf_zero.mpr q))]; simp only [List.append_assoc]) (by rw [show k + (-1) + 1 = k by omega]; simp only [List.length_append]; have : (if k < ((ρ s).size : Int) - 1 then [(43 : Int)] else []).length ≤ 1 := (by split <;> simp); omega) ⟨by have e : C ++ ((if k < ((ρ s).size : Int) - 1 then [43] else []) ++ termT (cf (ρ s) k) k) = C ++ [43] ++ numT (cf (ρ s) k) := (by (first | rw [if_pos (show k < ((ρ s).size : Int) - 1 by omega)] | rw [if_neg (show ¬ k < ((ρ s).size : Int) - 1 by omega)]); unfold termT; (first | rw [if_pos (show 0 < k by omega), if_pos (show 0 < k by omega)] | rw [if_neg (show ¬ 0 < k by omega), if_neg (show ¬ 0 < k by omega)]); (first | rw [if_pos (show 1 < k by omega)] | rw [if_neg (show ¬ 1 < k by omega)]); (first | rw [if_pos (show cf (ρ s) k ≠ 1 ∨ k = 0 by omega)] | rw [if_neg (show ¬ (cf (ρ s) k ≠ 1 ∨ k = 0) by omega)]); simp); rw [e]; exact hμ23.1, ((hm.2.trans hμ21.2).trans hμ23.2)⟩)
                    · exact absurd c89 (by omega)
                  · exact absurd c78 (by omega)
                · skip
                  refine v_aload hx DX12_tellsPolynomial_71 3 rfl ?_
                  refine v_push hx DX12_tellsPolynomial_72 ?_
                  refine v_cVv hx DX12_tellsPolynomial_74 CVRX12_165 [iv 42] (r_says l G Λ sz μ23 hR hμ23.1 (by first | omega | (simp only [List.length_append, List.length_cons, List.length_nil]; omega))) hR.o rfl rfl (Nat.le_of_ble_eq_true rfl) (by decide) ⟨Nat.le_refl _, Nat.le_refl _⟩ (fun μ25 hμ25 => ?_)
                  refine v_iload hx DX12_tellsPolynomial_77 2 rfl ?_
                  refine v_if_le hx DX12_tellsPolynomial_78 (by omega) (fun c78 => ?_) (fun c78 => ?_)
                  · exact absurd c78 (by omega)
                  · skip
                    refine v_aload hx DX12_tellsPolynomial_81 3 rfl ?_
                    refine v_push hx DX12_tellsPolynomial_82 ?_
                    refine v_cVv hx DX12_tellsPolynomial_84 CVRX12_165 [iv 120] (r_says l G Λ sz μ25 hR hμ25.1 (by first | omega | (simp only [List.length_append, List.length_cons, List.length_nil]; omega))) hR.o rfl rfl (Nat.le_of_ble_eq_true rfl) (by decide) ⟨Nat.le_refl _, Nat.le_refl _⟩ (fun μ27 hμ27 => ?_)
                    refine v_iload hx DX12_tellsPolynomial_87 2 rfl ?_
                    refine v_push hx DX12_tellsPolynomial_88 ?_
                    refine v_icmp_le hx DX12_tellsPolynomial_89 (by omega) (by decide) (fun c89 => ?_) (fun c89 => ?_)
                    · skip
                      refine v_iinc hx DX12_tellsPolynomial_103 2 rfl [(3, iv (k + (-1))), (2, iv 0), (4, iv (cf (ρ s) k)), (0, .ref ν), (1, iv (s : Int))] rfl (by decide) ?_
                      refine v_goto hx DX12_tellsPolynomial_106 ?_
                      exact v_sub [0, 3, 4, 1] _ rfl (ih (k + (-1)) 0 (C ++ ((if k < ((ρ s).size : Int) - 1 then [43] else []) ++ termT (cf (ρ s) k) k)) μ27 (by omega) (by omega) (by omega) (by rw [show (k + (-1) + 1).toNat = k.toNat by omega, ← hC, hp1, if_neg (fun q => c27 (cf_zero.mpr q))]; simp only [List.append_assoc]) (by rw [show k + (-1) + 1 = k by omega]; simp only [List.length_append]; have : (if k < ((ρ s).size : Int) - 1 then [(43 : Int)] else []).length ≤ 1 := (by split <;> simp); omega) ⟨by have e : C ++ ((if k < ((ρ s).size : Int) - 1 then [43] else []) ++ termT (cf (ρ s) k) k) = C ++ [43] ++ numT (cf (ρ s) k) ++ [42] ++ [120] := (by (first | rw [if_pos (show k < ((ρ s).size : Int) - 1 by omega)] | rw [if_neg (show ¬ k < ((ρ s).size : Int) - 1 by omega)]); unfold termT; (first | rw [if_pos (show 0 < k by omega), if_pos (show 0 < k by omega)] | rw [if_neg (show ¬ 0 < k by omega), if_neg (show ¬ 0 < k by omega)]); (first | rw [if_pos (show 1 < k by omega)] | rw [if_neg (show ¬ 1 < k by omega)]); (first | rw [if_pos (show cf (ρ s) k ≠ 1 ∨ k = 0 by omega)] | rw [if_neg (show ¬ (cf (ρ s) k ≠ 1 ∨ k = 0) by omega)]); simp); rw [e]; exact hμ27.1, ((((hm.2.trans hμ21.2).trans hμ23.2).trans hμ25.2).trans hμ27.2)⟩)
                    · skip
                      refine v_aload hx DX12_tellsPolynomial_92 3 rfl ?_
                      refine v_push hx DX12_tellsPolynomial_93 ?_
                      refine v_cVv hx DX12_tellsPolynomial_95 CVRX12_165 [iv 94] (r_says l G Λ sz μ27 hR hμ27.1 (by first | omega | (simp only [List.length_append, List.length_cons, List.length_nil]; omega))) hR.o rfl rfl (Nat.le_of_ble_eq_true rfl) (by decide) ⟨Nat.le_refl _, Nat.le_refl _⟩ (fun μ29 hμ29 => ?_)
                      refine v_aload hx DX12_tellsPolynomial_98 3 rfl ?_
                      refine v_iload hx DX12_tellsPolynomial_99 2 rfl ?_
                      refine v_cVv hx DX12_tellsPolynomial_100 CVRX12_168 [iv k] (r_figures l G Λ sz μ29 hR hμ29.1 (by omega) (by first | omega | (simp only [List.length_append, List.length_cons, List.length_nil]; omega))) hR.o rfl rfl (Nat.le_of_ble_eq_true rfl) (by decide) ⟨Nat.le_refl _, Nat.le_refl _⟩ (fun μ31 hμ31 => ?_)
                      refine v_iinc hx DX12_tellsPolynomial_103 2 rfl [(3, iv (k + (-1))), (2, iv 0), (4, iv (cf (ρ s) k)), (0, .ref ν), (1, iv (s : Int))] rfl (by decide) ?_
                      refine v_goto hx DX12_tellsPolynomial_106 ?_
                      exact v_sub [0, 3, 4, 1] _ rfl (ih (k + (-1)) 0 (C ++ ((if k < ((ρ s).size : Int) - 1 then [43] else []) ++ termT (cf (ρ s) k) k)) μ31 (by omega) (by omega) (by omega) (by rw [show (k + (-1) + 1).toNat = k.toNat by omega, ← hC, hp1, if_neg (fun q => c27 (cf_zero.mpr q))]; simp only [List.append_assoc]) (by rw [show k + (-1) + 1 = k by omega]; simp only [List.length_append]; have : (if k < ((ρ s).size : Int) - 1 then [(43 : Int)] else []).length ≤ 1 := (by split <;> simp); omega) ⟨by have e : C ++ ((if k < ((ρ s).size : Int) - 1 then [43] else []) ++ termT (cf (ρ s) k) k) = C ++ [43] ++ numT (cf (ρ s) k) ++ [42] ++ [120] ++ [94] ++ numT k := (by (first | rw [if_pos (show k < ((ρ s).size : Int) - 1 by omega)] | rw [if_neg (show ¬ k < ((ρ s).size : Int) - 1 by omega)]); unfold termT; (first | rw [if_pos (show 0 < k by omega), if_pos (show 0 < k by omega)] | rw [if_neg (show ¬ 0 < k by omega), if_neg (show ¬ 0 < k by omega)]); (first | rw [if_pos (show 1 < k by omega)] | rw [if_neg (show ¬ 1 < k by omega)]); (first | rw [if_pos (show cf (ρ s) k ≠ 1 ∨ k = 0 by omega)] | rw [if_neg (show ¬ (cf (ρ s) k ≠ 1 ∨ k = 0) by omega)]); simp); rw [e]; exact hμ31.1, ((((((hm.2.trans hμ21.2).trans hμ23.2).trans hμ25.2).trans hμ27.2).trans hμ29.2).trans hμ31.2)⟩)
            · skip
              refine v_iload hx DX12_tellsPolynomial_51 2 rfl ?_
              refine v_if_ne hx DX12_tellsPolynomial_52 (by omega) (fun c52 => ?_) (fun c52 => ?_)
              · skip
                refine v_iload hx DX12_tellsPolynomial_61 1 rfl ?_
                refine v_push hx DX12_tellsPolynomial_63 ?_
                refine v_icmp_eq hx DX12_tellsPolynomial_64 (by omega) (by decide) (fun c64 => ?_) (fun c64 => ?_)
                · skip
                  refine v_iload hx DX12_tellsPolynomial_77 2 rfl ?_
                  refine v_if_le hx DX12_tellsPolynomial_78 (by omega) (fun c78 => ?_) (fun c78 => ?_)
                  · exact absurd c78 (by omega)
                  · skip
                    refine v_aload hx DX12_tellsPolynomial_81 3 rfl ?_
                    refine v_push hx DX12_tellsPolynomial_82 ?_
                    refine v_cVv hx DX12_tellsPolynomial_84 CVRX12_165 [iv 120] (r_says l G Λ sz μ21 hR hμ21.1 (by first | omega | (simp only [List.length_append, List.length_cons, List.length_nil]; omega))) hR.o rfl rfl (Nat.le_of_ble_eq_true rfl) (by decide) ⟨Nat.le_refl _, Nat.le_refl _⟩ (fun μ33 hμ33 => ?_)
                    refine v_iload hx DX12_tellsPolynomial_87 2 rfl ?_
                    refine v_push hx DX12_tellsPolynomial_88 ?_
                    refine v_icmp_le hx DX12_tellsPolynomial_89 (by omega) (by decide) (fun c89 => ?_) (fun c89 => ?_)
                    · skip
                      refine v_iinc hx DX12_tellsPolynomial_103 2 rfl [(3, iv (k + (-1))), (2, iv 0), (4, iv (cf (ρ s) k)), (0, .ref ν), (1, iv (s : Int))] rfl (by decide) ?_
                      refine v_goto hx DX12_tellsPolynomial_106 ?_
                      exact v_sub [0, 3, 4, 1] _ rfl (ih (k + (-1)) 0 (C ++ ((if k < ((ρ s).size : Int) - 1 then [43] else []) ++ termT (cf (ρ s) k) k)) μ33 (by omega) (by omega) (by omega) (by rw [show (k + (-1) + 1).toNat = k.toNat by omega, ← hC, hp1, if_neg (fun q => c27 (cf_zero.mpr q))]; simp only [List.append_assoc]) (by rw [show k + (-1) + 1 = k by omega]; simp only [List.length_append]; have : (if k < ((ρ s).size : Int) - 1 then [(43 : Int)] else []).length ≤ 1 := (by split <;> simp); omega) ⟨by have e : C ++ ((if k < ((ρ s).size : Int) - 1 then [43] else []) ++ termT (cf (ρ s) k) k) = C ++ [43] ++ [120] := (by (first | rw [if_pos (show k < ((ρ s).size : Int) - 1 by omega)] | rw [if_neg (show ¬ k < ((ρ s).size : Int) - 1 by omega)]); unfold termT; (first | rw [if_pos (show 0 < k by omega), if_pos (show 0 < k by omega)] | rw [if_neg (show ¬ 0 < k by omega), if_neg (show ¬ 0 < k by omega)]); (first | rw [if_pos (show 1 < k by omega)] | rw [if_neg (show ¬ 1 < k by omega)]); (first | rw [if_pos (show cf (ρ s) k ≠ 1 ∨ k = 0 by omega)] | rw [if_neg (show ¬ (cf (ρ s) k ≠ 1 ∨ k = 0) by omega)]); simp); rw [e]; exact hμ33.1, ((hm.2.trans hμ21.2).trans hμ33.2)⟩)
                    · skip
                      refine v_aload hx DX12_tellsPolynomial_92 3 rfl ?_
                      refine v_push hx DX12_tellsPolynomial_93 ?_
                      refine v_cVv hx DX12_tellsPolynomial_95 CVRX12_165 [iv 94] (r_says l G Λ sz μ33 hR hμ33.1 (by first | omega | (simp only [List.length_append, List.length_cons, List.length_nil]; omega))) hR.o rfl rfl (Nat.le_of_ble_eq_true rfl) (by decide) ⟨Nat.le_refl _, Nat.le_refl _⟩ (fun μ35 hμ35 => ?_)
                      refine v_aload hx DX12_tellsPolynomial_98 3 rfl ?_
                      refine v_iload hx DX12_tellsPolynomial_99 2 rfl ?_
                      refine v_cVv hx DX12_tellsPolynomial_100 CVRX12_168 [iv k] (r_figures l G Λ sz μ35 hR hμ35.1 (by omega) (by first | omega | (simp only [List.length_append, List.length_cons, List.length_nil]; omega))) hR.o rfl rfl (Nat.le_of_ble_eq_true rfl) (by decide) ⟨Nat.le_refl _, Nat.le_refl _⟩ (fun μ37 hμ37 => ?_)
                      refine v_iinc hx DX12_tellsPolynomial_103 2 rfl [(3, iv (k + (-1))), (2, iv 0), (4, iv (cf (ρ s) k)), (0, .ref ν), (1, iv (s : Int))] rfl (by decide) ?_
                      refine v_goto hx DX12_tellsPolynomial_106 ?_
                      exact v_sub [0, 3, 4, 1] _ rfl (ih (k + (-1)) 0 (C ++ ((if k < ((ρ s).size : Int) - 1 then [43] else []) ++ termT (cf (ρ s) k) k)) μ37 (by omega) (by omega) (by omega) (by rw [show (k + (-1) + 1).toNat = k.toNat by omega, ← hC, hp1, if_neg (fun q => c27 (cf_zero.mpr q))]; simp only [List.append_assoc]) (by rw [show k + (-1) + 1 = k by omega]; simp only [List.length_append]; have : (if k < ((ρ s).size : Int) - 1 then [(43 : Int)] else []).length ≤ 1 := (by split <;> simp); omega) ⟨by have e : C ++ ((if k < ((ρ s).size : Int) - 1 then [43] else []) ++ termT (cf (ρ s) k) k) = C ++ [43] ++ [120] ++ [94] ++ numT k := (by (first | rw [if_pos (show k < ((ρ s).size : Int) - 1 by omega)] | rw [if_neg (show ¬ k < ((ρ s).size : Int) - 1 by omega)]); unfold termT; (first | rw [if_pos (show 0 < k by omega), if_pos (show 0 < k by omega)] | rw [if_neg (show ¬ 0 < k by omega), if_neg (show ¬ 0 < k by omega)]); (first | rw [if_pos (show 1 < k by omega)] | rw [if_neg (show ¬ 1 < k by omega)]); (first | rw [if_pos (show cf (ρ s) k ≠ 1 ∨ k = 0 by omega)] | rw [if_neg (show ¬ (cf (ρ s) k ≠ 1 ∨ k = 0) by omega)]); simp); rw [e]; exact hμ37.1, ((((hm.2.trans hμ21.2).trans hμ33.2).trans hμ35.2).trans hμ37.2)⟩)
                · exact absurd c64 (by omega)
              · skip
                refine v_aload hx DX12_tellsPolynomial_55 3 rfl ?_
                refine v_iload hx DX12_tellsPolynomial_56 1 rfl ?_
                refine v_cVv hx DX12_tellsPolynomial_58 CVRX12_168 [iv (cf (ρ s) k)] (r_figures l G Λ sz μ21 hR hμ21.1 (by omega) (by first | omega | (simp only [List.length_append, List.length_cons, List.length_nil]; omega))) hR.o rfl rfl (Nat.le_of_ble_eq_true rfl) (by decide) ⟨Nat.le_refl _, Nat.le_refl _⟩ (fun μ39 hμ39 => ?_)
                refine v_iload hx DX12_tellsPolynomial_61 1 rfl ?_
                refine v_push hx DX12_tellsPolynomial_63 ?_
                refine v_icmp_eq hx DX12_tellsPolynomial_64 (by omega) (by decide) (fun c64 => ?_) (fun c64 => ?_)
                · skip
                  refine v_iload hx DX12_tellsPolynomial_77 2 rfl ?_
                  refine v_if_le hx DX12_tellsPolynomial_78 (by omega) (fun c78 => ?_) (fun c78 => ?_)
                  · skip
                    refine v_iload hx DX12_tellsPolynomial_87 2 rfl ?_
                    refine v_push hx DX12_tellsPolynomial_88 ?_
                    refine v_icmp_le hx DX12_tellsPolynomial_89 (by omega) (by decide) (fun c89 => ?_) (fun c89 => ?_)
                    · skip
                      refine v_iinc hx DX12_tellsPolynomial_103 2 rfl [(3, iv (k + (-1))), (2, iv 0), (4, iv (cf (ρ s) k)), (0, .ref ν), (1, iv (s : Int))] rfl (by decide) ?_
                      refine v_goto hx DX12_tellsPolynomial_106 ?_
                      exact v_sub [0, 3, 4, 1] _ rfl (ih (k + (-1)) 0 (C ++ ((if k < ((ρ s).size : Int) - 1 then [43] else []) ++ termT (cf (ρ s) k) k)) μ39 (by omega) (by omega) (by omega) (by rw [show (k + (-1) + 1).toNat = k.toNat by omega, ← hC, hp1, if_neg (fun q => c27 (cf_zero.mpr q))]; simp only [List.append_assoc]) (by rw [show k + (-1) + 1 = k by omega]; simp only [List.length_append]; have : (if k < ((ρ s).size : Int) - 1 then [(43 : Int)] else []).length ≤ 1 := (by split <;> simp); omega) ⟨by have e : C ++ ((if k < ((ρ s).size : Int) - 1 then [43] else []) ++ termT (cf (ρ s) k) k) = C ++ [43] ++ numT (cf (ρ s) k) := (by (first | rw [if_pos (show k < ((ρ s).size : Int) - 1 by omega)] | rw [if_neg (show ¬ k < ((ρ s).size : Int) - 1 by omega)]); unfold termT; (first | rw [if_pos (show 0 < k by omega), if_pos (show 0 < k by omega)] | rw [if_neg (show ¬ 0 < k by omega), if_neg (show ¬ 0 < k by omega)]); (first | rw [if_pos (show 1 < k by omega)] | rw [if_neg (show ¬ 1 < k by omega)]); (first | rw [if_pos (show cf (ρ s) k ≠ 1 ∨ k = 0 by omega)] | rw [if_neg (show ¬ (cf (ρ s) k ≠ 1 ∨ k = 0) by omega)]); simp); rw [e]; exact hμ39.1, ((hm.2.trans hμ21.2).trans hμ39.2)⟩)
                    · exact absurd c89 (by omega)
                  · exact absurd c78 (by omega)
                · exact absurd c64 (by omega)
        · skip
          refine v_goto hx DX12_tellsPolynomial_30 ?_
          refine v_iinc hx DX12_tellsPolynomial_103 1 rfl [(3, iv (k + (-1))), (4, iv (cf (ρ s) k)), (0, .ref ν), (1, iv (s : Int)), (2, iv u)] rfl (by decide) ?_
          refine v_goto hx DX12_tellsPolynomial_106 ?_
          exact v_sub [0, 2, 3, 4] _ rfl (ih (k + (-1)) u _ m (by omega) (by omega) (by have := fun e => htop e c27; omega) (by rw [show (k + (-1) + 1).toNat = k.toNat by omega, ← hC, hp1, if_pos (cf_zero.mp c27)]; rfl) (by have := lb_mono k; rw [show k + (-1) + 1 = k by omega]; omega) hm)
  refine v_push hx DX12_tellsPolynomial_0 ?_
  refine v_istore hx DX12_tellsPolynomial_1 [(2, iv 1), (0, .ref ν), (1, iv (s : Int))] rfl (by decide) ?_
  refine v_aload hx DX12_tellsPolynomial_2 1 rfl ?_
  refine v_iload hx DX12_tellsPolynomial_3 2 rfl ?_
  refine v_cVp hx DX12_tellsPolynomial_4 CVRX12_15 [iv (s : Int)] (r_degree l G Λ sz μ hR hw hs) hR.o rfl rfl (Nat.le_of_ble_eq_true rfl) (by decide) ⟨Nat.le_refl _, Nat.le_refl _⟩ ?_
  refine v_istore hx DX12_tellsPolynomial_7 [(3, iv (((ρ s).size : Int) - 1)), (2, iv 1), (0, .ref ν), (1, iv (s : Int))] rfl (by decide) ?_
  exact v_sub [0, 2, 3, 1] _ rfl (L8 100 (((ρ s).size : Int) - 1) 1 T μ (by omega) (by omega) (by omega) (by rw [show (((ρ s).size : Int) - 1 + 1).toNat = (ρ s).size by omega]) (by rw [show ((ρ s).size : Int) - 1 + 1 = (ρ s).size by omega]; exact hl) ⟨hT, FrN.rf⟩)
theorem r_tells (l : Launch) (G : Gl) (Λ : Lay) (sz : Nat) (μ : Mem) {ν : Nat} {ρ : Nat → PS} {f : Nat} (hR : refK Λ ν) (hw : RW μ ν ρ) (hf : f < 77) (sN : (ρ (2 * f)).size ≤ 7) (sD : (ρ (2 * f + 1)).size ≤ 5) : Sp l G yX12_tells cX12_tells 2 (some FieldType.int) 4 [.ref ν, iv (f : Int)] Λ sz μ (pI (fun z μ' => z = ((ftxt (ρ (2 * f)) (ρ (2 * f + 1))).length : Int) ∧ LA μ' ν (ftxt (ρ (2 * f)) (ρ (2 * f + 1))) ∧ FrT ν μ μ')) := by
  refine Sp.intro (by decide) (Nat.le_of_ble_eq_true rfl) (fun x hx hBD => ?_)
  refine v_lv [(0, .ref ν), (1, iv (f : Int))] rfl ?_
  have lN : lb (ρ (2 * f)).size ≤ 50 := lb_le (by omega)
  have lD : lb (ρ (2 * f + 1)).size ≤ 34 := lb_le5 (by omega)
  have tN := ptxt_len (p := (ρ (2 * f))) (by omega)
  have tD := ptxt_len (p := (ρ (2 * f + 1))) (by omega)
  refine v_aload hx DX12_tells_0 0 rfl ?_
  refine v_push hx DX12_tells_1 ?_
  refine v_pI hx DX12_tells_2 FPRX12_162 hR.o rfl (ki := 13) rfl (fun μ1 eμ1 => ?_)
  have h0 : LA μ1 ν [] ∧ FrT ν μ μ1 := ⟨⟨by simp, by rw [eμ1, mI_at2 rfl]; rfl, fun i hi => by simp at hi⟩, by rw [eμ1]; exact FrN.wJ (by simp)⟩
  have w0 := hw.fT h0.2
  refine v_aload hx DX12_tells_5 0 rfl ?_
  refine v_iload hx DX12_tells_6 1 rfl ?_
  refine v_cSp hx DX12_tells_7 CSRX12_41 [iv (f : Int)] (r_below l G Λ sz μ1) rfl rfl (Nat.le_of_ble_eq_true rfl) (by decide) ⟨Nat.le_refl _, Nat.le_refl _⟩ ?_
  refine v_cVp hx DX12_tells_10 CVRX12_15 [iv ((2 * f + 1 : Nat) : Int)] (r_degree (s := 2 * f + 1) l G Λ sz μ1 hR w0 (by omega)) hR.o rfl rfl (Nat.le_of_ble_eq_true rfl) (by decide) ⟨Nat.le_refl _, Nat.le_refl _⟩ ?_
  refine v_if_ne hx DX12_tells_13 (by omega) (fun c13 => ?_) (fun c13 => ?_)
  · skip
    refine v_aload hx DX12_tells_29 0 rfl ?_
    refine v_push hx DX12_tells_30 ?_
    refine v_cVv hx DX12_tells_32 CVRX12_165 [iv 40] (r_says l G Λ sz μ1 hR h0.1 (by simp)) hR.o rfl rfl (Nat.le_of_ble_eq_true rfl) (by decide) ⟨Nat.le_refl _, Nat.le_refl _⟩ (fun μ6 hμ6 => ?_)
    have h32 := hμ6
    have w32 := w0.fT h32.2
    refine v_aload hx DX12_tells_35 0 rfl ?_
    refine v_iload hx DX12_tells_36 1 rfl ?_
    refine v_cSp hx DX12_tells_37 CSRX12_38 [iv (f : Int)] (r_above l G Λ sz μ6) rfl rfl (Nat.le_of_ble_eq_true rfl) (by decide) ⟨Nat.le_refl _, Nat.le_refl _⟩ ?_
    refine v_cVv hx DX12_tells_40 CVRX12_171 [iv ((2 * f : Nat) : Int)] (r_tellsP (s := 2 * f) l G Λ sz μ6 hR w32 h32.1 (by omega) (by omega) (by simp; omega)) hR.o rfl rfl (Nat.le_of_ble_eq_true rfl) (by decide) ⟨Nat.le_refl _, Nat.le_refl _⟩ (fun μ10 hμ10 => ?_)
    have h40 := hμ10
    refine v_aload hx DX12_tells_43 0 rfl ?_
    refine v_push hx DX12_tells_44 ?_
    refine v_cVv hx DX12_tells_46 CVRX12_165 [iv 41] (r_says l G Λ sz μ10 hR h40.1 (by simp; omega)) hR.o rfl rfl (Nat.le_of_ble_eq_true rfl) (by decide) ⟨Nat.le_refl _, Nat.le_refl _⟩ (fun μ12 hμ12 => ?_)
    have h46 := hμ12
    refine v_aload hx DX12_tells_49 0 rfl ?_
    refine v_push hx DX12_tells_50 ?_
    refine v_cVv hx DX12_tells_52 CVRX12_165 [iv 47] (r_says l G Λ sz μ12 hR h46.1 (by simp; omega)) hR.o rfl rfl (Nat.le_of_ble_eq_true rfl) (by decide) ⟨Nat.le_refl _, Nat.le_refl _⟩ (fun μ14 hμ14 => ?_)
    have h52 := hμ14
    refine v_aload hx DX12_tells_55 0 rfl ?_
    refine v_push hx DX12_tells_56 ?_
    refine v_cVv hx DX12_tells_58 CVRX12_165 [iv 40] (r_says l G Λ sz μ14 hR h52.1 (by simp; omega)) hR.o rfl rfl (Nat.le_of_ble_eq_true rfl) (by decide) ⟨Nat.le_refl _, Nat.le_refl _⟩ (fun μ16 hμ16 => ?_)
    have h58 := hμ16
    have w58 := (((w32.fT h40.2).fT h46.2).fT h52.2).fT h58.2
    refine v_aload hx DX12_tells_61 0 rfl ?_
    refine v_iload hx DX12_tells_62 1 rfl ?_
    refine v_cSp hx DX12_tells_63 CSRX12_41 [iv (f : Int)] (r_below l G Λ sz μ16) rfl rfl (Nat.le_of_ble_eq_true rfl) (by decide) ⟨Nat.le_refl _, Nat.le_refl _⟩ ?_
    refine v_cVv hx DX12_tells_66 CVRX12_171 [iv ((2 * f + 1 : Nat) : Int)] (r_tellsP (s := 2 * f + 1) l G Λ sz μ16 hR w58 h58.1 (by omega) (by omega) (by simp; omega)) hR.o rfl rfl (Nat.le_of_ble_eq_true rfl) (by decide) ⟨Nat.le_refl _, Nat.le_refl _⟩ (fun μ20 hμ20 => ?_)
    have h66 := hμ20
    refine v_aload hx DX12_tells_69 0 rfl ?_
    refine v_push hx DX12_tells_70 ?_
    refine v_cVv hx DX12_tells_72 CVRX12_165 [iv 41] (r_says l G Λ sz μ20 hR h66.1 (by simp; omega)) hR.o rfl rfl (Nat.le_of_ble_eq_true rfl) (by decide) ⟨Nat.le_refl _, Nat.le_refl _⟩ (fun μ22 hμ22 => ?_)
    have h72 := hμ22
    have e : ftxt (ρ (2 * f)) (ρ (2 * f + 1)) = [] ++ [40] ++ ptxt (ρ (2 * f)) ++ [41] ++ [47] ++ [40] ++ ptxt (ρ (2 * f + 1)) ++ [41] := (by unfold ftxt; rw [if_neg (by omega)]; simp)
    have hz : LA μ22 ν (ftxt (ρ (2 * f)) (ρ (2 * f + 1))) := by rw [e]; exact hμ22.1
    refine v_aload hx DX12_tells_75 0 rfl ?_
    refine v_get hx DX12_tells_76 FLRX12_162 hR.o (fv_i rfl hz.2.1 : _ = iv ((ftxt (ρ (2 * f)) (ρ (2 * f + 1))).length : Int)) ?_
    exact v_ri hx hBD DX12_tells_79 (⟨rfl, hz, ((((((h0.2.trans h32.2).trans h40.2).trans h46.2).trans h52.2).trans h58.2).trans h66.2).trans hμ22.2⟩)
  · skip
    refine v_aload hx DX12_tells_16 0 rfl ?_
    refine v_iload hx DX12_tells_17 1 rfl ?_
    refine v_cSp hx DX12_tells_18 CSRX12_38 [iv (f : Int)] (r_above l G Λ sz μ1) rfl rfl (Nat.le_of_ble_eq_true rfl) (by decide) ⟨Nat.le_refl _, Nat.le_refl _⟩ ?_
    refine v_cVv hx DX12_tells_21 CVRX12_171 [iv ((2 * f : Nat) : Int)] (r_tellsP (s := 2 * f) l G Λ sz μ1 hR w0 h0.1 (by omega) (by omega) (by simp; omega)) hR.o rfl rfl (Nat.le_of_ble_eq_true rfl) (by decide) ⟨Nat.le_refl _, Nat.le_refl _⟩ (fun μ26 hμ26 => ?_)
    have e : ftxt (ρ (2 * f)) (ρ (2 * f + 1)) = [] ++ ptxt (ρ (2 * f)) := (by unfold ftxt; rw [if_pos (by omega)]; rfl)
    have hz : LA μ26 ν (ftxt (ρ (2 * f)) (ρ (2 * f + 1))) := by rw [e]; exact hμ26.1
    refine v_aload hx DX12_tells_24 0 rfl ?_
    refine v_get hx DX12_tells_25 FLRX12_162 hR.o (fv_i rfl hz.2.1 : _ = iv ((ftxt (ρ (2 * f)) (ρ (2 * f + 1))).length : Int)) ?_
    exact v_ri hx hBD DX12_tells_28 (⟨rfl, hz, h0.2.trans hμ26.2⟩)
theorem r_isSame (l : Launch) (G : Gl) (Λ : Lay) (sz : Nat) (μ : Mem) {ν : Nat} {ρ : Nat → PS} {f g : Nat} (hR : refK Λ ν) (hw : RW μ ν ρ) (hf : f < 77) (hg : g < 77) : Sp l G yX12_isSame cX12_isSame 5 (some FieldType.boolean) 1 [.ref ν, iv (f : Int), iv (g : Int)] Λ sz μ (pP μ (bz (ρ (2 * f) = ρ (2 * g) ∧ ρ (2 * f + 1) = ρ (2 * g + 1)))) := by
  refine Sp.intro (by decide) (Nat.le_of_ble_eq_true rfl) (fun x hx hBD => ?_)
  refine v_lv [(0, .ref ν), (1, iv (f : Int)), (2, iv (g : Int))] rfl ?_
  have L5 : ∀ (nf : Nat) (k z : Int), (96 - k < (nf : Int)) → (0 ≤ k ∧ k ≤ 96) → (z = bz (∀ j : Nat, (j : Int) < k → (fun j : Nat => ρ (2 * f) j = ρ (2 * g) j ∧ ρ (2 * f + 1) j = ρ (2 * g + 1) j) j)) → V G x (0, 0) Λ sz μ 5 [(4, iv k), (3, iv z), (0, .ref ν), (1, iv (f : Int)), (2, iv (g : Int))] [] := by
    intro nf
    induction nf with
    | zero => intro k z hm hk hi; exact absurd hm (by omega)
    | succ nf ih =>
      intro k z hm hk hi
      have zr := hi.symm ▸ bz_rng _
      refine v_iload hx DX12_isSame_5 0 rfl ?_
      refine v_push hx DX12_isSame_7 ?_
      refine v_icmp_ge hx DX12_isSame_9 (by omega) (by decide) (fun c9 => ?_) (fun c9 => ?_)
      · skip
        refine v_iload hx DX12_isSame_94 1 rfl ?_
        exact v_rz hx hBD (by omega) DX12_isSame_95 (⟨rfl, hi.trans (bz_congr (by rw [← PS.eq_all (hw (2 * f) (by omega)).1 (hw (2 * g) (by omega)).1, ← PS.eq_all (hw (2 * f + 1) (by omega)).1 (hw (2 * g + 1) (by omega)).1]; exact ⟨fun q => ⟨fun j hj => (q j (by omega)).1, fun j hj => (q j (by omega)).2⟩, fun q j hj => ⟨q.1 j (by omega), q.2 j (by omega)⟩⟩))⟩)
      · skip
        refine v_iload hx DX12_isSame_12 1 rfl ?_
        refine v_if_eq hx DX12_isSame_13 (by omega) (fun c13 => ?_) (fun c13 => ?_)
        · skip
          refine v_push hx DX12_isSame_86 ?_
          refine v_istore hx DX12_isSame_87 [(3, iv 0), (4, iv k), (0, .ref ν), (1, iv (f : Int)), (2, iv (g : Int))] rfl (by decide) ?_
          refine v_iinc hx DX12_isSame_88 1 rfl [(4, iv (k + 1)), (3, iv 0), (0, .ref ν), (1, iv (f : Int)), (2, iv (g : Int))] rfl (by decide) ?_
          refine v_goto hx DX12_isSame_91 ?_
          exact v_sub [0, 1, 2, 3, 4] _ rfl (ih (k + 1) 0 (by omega) (by omega) (bz_all0 hi c13))
        · skip
          refine v_aload hx DX12_isSame_16 2 rfl ?_
          refine v_get hx DX12_isSame_17 FLRX12_3 hR.o (v := .ref (ν + 1)) rfl ?_
          refine v_push hx DX12_isSame_20 ?_
          refine v_iload hx DX12_isSame_22 3 rfl ?_
          refine v_cSp hx DX12_isSame_23 CSRX12_38 [iv (f : Int)] (r_above l G Λ sz μ) rfl rfl (Nat.le_of_ble_eq_true rfl) (by decide) ⟨Nat.le_refl _, Nat.le_refl _⟩ ?_
          refine v_imul hx DX12_isSame_26 ?_
          refine v_iload hx DX12_isSame_27 0 rfl ?_
          refine v_iadd hx DX12_isSame_29 ?_
          refine v_iald hx DX12_isSame_30 hR.p (by omega) (by decide) (z := cf (ρ (2 * f)) k) (hw.at (by omega) (by omega) (by omega) rfl) ?_
          refine v_aload hx DX12_isSame_31 2 rfl ?_
          refine v_get hx DX12_isSame_32 FLRX12_3 hR.o (v := .ref (ν + 1)) rfl ?_
          refine v_push hx DX12_isSame_35 ?_
          refine v_iload hx DX12_isSame_37 4 rfl ?_
          refine v_cSp hx DX12_isSame_38 CSRX12_38 [iv (g : Int)] (r_above l G Λ sz μ) rfl rfl (Nat.le_of_ble_eq_true rfl) (by decide) ⟨Nat.le_refl _, Nat.le_refl _⟩ ?_
          refine v_imul hx DX12_isSame_41 ?_
          refine v_iload hx DX12_isSame_42 0 rfl ?_
          refine v_iadd hx DX12_isSame_44 ?_
          refine v_iald hx DX12_isSame_45 hR.p (by omega) (by decide) (z := cf (ρ (2 * g)) k) (hw.at (by omega) (by omega) (by omega) rfl) ?_
          refine v_icmp_ne hx DX12_isSame_46 (by have h1 := cf_rng (ρ (2 * f)) k; have h2 := cf_rng (ρ (2 * g)) k; omega) (by have h1 := cf_rng (ρ (2 * f)) k; have h2 := cf_rng (ρ (2 * g)) k; omega) (fun c46 => ?_) (fun c46 => ?_)
          · skip
            refine v_push hx DX12_isSame_86 ?_
            refine v_istore hx DX12_isSame_87 [(3, iv 0), (4, iv k), (0, .ref ν), (1, iv (f : Int)), (2, iv (g : Int))] rfl (by decide) ?_
            refine v_iinc hx DX12_isSame_88 1 rfl [(4, iv (k + 1)), (3, iv 0), (0, .ref ν), (1, iv (f : Int)), (2, iv (g : Int))] rfl (by decide) ?_
            refine v_goto hx DX12_isSame_91 ?_
            exact v_sub [0, 1, 2, 3, 4] _ rfl (ih (k + 1) 0 (by omega) (by omega) (bz_all1 (by omega) (fun q => c46 (cf_eq.mpr q.1))))
          · skip
            refine v_aload hx DX12_isSame_49 2 rfl ?_
            refine v_get hx DX12_isSame_50 FLRX12_3 hR.o (v := .ref (ν + 1)) rfl ?_
            refine v_push hx DX12_isSame_53 ?_
            refine v_iload hx DX12_isSame_55 3 rfl ?_
            refine v_cSp hx DX12_isSame_56 CSRX12_41 [iv (f : Int)] (r_below l G Λ sz μ) rfl rfl (Nat.le_of_ble_eq_true rfl) (by decide) ⟨Nat.le_refl _, Nat.le_refl _⟩ ?_
            refine v_imul hx DX12_isSame_59 ?_
            refine v_iload hx DX12_isSame_60 0 rfl ?_
            refine v_iadd hx DX12_isSame_62 ?_
            refine v_iald hx DX12_isSame_63 hR.p (by omega) (by decide) (z := cf (ρ (2 * f + 1)) k) (hw.at (by omega) (by omega) (by omega) rfl) ?_
            refine v_aload hx DX12_isSame_64 2 rfl ?_
            refine v_get hx DX12_isSame_65 FLRX12_3 hR.o (v := .ref (ν + 1)) rfl ?_
            refine v_push hx DX12_isSame_68 ?_
            refine v_iload hx DX12_isSame_70 4 rfl ?_
            refine v_cSp hx DX12_isSame_71 CSRX12_41 [iv (g : Int)] (r_below l G Λ sz μ) rfl rfl (Nat.le_of_ble_eq_true rfl) (by decide) ⟨Nat.le_refl _, Nat.le_refl _⟩ ?_
            refine v_imul hx DX12_isSame_74 ?_
            refine v_iload hx DX12_isSame_75 0 rfl ?_
            refine v_iadd hx DX12_isSame_77 ?_
            refine v_iald hx DX12_isSame_78 hR.p (by omega) (by decide) (z := cf (ρ (2 * g + 1)) k) (hw.at (by omega) (by omega) (by omega) rfl) ?_
            refine v_icmp_ne hx DX12_isSame_79 (by have h1 := cf_rng (ρ (2 * f + 1)) k; have h2 := cf_rng (ρ (2 * g + 1)) k; omega) (by have h1 := cf_rng (ρ (2 * f + 1)) k; have h2 := cf_rng (ρ (2 * g + 1)) k; omega) (fun c79 => ?_) (fun c79 => ?_)
            · skip
              refine v_push hx DX12_isSame_86 ?_
              refine v_istore hx DX12_isSame_87 [(3, iv 0), (4, iv k), (0, .ref ν), (1, iv (f : Int)), (2, iv (g : Int))] rfl (by decide) ?_
              refine v_iinc hx DX12_isSame_88 1 rfl [(4, iv (k + 1)), (3, iv 0), (0, .ref ν), (1, iv (f : Int)), (2, iv (g : Int))] rfl (by decide) ?_
              refine v_goto hx DX12_isSame_91 ?_
              exact v_sub [0, 1, 2, 3, 4] _ rfl (ih (k + 1) 0 (by omega) (by omega) (bz_all1 (by omega) (fun q => c79 (cf_eq.mpr q.2))))
            · skip
              refine v_push hx DX12_isSame_82 ?_
              refine v_goto hx DX12_isSame_83 ?_
              refine v_istore hx DX12_isSame_87 [(3, iv 1), (4, iv k), (0, .ref ν), (1, iv (f : Int)), (2, iv (g : Int))] rfl (by decide) ?_
              refine v_iinc hx DX12_isSame_88 1 rfl [(4, iv (k + 1)), (3, iv 1), (0, .ref ν), (1, iv (f : Int)), (2, iv (g : Int))] rfl (by decide) ?_
              refine v_goto hx DX12_isSame_91 ?_
              exact v_sub [0, 1, 2, 3, 4] _ rfl (ih (k + 1) 1 (by omega) (by omega) (bz_all2 (by omega) hi c13 ⟨cf_eq.mp c46, cf_eq.mp c79⟩))
  refine v_push hx DX12_isSame_0 ?_
  refine v_istore hx DX12_isSame_1 [(3, iv 1), (0, .ref ν), (1, iv (f : Int)), (2, iv (g : Int))] rfl (by decide) ?_
  refine v_push hx DX12_isSame_2 ?_
  refine v_istore hx DX12_isSame_3 [(4, iv 0), (3, iv 1), (0, .ref ν), (1, iv (f : Int)), (2, iv (g : Int))] rfl (by decide) ?_
  exact v_sub [0, 1, 2, 3, 4] _ rfl (L5 100 0 1 (by omega) (by omega) (bz_pos (fun j hj => by omega)).symm)
theorem r_isBelowAlike (l : Launch) (G : Gl) (Λ : Lay) (sz : Nat) (μ : Mem) {ν : Nat} {ρ : Nat → PS} {f g : Nat} (hR : refK Λ ν) (hw : RW μ ν ρ) (hf : f < 77) (hg : g < 77) : Sp l G yX12_isBelowAlike cX12_isBelowAlike 5 (some FieldType.boolean) 1 [.ref ν, iv (f : Int), iv (g : Int)] Λ sz μ (pP μ (bz (ρ (2 * f + 1) = ρ (2 * g + 1)))) := by
  refine Sp.intro (by decide) (Nat.le_of_ble_eq_true rfl) (fun x hx hBD => ?_)
  refine v_lv [(0, .ref ν), (1, iv (f : Int)), (2, iv (g : Int))] rfl ?_
  have L5 : ∀ (nf : Nat) (k z : Int), (96 - k < (nf : Int)) → (0 ≤ k ∧ k ≤ 96) → (z = bz (∀ j : Nat, (j : Int) < k → (fun j : Nat => ρ (2 * f + 1) j = ρ (2 * g + 1) j) j)) → V G x (0, 0) Λ sz μ 5 [(4, iv k), (3, iv z), (0, .ref ν), (1, iv (f : Int)), (2, iv (g : Int))] [] := by
    intro nf
    induction nf with
    | zero => intro k z hm hk hi; exact absurd hm (by omega)
    | succ nf ih =>
      intro k z hm hk hi
      have zr := hi.symm ▸ bz_rng _
      refine v_iload hx DX12_isBelowAlike_5 0 rfl ?_
      refine v_push hx DX12_isBelowAlike_7 ?_
      refine v_icmp_ge hx DX12_isBelowAlike_9 (by omega) (by decide) (fun c9 => ?_) (fun c9 => ?_)
      · skip
        refine v_iload hx DX12_isBelowAlike_51 1 rfl ?_
        exact v_rz hx hBD (by omega) DX12_isBelowAlike_52 (⟨rfl, hi.trans (bz_congr (by rw [← PS.eq_all (hw (2 * f + 1) (by omega)).1 (hw (2 * g + 1) (by omega)).1]; exact ⟨fun q j hj => q j (by omega), fun q j hj => q j (by omega)⟩))⟩)
      · skip
        refine v_iload hx DX12_isBelowAlike_12 1 rfl ?_
        refine v_if_eq hx DX12_isBelowAlike_13 (by omega) (fun c13 => ?_) (fun c13 => ?_)
        · skip
          refine v_push hx DX12_isBelowAlike_43 ?_
          refine v_istore hx DX12_isBelowAlike_44 [(3, iv 0), (4, iv k), (0, .ref ν), (1, iv (f : Int)), (2, iv (g : Int))] rfl (by decide) ?_
          refine v_iinc hx DX12_isBelowAlike_45 1 rfl [(4, iv (k + 1)), (3, iv 0), (0, .ref ν), (1, iv (f : Int)), (2, iv (g : Int))] rfl (by decide) ?_
          refine v_goto hx DX12_isBelowAlike_48 ?_
          exact v_sub [0, 1, 2, 3, 4] _ rfl (ih (k + 1) 0 (by omega) (by omega) (bz_all0 hi c13))
        · skip
          refine v_aload hx DX12_isBelowAlike_16 2 rfl ?_
          refine v_iload hx DX12_isBelowAlike_17 3 rfl ?_
          refine v_cSp hx DX12_isBelowAlike_18 CSRX12_41 [iv (f : Int)] (r_below l G Λ sz μ) rfl rfl (Nat.le_of_ble_eq_true rfl) (by decide) ⟨Nat.le_refl _, Nat.le_refl _⟩ ?_
          refine v_iload hx DX12_isBelowAlike_21 0 rfl ?_
          refine v_cVp hx DX12_isBelowAlike_23 CVRX12_159 [iv ((2 * f + 1 : Nat) : Int), iv k] (r_at (s := 2 * f + 1) l G Λ sz μ hR hw (by omega) (by omega)) hR.o rfl rfl (Nat.le_of_ble_eq_true rfl) (by decide) ⟨Nat.le_refl _, Nat.le_refl _⟩ ?_
          refine v_aload hx DX12_isBelowAlike_26 2 rfl ?_
          refine v_iload hx DX12_isBelowAlike_27 4 rfl ?_
          refine v_cSp hx DX12_isBelowAlike_28 CSRX12_41 [iv (g : Int)] (r_below l G Λ sz μ) rfl rfl (Nat.le_of_ble_eq_true rfl) (by decide) ⟨Nat.le_refl _, Nat.le_refl _⟩ ?_
          refine v_iload hx DX12_isBelowAlike_31 0 rfl ?_
          refine v_cVp hx DX12_isBelowAlike_33 CVRX12_159 [iv ((2 * g + 1 : Nat) : Int), iv k] (r_at (s := 2 * g + 1) l G Λ sz μ hR hw (by omega) (by omega)) hR.o rfl rfl (Nat.le_of_ble_eq_true rfl) (by decide) ⟨Nat.le_refl _, Nat.le_refl _⟩ ?_
          refine v_icmp_ne hx DX12_isBelowAlike_36 (by have h1 := ca_rng (ρ (2 * f + 1)) k; have h2 := ca_rng (ρ (2 * g + 1)) k; omega) (by have h1 := ca_rng (ρ (2 * f + 1)) k; have h2 := ca_rng (ρ (2 * g + 1)) k; omega) (fun c36 => ?_) (fun c36 => ?_)
          · skip
            rw [ca_of (by omega), ca_of (by omega)] at c36
            refine v_push hx DX12_isBelowAlike_43 ?_
            refine v_istore hx DX12_isBelowAlike_44 [(3, iv 0), (4, iv k), (0, .ref ν), (1, iv (f : Int)), (2, iv (g : Int))] rfl (by decide) ?_
            refine v_iinc hx DX12_isBelowAlike_45 1 rfl [(4, iv (k + 1)), (3, iv 0), (0, .ref ν), (1, iv (f : Int)), (2, iv (g : Int))] rfl (by decide) ?_
            refine v_goto hx DX12_isBelowAlike_48 ?_
            exact v_sub [0, 1, 2, 3, 4] _ rfl (ih (k + 1) 0 (by omega) (by omega) (bz_all1 (by omega) (fun q => c36 (cf_eq.mpr q))))
          · skip
            rw [ca_of (by omega), ca_of (by omega)] at c36
            refine v_push hx DX12_isBelowAlike_39 ?_
            refine v_goto hx DX12_isBelowAlike_40 ?_
            refine v_istore hx DX12_isBelowAlike_44 [(3, iv 1), (4, iv k), (0, .ref ν), (1, iv (f : Int)), (2, iv (g : Int))] rfl (by decide) ?_
            refine v_iinc hx DX12_isBelowAlike_45 1 rfl [(4, iv (k + 1)), (3, iv 1), (0, .ref ν), (1, iv (f : Int)), (2, iv (g : Int))] rfl (by decide) ?_
            refine v_goto hx DX12_isBelowAlike_48 ?_
            exact v_sub [0, 1, 2, 3, 4] _ rfl (ih (k + 1) 1 (by omega) (by omega) (bz_all2 (by omega) hi c13 (cf_eq.mp c36)))
  refine v_push hx DX12_isBelowAlike_0 ?_
  refine v_istore hx DX12_isBelowAlike_1 [(3, iv 1), (0, .ref ν), (1, iv (f : Int)), (2, iv (g : Int))] rfl (by decide) ?_
  refine v_push hx DX12_isBelowAlike_2 ?_
  refine v_istore hx DX12_isBelowAlike_3 [(4, iv 0), (3, iv 1), (0, .ref ν), (1, iv (f : Int)), (2, iv (g : Int))] rfl (by decide) ?_
  exact v_sub [0, 1, 2, 3, 4] _ rfl (L5 100 0 1 (by omega) (by omega) (bz_pos (fun j hj => by omega)).symm)
theorem r_term (l : Launch) (G : Gl) (Λ : Lay) (sz : Nat) (μ : Mem) {f i : Int} (h : 0 ≤ 5 * f + i + 2) : Sp l G yX12_term cX12_term 2 (some FieldType.int) 0 [iv f, iv i] Λ sz μ (pP μ (((5 * f + i + 2).toNat : Int))) := by
  refine Sp.intro (by decide) (Nat.le_of_ble_eq_true rfl) (fun x hx hBD => ?_)
  refine v_lv [(0, iv f), (1, iv i)] rfl ?_
  refine v_push hx DX12_term_0 ?_
  refine v_iload hx DX12_term_1 0 rfl ?_
  refine v_imul hx DX12_term_2 ?_
  refine v_iload hx DX12_term_3 1 rfl ?_
  refine v_iadd hx DX12_term_4 ?_
  refine v_push hx DX12_term_5 ?_
  refine v_iadd hx DX12_term_6 ?_
  exact v_ri hx hBD DX12_term_7 (⟨rfl, by omega⟩)
