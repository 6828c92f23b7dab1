theorem up_comm {ρ : Nat → PS} {a b : Nat} {A B : PS} (h : a ≠ b) : up (up ρ a A) b B = up (up ρ b B) a A := funext fun c => by
  unfold up
  by_cases e : c = b
  · rw [if_pos e, if_neg (show ¬ c = a by omega), if_pos e]
  · rw [if_neg e, if_neg e]
theorem am_set (P b : PS) (c : F) (i k : Nat) : (P.am (b.tr k) c i).set (i + k) ((P.am (b.tr k) c i) (i + k) + c * b k) = P.am (b.tr (k + 1)) c i := PS.ext fun n => by
  rw [am_tr_step]
  show (if n = i + k then _ else _) = _
  by_cases e : n = i + k
  · rw [if_pos e, if_pos e, e]
  · rw [if_neg e, if_neg e]
theorem r_divides (l : Launch) (G : Gl) (Λ : Lay) (sz : Nat) (μ : Mem) {ν : Nat} {ρ : Nat → PS} {o s y : Nat} (hR : refK Λ ν) (hw : RW μ ν ρ) (ho : o < 154) (hs : s < 154) (hy : y < 154) (n1 : o ≠ s) (n2 : o ≠ y) (n3 : s ≠ y) (hD0 : ρ y ≠ PS.zero) : Sp l G yX12_divides cX12_divides 9 none 2 [.ref ν, iv (o : Int), iv (s : Int), iv (y : Int)] Λ sz μ (pV (fun μ' => RW μ' ν (up (up ρ o ((ρ s).dv (ρ y))) s ((ρ s).md (ρ y))) ∧ Fr [ν + 1] μ μ')) := by
  refine Sp.intro (by decide) (Nat.le_of_ble_eq_true rfl) (fun x hx hBD => ?_)
  refine v_lv [(0, .ref ν), (1, iv (o : Int)), (2, iv (s : Int)), (3, iv (y : Int))] rfl ?_
  have ss := PS.size_le (hw s hs).1
  have sy := PS.size_le (hw y hy).1
  obtain ⟨d, hd96, hd, hDz⟩ := PS.ne_zero_isz (hw y hy).1 hD0
  have hi := ivI_rng (hdI (ρ y))
  have L76 : ∀ (nf : Nat) (k i : Int) (P Q : PS) (c : F) (m : Mem), ((d : Int) + 1 - i < (nf : Int)) → (d ≤ k ∧ k < 96) → (0 ≤ i ∧ i ≤ (d : Int) + 1) → (RW m ν (up (up ρ o Q) s (P.am ((ρ y).tr i.toNat) (-c) (k - (d : Int)).toNat))) → (Fr [ν + 1] μ m) → (∀ (m2 : Mem), (RW m2 ν (up (up ρ o Q) s (P.am (ρ y) (-c) (k.toNat - d)))) → (Fr [ν + 1] μ m2) → V G x (0, 0) Λ sz m2 144 [(6, iv k), (5, iv (ivI (hdI (ρ y)))), (4, iv (d : Int)), (0, .ref ν), (1, iv (o : Int)), (2, iv (s : Int)), (3, iv (y : Int))] []) → V G x (0, 0) Λ sz m 76 [(8, iv i), (7, iv (c.val : Int)), (6, iv k), (5, iv (ivI (hdI (ρ y)))), (4, iv (d : Int)), (0, .ref ν), (1, iv (o : Int)), (2, iv (s : Int)), (3, iv (y : Int))] [] := by
    intro nf
    induction nf with
    | zero => intro k i P Q c m hm hk hi2 hm hf hC; exact absurd hm (by omega)
    | succ nf ih =>
      intro k i P Q c m hm hk hi2 hm hf hC
      have h1 := cf_rng (P.am ((ρ y).tr i.toNat) (-c) (k - (d : Int)).toNat) (k - (d : Int) + i)
      have h2 := cf_rng (ρ y) i
      have h3 := c.isLt
      have h4 := mulb (a := (c.val : Int)) (A := 100) (by omega) (by omega) h2.1 h2.2
      refine v_iload hx DX12_divides_76 0 rfl ?_
      refine v_iload hx DX12_divides_78 4 rfl ?_
      refine v_icmp_gt hx DX12_divides_80 (by omega) (by omega) (fun c80 => ?_) (fun c80 => ?_)
      · skip
        exact v_sub [2, 3, 4, 5, 6, 7, 8] _ rfl (hC m (by rw [show i.toNat = d + 1 by omega, PS.tr_end hDz.2, show (k - (d : Int)).toNat = k.toNat - d by omega] at hm; exact hm) hf)
      · skip
        refine v_aload hx DX12_divides_83 5 rfl ?_
        refine v_get hx DX12_divides_84 FLRX12_3 hR.o (v := .ref (ν + 1)) rfl ?_
        refine v_push hx DX12_divides_87 ?_
        refine v_iload hx DX12_divides_89 7 rfl ?_
        refine v_imul hx DX12_divides_90 ?_
        refine v_iload hx DX12_divides_91 2 rfl ?_
        refine v_iadd hx DX12_divides_93 ?_
        refine v_iload hx DX12_divides_94 4 rfl ?_
        refine v_isub hx DX12_divides_96 ?_
        refine v_iload hx DX12_divides_97 0 rfl ?_
        refine v_iadd hx DX12_divides_99 ?_
        refine v_aload hx DX12_divides_100 5 rfl ?_
        refine v_get hx DX12_divides_101 FLRX12_3 hR.o (v := .ref (ν + 1)) rfl ?_
        refine v_push hx DX12_divides_104 ?_
        refine v_iload hx DX12_divides_106 7 rfl ?_
        refine v_imul hx DX12_divides_107 ?_
        refine v_iload hx DX12_divides_108 2 rfl ?_
        refine v_iadd hx DX12_divides_110 ?_
        refine v_iload hx DX12_divides_111 4 rfl ?_
        refine v_isub hx DX12_divides_113 ?_
        refine v_iload hx DX12_divides_114 0 rfl ?_
        refine v_iadd hx DX12_divides_116 ?_
        refine v_iald hx DX12_divides_117 hR.p (by omega) (by decide) (z := cf (P.am ((ρ y).tr i.toNat) (-c) (k - (d : Int)).toNat) (k - (d : Int) + i)) (by rw [show (96 * (s : Int) + k - (d : Int) + i) = 96 * (s : Int) + (k - (d : Int) + i) by omega]; exact hm.at hs (by omega) (by omega) up_at) ?_
        refine v_iload hx DX12_divides_118 1 rfl ?_
        refine v_aload hx DX12_divides_120 5 rfl ?_
        refine v_get hx DX12_divides_121 FLRX12_3 hR.o (v := .ref (ν + 1)) rfl ?_
        refine v_push hx DX12_divides_124 ?_
        refine v_iload hx DX12_divides_126 8 rfl ?_
        refine v_imul hx DX12_divides_127 ?_
        refine v_iload hx DX12_divides_128 0 rfl ?_
        refine v_iadd hx DX12_divides_130 ?_
        refine v_iald hx DX12_divides_131 hR.p (by omega) (by decide) (z := cf (ρ y) i) (hm.at hy (by omega) (by omega) (by rw [up_ne (fun q => n3 q.symm), up_ne (fun q => n2 q.symm)])) ?_
        refine v_imul hx DX12_divides_132 ?_
        refine v_isub hx DX12_divides_133 ?_
        refine v_cSp hx DX12_divides_134 CSRX12_11 [iv ((cf (P.am ((ρ y).tr i.toNat) (-c) (k - (d : Int)).toNat) (k - (d : Int) + i)) - ((c.val : Int) * (cf (ρ y) i)))] (r_mod l G Λ sz m (by omega)) rfl rfl (Nat.le_of_ble_eq_true rfl) (by decide) ⟨Nat.le_refl _, Nat.le_refl _⟩ ?_
        refine v_iastm hx DX12_divides_137 hR.p (by omega) (by decide) (fun μ3 eμ3 => ?_)
        have hst2 : RW μ3 ν (up (up ρ o Q) s (P.am ((ρ y).tr (i + 1).toNat) (-c) (k - (d : Int)).toNat)) := by
          have hv : (cf (P.am ((ρ y).tr i.toNat) (-c) (k - (d : Int)).toNat) (k - (d : Int) + i) - (c.val : Int) * cf (ρ y) i) % 101 = (((P.am ((ρ y).tr i.toNat) (-c) (k - (d : Int)).toNat) (k - (d : Int) + i).toNat + (-c) * (ρ y) i.toNat : F).val : Int) := by
            rw [← fi_val, fi_sub, fi_mul, fi_cf, fi_cf, fi_of]
            congr 2
            grind
          have h5 := hm.put (k := k - (d : Int) + i) (by omega) (by omega) hv hs
          rw [show (k - (d : Int) + i).toNat = (k - (d : Int)).toNat + i.toNat by omega, am_set, show i.toNat + 1 = (i + 1).toNat by omega] at h5
          rw [eμ3, show (96 * (s : Int) + k - (d : Int) + i) = 96 * (s : Int) + (k - (d : Int) + i) by omega]
          exact h5
        refine v_iinc hx DX12_divides_138 0 rfl [(8, iv (i + 1)), (7, iv (c.val : Int)), (6, iv k), (5, iv (ivI (hdI (ρ y)))), (4, iv (d : Int)), (0, .ref ν), (1, iv (o : Int)), (2, iv (s : Int)), (3, iv (y : Int))] rfl (by decide) ?_
        refine v_goto hx DX12_divides_141 ?_
        exact v_sub [0, 1, 2, 3, 4, 5, 6, 7, 8] _ rfl (ih k (i + 1) P Q c μ3 (by omega) hk (by omega) hst2 (hf.trans (by rw [eμ3]; exact Fr.mI (by simp))) hC)
  have L29 : ∀ (nf : Nat) (k : Int) (P Q : PS) (m : Mem), (k + 1 < (nf : Int)) → (-1 ≤ k ∧ k < 96) → (P.lt (k + 1).toNat) → (Q.lt 96) → (∀ n : Nat, (n : Int) ≤ k - (d : Int) → Q n = 0) → (ρ s = (Q.mul (ρ y)).add P) → (RW m ν (up (up ρ o Q) s P)) → (Fr [ν + 1] μ m) → V G x (0, 0) Λ sz m 29 [(6, iv k), (5, iv (ivI (hdI (ρ y)))), (4, iv (d : Int)), (0, .ref ν), (1, iv (o : Int)), (2, iv (s : Int)), (3, iv (y : Int))] [] := by
    intro nf
    induction nf with
    | zero => intro k P Q m hm hk hP hQ hQ0 hpe hm hf; exact absurd hm (by omega)
    | succ nf ih =>
      intro k P Q m hm hk hP hQ hQ0 hpe hm hf
      have hcz : cf P k * ivI (hdI (ρ y)) % 101 = ((P k.toNat * finv ((ρ y) d)).val : Int) := by rw [← fi_val, fi_mul, fi_cf, fi_ivI, hdI_eq hDz]
      have hcr := cf_rng P k
      have hcm := mulb hcr.1 hcr.2 hi.1 hi.2
      refine v_iload hx DX12_divides_29 0 rfl ?_
      refine v_iload hx DX12_divides_31 2 rfl ?_
      refine v_icmp_lt hx DX12_divides_33 (by omega) (by omega) (fun c33 => ?_) (fun c33 => ?_)
      · skip
        exact v_rv hx hBD DX12_divides_150 (⟨by have hmd := PS.md_eq hDz hQ (PS.lt_mono hP (by omega)) hpe; rw [hmd.1, hmd.2]; exact hm, hf⟩)
      · skip
        refine v_aload hx DX12_divides_36 3 rfl ?_
        refine v_get hx DX12_divides_37 FLRX12_3 hR.o (v := .ref (ν + 1)) rfl ?_
        refine v_push hx DX12_divides_40 ?_
        refine v_iload hx DX12_divides_42 5 rfl ?_
        refine v_imul hx DX12_divides_43 ?_
        refine v_iload hx DX12_divides_44 0 rfl ?_
        refine v_iadd hx DX12_divides_46 ?_
        refine v_iald hx DX12_divides_47 hR.p (by omega) (by decide) (z := cf P k) (hm.at hs (by omega) (by omega) up_at) ?_
        refine v_iload hx DX12_divides_48 1 rfl ?_
        refine v_imul hx DX12_divides_50 ?_
        refine v_push hx DX12_divides_51 ?_
        refine v_irem hx (by omega) (by decide) DX12_divides_53 ?_
        refine v_top hcz ?_
        refine v_istore hx DX12_divides_54 [(7, iv ((P k.toNat * finv ((ρ y) d)).val : Int)), (6, iv k), (5, iv (ivI (hdI (ρ y)))), (4, iv (d : Int)), (0, .ref ν), (1, iv (o : Int)), (2, iv (s : Int)), (3, iv (y : Int))] rfl (by decide) ?_
        refine v_aload hx DX12_divides_56 4 rfl ?_
        refine v_get hx DX12_divides_57 FLRX12_3 hR.o (v := .ref (ν + 1)) rfl ?_
        refine v_push hx DX12_divides_60 ?_
        refine v_iload hx DX12_divides_62 5 rfl ?_
        refine v_imul hx DX12_divides_63 ?_
        refine v_iload hx DX12_divides_64 1 rfl ?_
        refine v_iadd hx DX12_divides_66 ?_
        refine v_iload hx DX12_divides_67 3 rfl ?_
        refine v_isub hx DX12_divides_69 ?_
        refine v_iload hx DX12_divides_70 0 rfl ?_
        refine v_iastm hx DX12_divides_72 hR.p (by omega) (by decide) (fun μ4 eμ4 => ?_)
        have hst : RW μ4 ν (up (up ρ o (Q.set (k - (d : Int)).toNat (P k.toNat * finv ((ρ y) d)))) s P) := by
          rw [eμ4, up_comm n1, show (96 * (o : Int) + k - (d : Int)) = 96 * (o : Int) + (k - (d : Int)) by omega]
          exact RW.put (by rw [← up_comm n1]; exact hm) (by omega) (by omega) rfl ho
        refine v_push hx DX12_divides_73 ?_
        refine v_istore hx DX12_divides_74 [(8, iv 0), (7, iv ((P k.toNat * finv ((ρ y) d)).val : Int)), (6, iv k), (5, iv (ivI (hdI (ρ y)))), (4, iv (d : Int)), (0, .ref ν), (1, iv (o : Int)), (2, iv (s : Int)), (3, iv (y : Int))] rfl (by decide) ?_
        refine v_sub [0, 1, 2, 3, 4, 5, 6, 7, 8] _ rfl (L76 200 k 0 P (Q.set (k - (d : Int)).toNat (P k.toNat * finv ((ρ y) d))) (P k.toNat * finv ((ρ y) d)) μ4 (by omega) (by omega) (by omega) (by rw [show Int.toNat 0 = 0 from rfl, am_tr0]; exact hst) (hf.trans (by rw [eμ4]; exact Fr.mI (by simp))) (fun m2 hq hf2 => ?_))
        refine v_iinc hx DX12_divides_144 0 rfl [(6, iv (k + (-1))), (5, iv (ivI (hdI (ρ y)))), (4, iv (d : Int)), (0, .ref ν), (1, iv (o : Int)), (2, iv (s : Int)), (3, iv (y : Int))] rfl (by decide) ?_
        refine v_goto hx DX12_divides_147 ?_
        exact v_sub [0, 1, 2, 3, 4, 5, 6] _ rfl (ih (k + (-1)) (P.am (ρ y) (-(P k.toNat * finv ((ρ y) d))) (k.toNat - d)) (Q.set (k - (d : Int)).toNat (P k.toNat * finv ((ρ y) d))) m2 (by omega) (by omega) (by rw [show (k + (-1) + 1).toNat = k.toNat by omega]; exact PS.strike_at hDz (PS.lt_mono hP (by omega)) (by omega)) (PS.set_lt hQ (by omega)) (fun n hn => (by show (if n = (k - (d : Int)).toNat then _ else Q n) = 0; rw [if_neg (by omega)]; exact hQ0 n (by omega))) (by rw [PS.set_add (hQ0 _ (by omega)), show (k - (d : Int)).toNat = k.toNat - d by omega]; exact PS.div_step hpe) hq hf2)
  refine v_aload hx DX12_divides_0 0 rfl ?_
  refine v_iload hx DX12_divides_1 1 rfl ?_
  refine v_cVv hx DX12_divides_2 CVRX12_7 [iv (o : Int)] (r_zero l G Λ sz μ hR hw ho) hR.o rfl rfl (Nat.le_of_ble_eq_true rfl) (by decide) ⟨Nat.le_refl _, Nat.le_refl _⟩ (fun μ5 hμ5 => ?_)
  have hw1 := hμ5.1
  have hf1 := hμ5.2
  have ey : up ρ o PS.zero y = ρ y := up_ne (fun q => n2 q.symm)
  have es : up ρ o PS.zero s = ρ s := up_ne (fun q => n1 q.symm)
  refine v_aload hx DX12_divides_5 0 rfl ?_
  refine v_iload hx DX12_divides_6 3 rfl ?_
  refine v_cVp hx DX12_divides_7 CVRX12_15 [iv (y : Int)] ((show ((up ρ o PS.zero y).size : Int) - 1 = (d : Int) by rw [ey]; omega) ▸ r_degree l G Λ sz μ5 hR hw1 hy) hR.o rfl rfl (Nat.le_of_ble_eq_true rfl) (by decide) ⟨Nat.le_refl _, Nat.le_refl _⟩ ?_
  refine v_istore hx DX12_divides_10 [(4, iv (d : Int)), (0, .ref ν), (1, iv (o : Int)), (2, iv (s : Int)), (3, iv (y : Int))] rfl (by decide) ?_
  refine v_aload hx DX12_divides_12 1 rfl ?_
  refine v_iload hx DX12_divides_13 4 rfl ?_
  refine v_cVp hx DX12_divides_14 CVRX12_21 [iv (y : Int)] (ey ▸ r_head l G Λ sz μ5 hR hw1 hy) hR.o rfl rfl (Nat.le_of_ble_eq_true rfl) (by decide) ⟨Nat.le_refl _, Nat.le_refl _⟩ ?_
  refine v_cSp hx DX12_divides_17 CSRX12_24 [iv (hdI (ρ y))] (r_over l G Λ sz μ5 (hdI_rng _)) rfl rfl (Nat.le_of_ble_eq_true rfl) (by decide) ⟨Nat.le_refl _, Nat.le_refl _⟩ ?_
  refine v_istore hx DX12_divides_20 [(5, iv (ivI (hdI (ρ y)))), (4, iv (d : Int)), (0, .ref ν), (1, iv (o : Int)), (2, iv (s : Int)), (3, iv (y : Int))] rfl (by decide) ?_
  refine v_aload hx DX12_divides_22 2 rfl ?_
  refine v_iload hx DX12_divides_23 4 rfl ?_
  refine v_cVp hx DX12_divides_24 CVRX12_15 [iv (s : Int)] (es ▸ r_degree l G Λ sz μ5 hR hw1 hs) hR.o rfl rfl (Nat.le_of_ble_eq_true rfl) (by decide) ⟨Nat.le_refl _, Nat.le_refl _⟩ ?_
  refine v_istore hx DX12_divides_27 [(6, iv (((ρ s).size : Int) - 1)), (5, iv (ivI (hdI (ρ y)))), (4, iv (d : Int)), (0, .ref ν), (1, iv (o : Int)), (2, iv (s : Int)), (3, iv (y : Int))] rfl (by decide) ?_
  exact v_sub [0, 1, 2, 3, 4, 5, 6] _ rfl (L29 200 (((ρ s).size : Int) - 1) (ρ s) PS.zero μ5 (by omega) (by omega) (PS.lt_mono (PS.lt_size (hw s hs).1) (by omega)) (PS.zero_lt _) (fun _ _ => rfl) (PS.div0 _ _) (by have e : up (up ρ o PS.zero) s (ρ s) = up ρ o PS.zero := (funext fun q => (Classical.em (q = s)).elim (fun c => by rw [c, up_at, es]) (fun c => up_ne c)); rw [e]; exact hw1) hf1)
