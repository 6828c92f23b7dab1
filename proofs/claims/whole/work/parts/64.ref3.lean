def PB2 (m : Mem) (ν : Nat) (P : PS) : Prop := ∀ j : Int, 0 ≤ j → j < 192 → m.1 (ν + 2) j = cf P j
theorem tr_at (b : PS) (k n : Nat) : (b.tr k) n = if n < k then b n else 0 := rfl
theorem am_tr_step (P b : PS) (c : F) (i k n : Nat) : (P.am (b.tr (k + 1)) c i) n = if n = i + k then (P.am (b.tr k) c i) n + c * b k else (P.am (b.tr k) c i) n := by
  rw [PS.am_at, PS.am_at, tr_at, tr_at]
  by_cases e : n = i + k
  · rw [if_pos e, if_neg (show ¬ n < i by omega), if_neg (show ¬ n < i by omega), if_pos (show n - i < k + 1 by omega), if_neg (show ¬ n - i < k by omega), show n - i = k by omega]
    grind
  · rw [if_neg e]
    by_cases e2 : n < i
    · rw [if_pos e2, if_pos e2]
    · rw [if_neg e2, if_neg e2]
      by_cases e3 : n - i < k
      · rw [if_pos e3, if_pos (show n - i < k + 1 by omega)]
      · rw [if_neg e3, if_neg (show ¬ n - i < k + 1 by omega)]
theorem PB2.step {m m1 : Mem} {ν : Nat} {P b : PS} {c : F} {i k z : Int} (h : PB2 m ν (P.am (b.tr k.toNat) c i.toNat)) (hi : 0 ≤ i) (hk : 0 ≤ k) (hz : fi z = (P.am (b.tr k.toNat) c i.toNat) (i + k).toNat + c * b k.toNat) (e : m1 = mI m (ν + 2) (i + k) (z % 101)) : PB2 m1 ν (P.am (b.tr (k + 1).toNat) c i.toNat) := by
  intro j h0 h1
  rw [e, mI_at, show (k + 1).toNat = k.toNat + 1 by omega]
  by_cases q : j = i + k
  · rw [if_pos q]
    refine cf_mod ?_
    rw [am_tr_step, if_pos (by omega), hz, q]
  · rw [if_neg q, h j h0 h1]
    unfold cf
    rw [am_tr_step, if_neg (by omega)]
theorem am_tr0 (P b : PS) (c : F) (i : Nat) : P.am (b.tr 0) c i = P := PS.ext fun n => by
  rw [PS.am_at, tr_at, if_neg (show ¬ n - i < 0 by omega)]
  split
  · rfl
  · grind
theorem zero_mul0 (q : PS) : PS.zero.mul q = PS.zero := PS.zero_mul q
theorem r_times (l : Launch) (G : Gl) (Λ : Lay) (sz : Nat) (μ : Mem) {ν : Nat} {ρ : Nat → PS} {s a b : Nat} (hR : refK Λ ν) (hw : RW μ ν ρ) (hs : s < 154) (ha : a < 154) (hb : b < 154) : Sp l G yX12_times cX12_times 8 none 1 [.ref ν, iv (s : Int), iv (a : Int), iv (b : Int)] Λ sz μ (pV (fun μ' => RW μ' ν (up ρ s (((ρ a).mul (ρ b)).tr 96)) ∧ Fr [ν + 1, ν + 2] μ μ')) := by
  refine Sp.intro (by decide) (Nat.le_of_ble_eq_true rfl) (fun x hx hBD => ?_)
  refine v_lv [(0, .ref ν), (1, iv (s : Int)), (2, iv (a : Int)), (3, iv (b : Int))] rfl ?_
  have sA := PS.size_le (hw a ha).1
  have sB := PS.size_le (hw b hb).1
  have L123 : ∀ (nf : Nat) (k : Int) (m : Mem), (96 - k < (nf : Int)) → (0 ≤ k ∧ k ≤ 96) → (RW m ν (up ρ s ((ρ s).mix (((ρ a).mul (ρ b)).tr 96) k.toNat))) → (PB2 m ν ((ρ a).mul (ρ b))) → (Fr [ν + 1, ν + 2] μ m) → V G x (0, 0) Λ sz m 123 [(6, iv k), (0, .ref ν), (1, iv (s : Int)), (2, iv (a : Int)), (3, iv (b : Int))] [] := by
    intro nf
    induction nf with
    | zero => intro k m hm hk hm hp hf; exact absurd hm (by omega)
    | succ nf ih =>
      intro k m hm hk hm hp hf
      refine v_iload hx DX12_times_123 0 rfl ?_
      refine v_push hx DX12_times_125 ?_
      refine v_icmp_ge hx DX12_times_127 (by omega) (by decide) (fun c127 => ?_) (fun c127 => ?_)
      · skip
        exact v_rv hx hBD DX12_times_155 (⟨by have h2 := hm; rw [show k.toNat = 96 by omega] at h2; exact h2.done (hw s hs).1 PS.tr_lt, hf⟩)
      · skip
        refine v_aload hx DX12_times_130 1 rfl ?_
        refine v_get hx DX12_times_131 FLRX12_3 hR.o (v := .ref (ν + 1)) rfl ?_
        refine v_push hx DX12_times_134 ?_
        refine v_iload hx DX12_times_136 2 rfl ?_
        refine v_imul hx DX12_times_137 ?_
        refine v_iload hx DX12_times_138 0 rfl ?_
        refine v_iadd hx DX12_times_140 ?_
        refine v_aload hx DX12_times_141 1 rfl ?_
        refine v_get hx DX12_times_142 FLRX12_18 hR.o (v := .ref (ν + 2)) rfl ?_
        refine v_iload hx DX12_times_145 0 rfl ?_
        refine v_iald hx DX12_times_147 hR.product (by omega) (by decide) (z := cf ((ρ a).mul (ρ b)) k) (hp k (by omega) (by omega)) ?_
        refine v_iastm hx DX12_times_148 hR.p (by omega) (by decide) (fun μ1 eμ1 => ?_)
        refine v_iinc hx DX12_times_149 0 rfl [(6, iv (k + 1)), (0, .ref ν), (1, iv (s : Int)), (2, iv (a : Int)), (3, iv (b : Int))] rfl (by decide) ?_
        refine v_goto hx DX12_times_152 ?_
        exact v_sub [0, 1, 2, 3, 4] _ rfl (ih (k + 1) μ1 (by omega) (by omega) (by rw [eμ1]; exact hm.step (by omega) (by omega) (by unfold cf PS.tr; rw [if_pos (by omega)]) hs) (fun j h0 h1 => by rw [eμ1, mI_ne (by omega)]; exact hp j h0 h1) (hf.trans (by rw [eμ1]; exact Fr.mI (by simp))))
  have L52 : ∀ (nf : Nat) (i k : Int) (m : Mem), ((ρ b).size - k < (nf : Int)) → (0 ≤ i ∧ i < (ρ a).size) → (0 ≤ k ∧ k ≤ (ρ b).size) → (PB2 m ν ((((ρ a).tr i.toNat).mul (ρ b)).am ((ρ b).tr k.toNat) (ρ a i.toNat) i.toNat)) → (Fr [ν + 2] μ m) → (∀ (m2 : Mem), (PB2 m2 ν ((((ρ a).tr i.toNat).mul (ρ b)).am (ρ b) (ρ a i.toNat) i.toNat)) → (Fr [ν + 2] μ m2) → V G x (0, 0) Λ sz m2 114 [(6, iv i), (4, iv (((ρ a).size : Int) - 1)), (5, iv (((ρ b).size : Int) - 1)), (0, .ref ν), (1, iv (s : Int)), (2, iv (a : Int)), (3, iv (b : Int))] []) → V G x (0, 0) Λ sz m 52 [(7, iv k), (6, iv i), (4, iv (((ρ a).size : Int) - 1)), (5, iv (((ρ b).size : Int) - 1)), (0, .ref ν), (1, iv (s : Int)), (2, iv (a : Int)), (3, iv (b : Int))] [] := by
    intro nf
    induction nf with
    | zero => intro i k m hm hi hk hm hf hC; exact absurd hm (by omega)
    | succ nf ih =>
      intro i k m hm hi hk hm hf hC
      have hwm : RW m ν ρ := hw.fr (hf.1 _ (by simp))
      have h1 := cf_rng (ρ a) i
      have h2 := cf_rng (ρ b) k
      have h3 := mulb h1.1 h1.2 h2.1 h2.2
      have h4 := cf_rng ((((ρ a).tr i.toNat).mul (ρ b)).am ((ρ b).tr k.toNat) (ρ a i.toNat) i.toNat) (i + k)
      refine v_iload hx DX12_times_52 0 rfl ?_
      refine v_iload hx DX12_times_54 3 rfl ?_
      refine v_icmp_gt hx DX12_times_56 (by omega) (by omega) (fun c56 => ?_) (fun c56 => ?_)
      · skip
        exact v_sub [1, 2, 3, 4, 5, 6, 7] _ rfl (hC m (by rw [show k.toNat = (ρ b).size by omega, PS.tr_end (PS.lt_size (hw b hb).1)] at hm; exact hm) hf)
      · skip
        refine v_aload hx DX12_times_59 4 rfl ?_
        refine v_get hx DX12_times_60 FLRX12_18 hR.o (v := .ref (ν + 2)) rfl ?_
        refine v_iload hx DX12_times_63 1 rfl ?_
        refine v_iload hx DX12_times_65 0 rfl ?_
        refine v_iadd hx DX12_times_67 ?_
        refine v_aload hx DX12_times_68 4 rfl ?_
        refine v_get hx DX12_times_69 FLRX12_18 hR.o (v := .ref (ν + 2)) rfl ?_
        refine v_iload hx DX12_times_72 1 rfl ?_
        refine v_iload hx DX12_times_74 0 rfl ?_
        refine v_iadd hx DX12_times_76 ?_
        refine v_iald hx DX12_times_77 hR.product (by omega) (by decide) (z := cf ((((ρ a).tr i.toNat).mul (ρ b)).am ((ρ b).tr k.toNat) (ρ a i.toNat) i.toNat) (i + k)) (hm _ (by omega) (by omega)) ?_
        refine v_aload hx DX12_times_78 4 rfl ?_
        refine v_get hx DX12_times_79 FLRX12_3 hR.o (v := .ref (ν + 1)) rfl ?_
        refine v_push hx DX12_times_82 ?_
        refine v_iload hx DX12_times_84 6 rfl ?_
        refine v_imul hx DX12_times_85 ?_
        refine v_iload hx DX12_times_86 1 rfl ?_
        refine v_iadd hx DX12_times_88 ?_
        refine v_iald hx DX12_times_89 hR.p (by omega) (by decide) (z := cf (ρ a) i) (hwm.at ha (by omega) (by omega) rfl) ?_
        refine v_aload hx DX12_times_90 4 rfl ?_
        refine v_get hx DX12_times_91 FLRX12_3 hR.o (v := .ref (ν + 1)) rfl ?_
        refine v_push hx DX12_times_94 ?_
        refine v_iload hx DX12_times_96 7 rfl ?_
        refine v_imul hx DX12_times_97 ?_
        refine v_iload hx DX12_times_98 0 rfl ?_
        refine v_iadd hx DX12_times_100 ?_
        refine v_iald hx DX12_times_101 hR.p (by omega) (by decide) (z := cf (ρ b) k) (hwm.at hb (by omega) (by omega) rfl) ?_
        refine v_imul hx DX12_times_102 ?_
        refine v_iadd hx DX12_times_103 ?_
        refine v_push hx DX12_times_104 ?_
        refine v_irem hx (by omega) (by decide) DX12_times_106 ?_
        refine v_iastm hx DX12_times_107 hR.product (by omega) (by decide) (fun μ2 eμ2 => ?_)
        refine v_iinc hx DX12_times_108 0 rfl [(7, iv (k + 1)), (6, iv i), (4, iv (((ρ a).size : Int) - 1)), (5, iv (((ρ b).size : Int) - 1)), (0, .ref ν), (1, iv (s : Int)), (2, iv (a : Int)), (3, iv (b : Int))] rfl (by decide) ?_
        refine v_goto hx DX12_times_111 ?_
        exact v_sub [0, 1, 2, 3, 4, 5, 6, 7] _ rfl (ih i (k + 1) μ2 (by omega) hi (by omega) (hm.step (by omega) (by omega) (by rw [fi_add, fi_mul, fi_cf, fi_cf, fi_cf]) eμ2) (hf.trans (by rw [eμ2]; exact Fr.mI (by simp))) hC)
  have L42 : ∀ (nf : Nat) (i : Int) (m : Mem), ((ρ a).size - i < (nf : Int)) → (0 ≤ i ∧ i ≤ (ρ a).size) → (PB2 m ν (((ρ a).tr i.toNat).mul (ρ b))) → (Fr [ν + 2] μ m) → V G x (0, 0) Λ sz m 42 [(6, iv i), (4, iv (((ρ a).size : Int) - 1)), (5, iv (((ρ b).size : Int) - 1)), (0, .ref ν), (1, iv (s : Int)), (2, iv (a : Int)), (3, iv (b : Int))] [] := by
    intro nf
    induction nf with
    | zero => intro i m hm hi hm hf; exact absurd hm (by omega)
    | succ nf ih =>
      intro i m hm hi hm hf
      refine v_iload hx DX12_times_42 0 rfl ?_
      refine v_iload hx DX12_times_44 1 rfl ?_
      refine v_icmp_gt hx DX12_times_46 (by omega) (by omega) (fun c46 => ?_) (fun c46 => ?_)
      · skip
        refine v_push hx DX12_times_120 ?_
        refine v_istore hx DX12_times_121 [(6, iv 0), (4, iv (((ρ a).size : Int) - 1)), (5, iv (((ρ b).size : Int) - 1)), (0, .ref ν), (1, iv (s : Int)), (2, iv (a : Int)), (3, iv (b : Int))] rfl (by decide) ?_
        exact v_sub [0, 3, 4, 5, 6] _ rfl (L123 100 0 m (by omega) (by omega) ((hw.fr (hf.1 _ (by simp))).start s _) (by rw [show i.toNat = (ρ a).size by omega, PS.tr_end (PS.lt_size (hw a ha).1)] at hm; exact hm) (hf.mono (by simp)))
      · skip
        refine v_push hx DX12_times_49 ?_
        refine v_istore hx DX12_times_50 [(7, iv 0), (6, iv i), (4, iv (((ρ a).size : Int) - 1)), (5, iv (((ρ b).size : Int) - 1)), (0, .ref ν), (1, iv (s : Int)), (2, iv (a : Int)), (3, iv (b : Int))] rfl (by decide) ?_
        refine v_sub [0, 1, 2, 3, 4, 5, 6, 7] _ rfl (L52 200 i 0 m (by omega) (by omega) (by omega) (by rw [show Int.toNat 0 = 0 from rfl, am_tr0]; exact hm) hf (fun m2 hq hf2 => ?_))
        refine v_iinc hx DX12_times_114 0 rfl [(6, iv (i + 1)), (4, iv (((ρ a).size : Int) - 1)), (5, iv (((ρ b).size : Int) - 1)), (0, .ref ν), (1, iv (s : Int)), (2, iv (a : Int)), (3, iv (b : Int))] rfl (by decide) ?_
        refine v_goto hx DX12_times_117 ?_
        exact v_sub [0, 1, 2, 3, 4, 5, 6] _ rfl (ih (i + 1) m2 (by omega) (by omega) (by rw [show (i + 1).toNat = i.toNat + 1 by omega, PS.tr_mul_succ]; exact hq) (by first | exact hf2 | exact hf2.trans hf2))
  have L3 : ∀ (nf : Nat) (k : Int) (m : Mem), (192 - k < (nf : Int)) → (0 ≤ k ∧ k ≤ 192) → (∀ j : Int, 0 ≤ j → j < k → m.1 (ν + 2) j = 0) → (Fr [ν + 2] μ m) → V G x (0, 0) Λ sz m 3 [(4, iv k), (0, .ref ν), (1, iv (s : Int)), (2, iv (a : Int)), (3, iv (b : Int))] [] := by
    intro nf
    induction nf with
    | zero => intro k m hm hk hm hf; exact absurd hm (by omega)
    | succ nf ih =>
      intro k m hm hk hm hf
      have hwm : RW m ν ρ := hw.fr (hf.1 _ (by simp))
      refine v_iload hx DX12_times_3 0 rfl ?_
      refine v_push hx DX12_times_5 ?_
      refine v_icmp_ge hx DX12_times_8 (by omega) (by decide) (fun c8 => ?_) (fun c8 => ?_)
      · skip
        refine v_aload hx DX12_times_25 1 rfl ?_
        refine v_iload hx DX12_times_26 3 rfl ?_
        refine v_cVp hx DX12_times_27 CVRX12_15 [iv (a : Int)] (r_degree l G Λ sz m hR hwm ha) hR.o rfl rfl (Nat.le_of_ble_eq_true rfl) (by decide) ⟨Nat.le_refl _, Nat.le_refl _⟩ ?_
        refine v_istore hx DX12_times_30 [(4, iv (((ρ a).size : Int) - 1)), (0, .ref ν), (1, iv (s : Int)), (2, iv (a : Int)), (3, iv (b : Int))] rfl (by decide) ?_
        refine v_aload hx DX12_times_32 1 rfl ?_
        refine v_iload hx DX12_times_33 4 rfl ?_
        refine v_cVp hx DX12_times_34 CVRX12_15 [iv (b : Int)] (r_degree l G Λ sz m hR hwm hb) hR.o rfl rfl (Nat.le_of_ble_eq_true rfl) (by decide) ⟨Nat.le_refl _, Nat.le_refl _⟩ ?_
        refine v_istore hx DX12_times_37 [(5, iv (((ρ b).size : Int) - 1)), (4, iv (((ρ a).size : Int) - 1)), (0, .ref ν), (1, iv (s : Int)), (2, iv (a : Int)), (3, iv (b : Int))] rfl (by decide) ?_
        refine v_push hx DX12_times_39 ?_
        refine v_istore hx DX12_times_40 [(6, iv 0), (5, iv (((ρ b).size : Int) - 1)), (4, iv (((ρ a).size : Int) - 1)), (0, .ref ν), (1, iv (s : Int)), (2, iv (a : Int)), (3, iv (b : Int))] rfl (by decide) ?_
        exact v_sub [0, 2, 1, 3, 4, 5, 6] _ rfl (L42 200 0 m (by omega) (by omega) (fun j h0 h1 => by rw [hm j h0 (by omega), show Int.toNat 0 = 0 from rfl, PS.tr_zero, zero_mul0]; exact (cf_zero.mpr rfl).symm) hf)
      · skip
        refine v_aload hx DX12_times_11 1 rfl ?_
        refine v_get hx DX12_times_12 FLRX12_18 hR.o (v := .ref (ν + 2)) rfl ?_
        refine v_iload hx DX12_times_15 0 rfl ?_
        refine v_push hx DX12_times_17 ?_
        refine v_iastm hx DX12_times_18 hR.product (by omega) (by decide) (fun μ7 eμ7 => ?_)
        refine v_iinc hx DX12_times_19 0 rfl [(4, iv (k + 1)), (0, .ref ν), (1, iv (s : Int)), (2, iv (a : Int)), (3, iv (b : Int))] rfl (by decide) ?_
        refine v_goto hx DX12_times_22 ?_
        exact v_sub [0, 1, 2, 3, 4] _ rfl (ih (k + 1) μ7 (by omega) (by omega) (fun j h0 h1 => by rw [eμ7, mI_at]; exact (Classical.em (j = k)).elim (fun c => by rw [if_pos c]) (fun c => by rw [if_neg c]; exact hm j h0 (by omega))) (hf.trans (by rw [eμ7]; exact Fr.mI (by simp))))
  refine v_push hx DX12_times_0 ?_
  refine v_istore hx DX12_times_1 [(4, iv 0), (0, .ref ν), (1, iv (s : Int)), (2, iv (a : Int)), (3, iv (b : Int))] rfl (by decide) ?_
  exact v_sub [0, 1, 2, 3, 4] _ rfl (L3 200 0 μ (by omega) (by omega) (fun j h0 h1 => by omega) Fr.rf)
