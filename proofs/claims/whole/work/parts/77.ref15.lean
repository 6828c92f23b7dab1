/-! ===== the reference's rows of states ===== -/
def RwA (μ : Mem) (a : Nat) (o : Int) (b : Bd) : Prop := b.ok ∧ (∀ j : Int, 0 ≤ j → j < 180 → μ.1 a (o + j) = b.1 j) ∧ μ.1 a (o + 180) = b.2.2.1 ∧ (∀ j : Int, 0 ≤ j → j < 4 → μ.1 a (o + 181 + j) = b.2.1 j) ∧ μ.1 a (o + 185) = b.2.2.2
def FrA (a : Nat) (o e : Int) (μ μ' : Mem) : Prop := (∀ c, c ≠ a → μ'.1 c = μ.1 c) ∧ (∀ j : Int, j < o ∨ e ≤ j → μ'.1 a j = μ.1 a j) ∧ μ'.2 = μ.2
theorem FrA.rf {a : Nat} {o e : Int} {μ : Mem} : FrA a o e μ μ := ⟨fun _ _ => rfl, fun _ _ => rfl, rfl⟩
theorem FrA.trans {a : Nat} {o e : Int} {μ m m1 : Mem} (h : FrA a o e μ m) (h1 : FrA a o e m m1) : FrA a o e μ m1 := ⟨fun c hc => (h1.1 c hc).trans (h.1 c hc), fun j hj => (h1.2.1 j hj).trans (h.2.1 j hj), h1.2.2.trans h.2.2⟩
theorem FrA.mI {a : Nat} {o e i z : Int} {μ : Mem} (h : o ≤ i ∧ i < e) : FrA a o e μ (mI μ a i z) := ⟨fun c hc => mI_ne (by omega), fun j hj => by rw [mI_at, if_neg (by omega)], rfl⟩
theorem RwA.fr {μ μ' : Mem} {a : Nat} {o : Int} {b : Bd} (h : RwA μ a o b) (e : ∀ j : Int, o ≤ j → j < o + 186 → μ'.1 a j = μ.1 a j) : RwA μ' a o b :=
  ⟨h.1, fun j h0 h1 => by rw [e _ (by omega) (by omega)]; exact h.2.1 j h0 h1, by rw [e _ (by omega) (by omega)]; exact h.2.2.1, fun j h0 h1 => by rw [e _ (by omega) (by omega)]; exact h.2.2.2.1 j h0 h1, by rw [e _ (by omega) (by omega)]; exact h.2.2.2.2⟩
theorem RW.put1 {m : Mem} {ν : Nat} {σ : Nat → PS} {s : Nat} {k z : Int} {c : F} (h : RW m ν σ) (h0 : 0 ≤ k) (h1 : k < 96) (hz : z = (c.val : Int)) (hs : s < 154) : RW (mI m (ν + 1) (96 * (s : Int) + k) z) ν (up σ s ((σ s).set k.toNat c)) := by
  refine RW.put (P := σ s) ?_ h0 h1 hz hs
  have e : up σ s (σ s) = σ := funext fun a => by
    by_cases c : a = s
    · rw [c, up_at]
    · rw [up_ne c]
  rw [e]; exact h
theorem Bd.cell_at {b : Bd} {t k : Int} (ht : 0 ≤ t ∧ t < 15) (hk : 0 ≤ k ∧ k < 12) : b.cell t k = b.1 (12 * t + k) := by
  unfold Bd.cell
  rw [if_pos (by omega), show t * 12 + k = 12 * t + k by omega]
theorem Bd.num_at {b : Bd} (h : b.ok) {t k : Int} (ht : 0 ≤ t ∧ t < 15) (hk : 0 ≤ k ∧ k < 7) : cf (b.num t) k = b.1 (12 * t + k) := by
  rw [Bd.num_cf h (by omega) (by omega), Bd.cell_at ht (by omega)]
theorem Bd.den_at {b : Bd} (h : b.ok) {t k : Int} (ht : 0 ≤ t ∧ t < 15) (hk : 7 ≤ k ∧ k < 12) : cf (b.den t) (k - 7) = b.1 (12 * t + k) := by
  rw [Bd.den_cf h ht (by omega) (by omega), Bd.cell_at ht (by omega), show 12 * t + (7 + (k - 7)) = 12 * t + k by omega]
/-- what stands in the rows while a state is laid: k numbers of term t -/
def FS (m : Mem) (ν : Nat) (ρ σ : Nat → PS) (b : Bd) (t k : Int) : Prop := RW m ν σ ∧ (∀ r : Nat, (r : Int) < t → σ (2 * r) = b.num r ∧ σ (2 * r + 1) = b.den r) ∧ σ (2 * t.toNat) = (b.num t).tr (min k 7).toNat ∧ σ (2 * t.toNat + 1) = PS.one.mix (b.den t) (k - 7).toNat ∧ ∀ r : Nat, 2 * t + 2 ≤ (r : Int) → σ r = ρ r
theorem FS.n {m : Mem} {ν : Nat} {ρ σ : Nat → PS} {b : Bd} {t k z : Int} (h : FS m ν ρ σ b t k) (ht : 0 ≤ t ∧ t < 15) (hk : 0 ≤ k ∧ k < 7) (hb : b.ok) (hz : z = b.1 (12 * t + k)) : ∃ σ', FS (mI m (ν + 1) (96 * ((2 * t.toNat : Nat) : Int) + k) z) ν ρ σ' b t (k + 1) := by
  refine ⟨_, h.1.put1 (s := 2 * t.toNat) (c := b.num t k.toNat) (by omega) (by omega) (by rw [hz, ← Bd.num_at hb ht hk]; rfl) (by omega), fun r hr => ?_, ?_, ?_, fun r hr => ?_⟩
  · rw [up_ne (by omega), up_ne (by omega)]; exact h.2.1 r hr
  · rw [up_at, h.2.2.1, show (min k 7).toNat = k.toNat by omega, PS.tr_set, show (min (k + 1) 7).toNat = k.toNat + 1 by omega]
  · rw [up_ne (by omega), h.2.2.2.1, show (k - 7).toNat = 0 by omega, show (k + 1 - 7).toNat = 0 by omega]
  · rw [up_ne (by omega)]; exact h.2.2.2.2 r hr
theorem FS.d {m : Mem} {ν : Nat} {ρ σ : Nat → PS} {b : Bd} {t k z : Int} (h : FS m ν ρ σ b t k) (ht : 0 ≤ t ∧ t < 15) (hk : 7 ≤ k ∧ k < 12) (hb : b.ok) (hz : z = b.1 (12 * t + k)) : ∃ σ', FS (mI m (ν + 1) (96 * ((2 * t.toNat + 1 : Nat) : Int) + (k - 7)) z) ν ρ σ' b t (k + 1) := by
  refine ⟨_, h.1.put1 (s := 2 * t.toNat + 1) (c := b.den t (k - 7).toNat) (by omega) (by omega) (by rw [hz, ← Bd.den_at hb ht hk]; rfl) (by omega), fun r hr => ?_, ?_, ?_, fun r hr => ?_⟩
  · rw [up_ne (by omega), up_ne (by omega)]; exact h.2.1 r hr
  · rw [up_ne (by omega), h.2.2.1, show (min k 7).toNat = 7 by omega, show (min (k + 1) 7).toNat = 7 by omega]
  · rw [up_at, h.2.2.2.1, PS.mix_set, show (k + 1 - 7).toNat = (k - 7).toNat + 1 by omega]
  · rw [up_ne (by omega)]; exact h.2.2.2.2 r hr
theorem FS.next {m : Mem} {ν : Nat} {ρ σ : Nat → PS} {b : Bd} {t : Int} (h : FS m ν ρ σ b t 12) (ht : 0 ≤ t ∧ t < 15) : ∀ r : Nat, (r : Int) < t + 1 → σ (2 * r) = b.num r ∧ σ (2 * r + 1) = b.den r := by
  intro r hr
  by_cases c : (r : Int) < t
  · exact h.2.1 r c
  · have e : t.toNat = r := by omega
    have e2 : t = (r : Int) := by omega
    have h1 := h.2.2.1
    have h2 := h.2.2.2.1
    rw [e, e2] at h1 h2
    refine ⟨h1.trans (PS.tr_end (b.num_lt _)), h2.trans ?_⟩
    refine PS.ext fun j => ?_
    unfold PS.mix
    by_cases d : j < 5
    · rw [if_pos (show j < ((12 : Int) - 7).toNat by omega)]
    · rw [if_neg (show ¬ j < ((12 : Int) - 7).toNat by omega), b.den_lt _ j (by omega)]
      exact PS.C_lt 1 j (by omega)
theorem FS.start {m : Mem} {ν : Nat} {ρ σ : Nat → PS} {b : Bd} {t : Int} (ht : 0 ≤ t ∧ t < 15) (hw : RW m ν (up (up σ (2 * t.toNat) PS.zero) (2 * t.toNat + 1) PS.one)) (h1 : ∀ r : Nat, (r : Int) < t → σ (2 * r) = b.num r ∧ σ (2 * r + 1) = b.den r) (h2 : ∀ r : Nat, 2 * t ≤ (r : Int) → σ r = ρ r) : FS m ν ρ (up (up σ (2 * t.toNat) PS.zero) (2 * t.toNat + 1) PS.one) b t 0 := by
  refine ⟨hw, fun r hr => ?_, ?_, ?_, fun r hr => ?_⟩
  · rw [up_ne (by omega), up_ne (by omega), up_ne (by omega), up_ne (by omega)]; exact h1 r hr
  · rw [up_ne (by omega), up_at]
    refine PS.ext fun j => ?_
    unfold PS.tr
    rw [if_neg (show ¬ j < (min (0 : Int) 7).toNat by omega)]; rfl
  · rw [up_at]
    refine PS.ext fun j => ?_
    unfold PS.mix
    rw [if_neg (show ¬ j < ((0 : Int) - 7).toNat by omega)]
  · rw [up_ne (by omega), up_ne (by omega)]; exact h2 r (by omega)
theorem r_laysRow (l : Launch) (G : Gl) (Λ : Lay) (sz : Nat) (μ : Mem) {ν : Nat} {ρ : Nat → PS} {b : Bd} {a c : Nat} {o : Int} (hR : refK Λ ν) (ha : RA μ ν ρ b) (hA : Λ a = some (.inr (0, c, []))) (ho : 0 ≤ o ∧ o + 186 ≤ (c : Int) ∧ c ≤ 2000) (hn : a ≠ ν ∧ a ≠ ν + 1 ∧ a ≠ ν + 3) : Sp l G yX12_laysRow cX12_laysRow 5 none 1 [.ref ν, .ref a, iv o] Λ sz μ (pV (fun μ' => RwA μ' a o b ∧ FrA a o (o + 186) μ μ')) := by
  refine Sp.intro (by decide) (Nat.le_of_ble_eq_true rfl) (fun x hx hBD => ?_)
  refine v_lv [(0, .ref ν), (1, .ref a), (2, iv o)] rfl ?_
  have L97 : ∀ (nf : Nat) (k : Int) (m : Mem), (4 - k < (nf : Int)) → (0 ≤ k ∧ k ≤ 4) → (∀ j : Int, 0 ≤ j → j < 180 → m.1 a (o + j) = b.1 j) → (m.1 a (o + 180) = b.2.2.1) → (∀ j : Int, 0 ≤ j → j < k → m.1 a (o + 181 + j) = b.2.1 j) → (FrA a o (o + 186) μ m) → V G x (0, 0) Λ sz m 97 [(3, iv k), (0, .ref ν), (1, .ref a), (2, iv o)] [] := by
    intro nf
    induction nf with
    | zero => intro k m hm hk hj hkd hu hf; exact absurd hm (by omega)
    | succ nf ih =>
      intro k m hm hk hj hkd hu hf
      refine v_iload hx DX12_laysRow_97 0 rfl ?_
      refine v_push hx DX12_laysRow_98 ?_
      refine v_icmp_ge hx DX12_laysRow_99 (by omega) (by decide) (fun c99 => ?_) (fun c99 => ?_)
      · skip
        refine v_aload hx DX12_laysRow_123 2 rfl ?_
        refine v_iload hx DX12_laysRow_124 3 rfl ?_
        refine v_push hx DX12_laysRow_125 ?_
        refine v_iadd hx DX12_laysRow_128 ?_
        refine v_aload hx DX12_laysRow_129 1 rfl ?_
        refine v_get hx DX12_laysRow_130 FLRX12_71 hR.o (fv_i rfl ((congrFun (hf.1 ν (by omega)) 4).trans ha.2.2.2.2.2) : _ = iv b.2.2.2) ?_
        refine v_iastm hx DX12_laysRow_133 hA (by omega) (by omega) (fun μ1 eμ1 => ?_)
        exact v_rv hx hBD DX12_laysRow_134 (⟨⟨ha.2.1, fun j h0 h1 => by rw [eμ1, mI_at, if_neg (by omega)]; exact hj j h0 h1, by rw [eμ1, mI_at, if_neg (by omega)]; exact hkd, fun j h0 h1 => by rw [eμ1, mI_at, if_neg (by omega)]; exact hu j h0 (by omega), by rw [eμ1, mI_at, if_pos rfl]⟩, (hf.trans (by rw [eμ1]; exact FrA.mI (by omega)))⟩)
      · skip
        refine v_aload hx DX12_laysRow_102 2 rfl ?_
        refine v_iload hx DX12_laysRow_103 3 rfl ?_
        refine v_push hx DX12_laysRow_104 ?_
        refine v_iadd hx DX12_laysRow_107 ?_
        refine v_iload hx DX12_laysRow_108 0 rfl ?_
        refine v_iadd hx DX12_laysRow_109 ?_
        refine v_aload hx DX12_laysRow_110 1 rfl ?_
        refine v_get hx DX12_laysRow_111 FLRX12_68 hR.o (v := .ref (ν + 3)) rfl ?_
        refine v_iload hx DX12_laysRow_114 0 rfl ?_
        refine v_iald hx DX12_laysRow_115 hR.u (by omega) (by decide) (z := b.2.1 k) ((congrFun (hf.1 (ν + 3) (by omega)) k).trans (ha.2.2.2.1 k (by omega) (by omega))) ?_
        refine v_iastm hx DX12_laysRow_116 hA (by omega) (by omega) (fun μ2 eμ2 => ?_)
        refine v_iinc hx DX12_laysRow_117 0 rfl [(3, iv (k + 1)), (0, .ref ν), (1, .ref a), (2, iv o)] rfl (by decide) ?_
        refine v_goto hx DX12_laysRow_120 ?_
        exact v_sub [0, 1, 2, 3] _ rfl (ih (k + 1) μ2 (by omega) (by omega) (fun j h0 h1 => by rw [eμ2, mI_at, if_neg (by omega)]; exact hj j h0 h1) (by rw [eμ2, mI_at, if_neg (by omega)]; exact hkd) (fun j h0 h1 => by rw [eμ2, mI_at]; exact (Classical.em (j = k)).elim (fun q => by rw [if_pos (by omega), q]) (fun q => by rw [if_neg (by omega)]; exact hu j h0 (by omega))) (hf.trans (by rw [eμ2]; exact FrA.mI (by omega))))
  have L11 : ∀ (nf : Nat) (t k : Int) (m : Mem), (12 - k < (nf : Int)) → (0 ≤ t ∧ t < 15) → (0 ≤ k ∧ k ≤ 12) → (∀ j : Int, 0 ≤ j → j < 12 * t + k → m.1 a (o + j) = b.1 j) → (FrA a o (o + 186) μ m) → (∀ (m2 : Mem), (∀ j : Int, 0 ≤ j → j < 12 * t + 12 → m2.1 a (o + j) = b.1 j) → (FrA a o (o + 186) μ m2) → V G x (0, 0) Λ sz m2 78 [(3, iv t), (0, .ref ν), (1, .ref a), (2, iv o)] []) → V G x (0, 0) Λ sz m 11 [(4, iv k), (3, iv t), (0, .ref ν), (1, .ref a), (2, iv o)] [] := by
    intro nf
    induction nf with
    | zero => intro t k m hm ht hk hj hf hC; exact absurd hm (by omega)
    | succ nf ih =>
      intro t k m hm ht hk hj hf hC
      have hwm := ha.1.fr (hf.1 (ν + 1) (by omega))
      have en := ha.num (t := t) (by omega)
      have ed := ha.den (t := t) (by omega)
      refine v_iload hx DX12_laysRow_11 0 rfl ?_
      refine v_push hx DX12_laysRow_13 ?_
      refine v_icmp_ge hx DX12_laysRow_15 (by omega) (by decide) (fun c15 => ?_) (fun c15 => ?_)
      · skip
        exact v_sub [1, 2, 3, 4] _ rfl (hC m (fun j h0 h1 => hj j h0 (by omega)) hf)
      · skip
        refine v_aload hx DX12_laysRow_18 3 rfl ?_
        refine v_iload hx DX12_laysRow_19 4 rfl ?_
        refine v_push hx DX12_laysRow_20 ?_
        refine v_iload hx DX12_laysRow_22 1 rfl ?_
        refine v_imul hx DX12_laysRow_23 ?_
        refine v_iadd hx DX12_laysRow_24 ?_
        refine v_iload hx DX12_laysRow_25 0 rfl ?_
        refine v_iadd hx DX12_laysRow_27 ?_
        refine v_iload hx DX12_laysRow_28 0 rfl ?_
        refine v_push hx DX12_laysRow_30 ?_
        refine v_icmp_ge hx DX12_laysRow_32 (by omega) (by decide) (fun c32 => ?_) (fun c32 => ?_)
        · skip
          refine v_aload hx DX12_laysRow_53 2 rfl ?_
          refine v_get hx DX12_laysRow_54 FLRX12_3 hR.o (v := .ref (ν + 1)) rfl ?_
          refine v_push hx DX12_laysRow_57 ?_
          refine v_iload hx DX12_laysRow_59 1 rfl ?_
          refine v_cSp hx DX12_laysRow_60 CSRX12_41 [iv t] (r_belowI (t := t) l G Λ sz m (by omega)) rfl rfl (Nat.le_of_ble_eq_true rfl) (by decide) ⟨Nat.le_refl _, Nat.le_refl _⟩ ?_
          refine v_imul hx DX12_laysRow_63 ?_
          refine v_iload hx DX12_laysRow_64 0 rfl ?_
          refine v_iadd hx DX12_laysRow_66 ?_
          refine v_push hx DX12_laysRow_67 ?_
          refine v_isub hx DX12_laysRow_69 ?_
          refine v_iald hx DX12_laysRow_70 hR.p (by omega) (by decide) (z := cf (b.den t) (k - 7)) (by rw [show 96 * ((2 * t.toNat + 1 : Nat) : Int) + k - 7 = 96 * ((2 * t.toNat + 1 : Nat) : Int) + (k - 7) by omega]; exact hwm.at (s := 2 * t.toNat + 1) (by omega) (by omega) (by omega) ed) ?_
          have hval : (cf (b.den t) (k - 7)) = b.1 (12 * t + k) := Bd.den_at ha.2.1 (by omega) (by omega)
          refine v_iastm hx DX12_laysRow_71 hA (by omega) (by omega) (fun μ5 eμ5 => ?_)
          refine v_iinc hx DX12_laysRow_72 0 rfl [(4, iv (k + 1)), (3, iv t), (0, .ref ν), (1, .ref a), (2, iv o)] rfl (by decide) ?_
          refine v_goto hx DX12_laysRow_75 ?_
          exact v_sub [0, 1, 2, 3, 4] _ rfl (ih t (k + 1) μ5 (by omega) (by omega) (by omega) (fun j h0 h1 => by rw [eμ5, mI_at]; exact (Classical.em (j = 12 * t + k)).elim (fun q => by rw [if_pos (by omega), q]; exact hval) (fun q => by rw [if_neg (by omega)]; exact hj j h0 (by omega))) (hf.trans (by rw [eμ5]; exact FrA.mI (by omega))) hC)
        · skip
          refine v_aload hx DX12_laysRow_35 2 rfl ?_
          refine v_get hx DX12_laysRow_36 FLRX12_3 hR.o (v := .ref (ν + 1)) rfl ?_
          refine v_push hx DX12_laysRow_39 ?_
          refine v_iload hx DX12_laysRow_41 1 rfl ?_
          refine v_cSp hx DX12_laysRow_42 CSRX12_38 [iv t] (r_aboveI (t := t) l G Λ sz m (by omega)) rfl rfl (Nat.le_of_ble_eq_true rfl) (by decide) ⟨Nat.le_refl _, Nat.le_refl _⟩ ?_
          refine v_imul hx DX12_laysRow_45 ?_
          refine v_iload hx DX12_laysRow_46 0 rfl ?_
          refine v_iadd hx DX12_laysRow_48 ?_
          refine v_iald hx DX12_laysRow_49 hR.p (by omega) (by decide) (z := cf (b.num t) k) (hwm.at (s := 2 * t.toNat) (by omega) (by omega) (by omega) en) ?_
          refine v_goto hx DX12_laysRow_50 ?_
          have hval : (cf (b.num t) k) = b.1 (12 * t + k) := Bd.num_at ha.2.1 (by omega) (by omega)
          refine v_iastm hx DX12_laysRow_71 hA (by omega) (by omega) (fun μ8 eμ8 => ?_)
          refine v_iinc hx DX12_laysRow_72 0 rfl [(4, iv (k + 1)), (3, iv t), (0, .ref ν), (1, .ref a), (2, iv o)] rfl (by decide) ?_
          refine v_goto hx DX12_laysRow_75 ?_
          exact v_sub [0, 1, 2, 3, 4] _ rfl (ih t (k + 1) μ8 (by omega) (by omega) (by omega) (fun j h0 h1 => by rw [eμ8, mI_at]; exact (Classical.em (j = 12 * t + k)).elim (fun q => by rw [if_pos (by omega), q]; exact hval) (fun q => by rw [if_neg (by omega)]; exact hj j h0 (by omega))) (hf.trans (by rw [eμ8]; exact FrA.mI (by omega))) hC)
  have L2 : ∀ (nf : Nat) (t : Int) (m : Mem), (15 - t < (nf : Int)) → (0 ≤ t ∧ t ≤ 15) → (∀ j : Int, 0 ≤ j → j < 12 * t → m.1 a (o + j) = b.1 j) → (FrA a o (o + 186) μ m) → V G x (0, 0) Λ sz m 2 [(3, iv t), (0, .ref ν), (1, .ref a), (2, iv o)] [] := by
    intro nf
    induction nf with
    | zero => intro t m hm ht hj hf; exact absurd hm (by omega)
    | succ nf ih =>
      intro t m hm ht hj hf
      refine v_iload hx DX12_laysRow_2 0 rfl ?_
      refine v_push hx DX12_laysRow_3 ?_
      refine v_icmp_ge hx DX12_laysRow_5 (by omega) (by decide) (fun c5 => ?_) (fun c5 => ?_)
      · skip
        refine v_aload hx DX12_laysRow_84 2 rfl ?_
        refine v_iload hx DX12_laysRow_85 3 rfl ?_
        refine v_push hx DX12_laysRow_86 ?_
        refine v_iadd hx DX12_laysRow_89 ?_
        refine v_aload hx DX12_laysRow_90 1 rfl ?_
        refine v_get hx DX12_laysRow_91 FLRX12_125 hR.o (fv_i rfl ((congrFun (hf.1 ν (by omega)) 2).trans ha.2.2.2.2.1) : _ = iv b.2.2.1) ?_
        refine v_iastm hx DX12_laysRow_94 hA (by omega) (by omega) (fun μ9 eμ9 => ?_)
        refine v_push hx DX12_laysRow_95 ?_
        refine v_istore hx DX12_laysRow_96 [(3, iv 0), (0, .ref ν), (1, .ref a), (2, iv o)] rfl (by decide) ?_
        exact v_sub [0, 1, 2, 3] _ rfl (L97 100 0 μ9 (by omega) (by omega) (fun j h0 h1 => by rw [eμ9, mI_at, if_neg (by omega)]; exact hj j h0 (by omega)) (by rw [eμ9, mI_at, if_pos rfl]) (fun j h0 h1 => by omega) (hf.trans (by rw [eμ9]; exact FrA.mI (by omega))))
      · skip
        refine v_push hx DX12_laysRow_8 ?_
        refine v_istore hx DX12_laysRow_9 [(4, iv 0), (3, iv t), (0, .ref ν), (1, .ref a), (2, iv o)] rfl (by decide) ?_
        refine v_sub [0, 1, 2, 3, 4] _ rfl (L11 100 t 0 m (by omega) (by omega) (by omega) (fun j h0 h1 => hj j h0 (by omega)) hf (fun m2 hj2 hf2 => ?_))
        refine v_iinc hx DX12_laysRow_78 0 rfl [(3, iv (t + 1)), (0, .ref ν), (1, .ref a), (2, iv o)] rfl (by decide) ?_
        refine v_goto hx DX12_laysRow_81 ?_
        exact v_sub [0, 1, 2, 3] _ rfl (ih (t + 1) m2 (by omega) (by omega) (fun j h0 h1 => hj2 j h0 (by omega)) hf2)
  refine v_push hx DX12_laysRow_0 ?_
  refine v_istore hx DX12_laysRow_1 [(3, iv 0), (0, .ref ν), (1, .ref a), (2, iv o)] rfl (by decide) ?_
  exact v_sub [0, 1, 2, 3] _ rfl (L2 100 0 μ (by omega) (by omega) (fun j h0 h1 => by omega) FrA.rf)
theorem r_fromRow (l : Launch) (G : Gl) (Λ : Lay) (sz : Nat) (μ : Mem) {ν : Nat} {ρ : Nat → PS} {b : Bd} {a c : Nat} {o : Int} (hR : refK Λ ν) (hw : RW μ ν ρ) (hb : RwA μ a o b) (hA : Λ a = some (.inr (0, c, []))) (ho : 0 ≤ o ∧ o + 186 ≤ (c : Int) ∧ c ≤ 2000) (hn : a ≠ ν ∧ a ≠ ν + 1 ∧ a ≠ ν + 3) : Sp l G yX12_fromRow cX12_fromRow 5 none 3 [.ref ν, .ref a, iv o] Λ sz μ (pV (fun μ' => ∃ σ, RA μ' ν σ b ∧ (∀ r : Nat, 30 ≤ r → σ r = ρ r) ∧ FrN ν [ν + 1, ν + 3] [2, 4] μ μ')) := by
  refine Sp.intro (by decide) (Nat.le_of_ble_eq_true rfl) (fun x hx hBD => ?_)
  refine v_lv [(0, .ref ν), (1, .ref a), (2, iv o)] rfl ?_
  have L103 : ∀ (nf : Nat) (k : Int) (m : Mem) (σ : Nat → PS), (4 - k < (nf : Int)) → (0 ≤ k ∧ k ≤ 4) → (RW m ν σ) → (∀ r : Nat, (r : Int) < 15 → σ (2 * r) = b.num r ∧ σ (2 * r + 1) = b.den r) → (∀ r : Nat, 30 ≤ r → σ r = ρ r) → (∀ j : Int, 0 ≤ j → j < k → m.1 (ν + 3) j = b.2.1 j) → (m.1 ν 2 = b.2.2.1) → (Fr [ν, ν + 1, ν + 3] μ m) → (∀ j : Int, j ≠ 2 → m.1 ν j = μ.1 ν j) → V G x (0, 0) Λ sz m 103 [(3, iv k), (0, .ref ν), (1, .ref a), (2, iv o)] [] := by
    intro nf
    induction nf with
    | zero => intro k m σ hm hk h1 h2 h3 hu hkd hf hq; exact absurd hm (by omega)
    | succ nf ih =>
      intro k m σ hm hk h1 h2 h3 hu hkd hf hq
      refine v_iload hx DX12_fromRow_103 0 rfl ?_
      refine v_push hx DX12_fromRow_104 ?_
      refine v_icmp_ge hx DX12_fromRow_105 (by omega) (by decide) (fun c105 => ?_) (fun c105 => ?_)
      · skip
        refine v_aload hx DX12_fromRow_129 1 rfl ?_
        refine v_aload hx DX12_fromRow_130 2 rfl ?_
        refine v_iload hx DX12_fromRow_131 3 rfl ?_
        refine v_push hx DX12_fromRow_132 ?_
        refine v_iadd hx DX12_fromRow_135 ?_
        refine v_iald hx DX12_fromRow_136 hA (by omega) (by omega) (z := b.2.2.2) ((congrFun (hf.1 a (by simp; omega)) (o + 185)).trans hb.2.2.2.2) ?_
        refine v_pI hx DX12_fromRow_137 FPRX12_71 hR.o rfl (ki := 4) rfl (fun μ1 eμ1 => ?_)
        exact v_rv hx hBD DX12_fromRow_140 (⟨σ, ⟨h1.fr (by rw [eμ1, mI_ne (by omega)]), hb.1, fun t ht => h2 t (by omega), fun j h0 h1 => by rw [eμ1, mI_ne (by omega)]; exact hu j h0 (by omega), by rw [eμ1, mI_at, if_neg (by omega)]; exact hkd, by rw [eμ1, mI_at, if_pos (by omega)]⟩, h3, ⟨fun a g1 g2 => by simp at g2; rw [eμ1, mI_ne (by omega)]; exact hf.1 a (by simp; omega), fun j g => by simp at g; rw [eμ1, mI_at, if_neg (by omega)]; exact hq j g.1, by rw [eμ1]; exact hf.2⟩⟩)
      · skip
        refine v_aload hx DX12_fromRow_108 1 rfl ?_
        refine v_get hx DX12_fromRow_109 FLRX12_68 hR.o (v := .ref (ν + 3)) rfl ?_
        refine v_iload hx DX12_fromRow_112 0 rfl ?_
        refine v_aload hx DX12_fromRow_113 2 rfl ?_
        refine v_iload hx DX12_fromRow_114 3 rfl ?_
        refine v_push hx DX12_fromRow_115 ?_
        refine v_iadd hx DX12_fromRow_118 ?_
        refine v_iload hx DX12_fromRow_119 0 rfl ?_
        refine v_iadd hx DX12_fromRow_120 ?_
        refine v_iald hx DX12_fromRow_121 hA (by omega) (by omega) (z := b.2.1 k) ((congrFun (hf.1 a (by simp; omega)) (o + 181 + k)).trans (hb.2.2.2.1 k hk.1 (by omega))) ?_
        refine v_iastm hx DX12_fromRow_122 hR.u (by omega) (by decide) (fun μ2 eμ2 => ?_)
        refine v_iinc hx DX12_fromRow_123 0 rfl [(3, iv (k + 1)), (0, .ref ν), (1, .ref a), (2, iv o)] rfl (by decide) ?_
        refine v_goto hx DX12_fromRow_126 ?_
        exact v_sub [0, 1, 2, 3] _ rfl (ih (k + 1) μ2 σ (by omega) (by omega) (h1.fr (by rw [eμ2, mI_ne (by omega)])) h2 h3 (fun j h0 h1 => by rw [eμ2, mI_at]; exact (Classical.em (j = k)).elim (fun q => by rw [if_pos (by omega), q]) (fun q => by rw [if_neg (by omega)]; exact hu j h0 (by omega))) (by rw [eμ2, mI_ne (by omega)]; exact hkd) (hf.trans (by rw [eμ2]; exact Fr.mI (by simp))) (fun j hj => by rw [eμ2, mI_ne (by omega)]; exact hq j hj))
  have L16 : ∀ (nf : Nat) (t k : Int) (m : Mem) (σ : Nat → PS), (12 - k < (nf : Int)) → (0 ≤ t ∧ t < 15) → (0 ≤ k ∧ k ≤ 12) → (FS m ν ρ σ b t k) → (Fr [ν + 1] μ m) → (∀ (m2 : Mem) (σ2 : Nat → PS), (FS m2 ν ρ σ2 b t 12) → (Fr [ν + 1] μ m2) → V G x (0, 0) Λ sz m2 84 [(3, iv t), (0, .ref ν), (1, .ref a), (2, iv o)] []) → V G x (0, 0) Λ sz m 16 [(4, iv k), (3, iv t), (0, .ref ν), (1, .ref a), (2, iv o)] [] := by
    intro nf
    induction nf with
    | zero => intro t k m σ hm ht hk hs hf hC; exact absurd hm (by omega)
    | succ nf ih =>
      intro t k m σ hm ht hk hs hf hC
      have hva : k < 12 → m.1 a (o + 12 * t + k) = b.1 (12 * t + k) := fun h12 => by rw [hf.1 a (by simp; omega), show o + 12 * t + k = o + (12 * t + k) by omega]; exact hb.2.1 _ (by omega) (by omega)
      refine v_iload hx DX12_fromRow_16 0 rfl ?_
      refine v_push hx DX12_fromRow_18 ?_
      refine v_icmp_ge hx DX12_fromRow_20 (by omega) (by decide) (fun c20 => ?_) (fun c20 => ?_)
      · skip
        exact v_sub [1, 2, 3, 4] _ rfl (hC m σ (by have h2 := hs; rw [show k = 12 by omega] at h2; exact h2) hf)
      · skip
        refine v_aload hx DX12_fromRow_23 2 rfl ?_
        refine v_get hx DX12_fromRow_24 FLRX12_3 hR.o (v := .ref (ν + 1)) rfl ?_
        refine v_push hx DX12_fromRow_27 ?_
        refine v_iload hx DX12_fromRow_29 0 rfl ?_
        refine v_push hx DX12_fromRow_31 ?_
        refine v_icmp_ge hx DX12_fromRow_33 (by omega) (by decide) (fun c33 => ?_) (fun c33 => ?_)
        · skip
          refine v_iload hx DX12_fromRow_43 1 rfl ?_
          refine v_cSp hx DX12_fromRow_44 CSRX12_41 [iv t] (r_belowI (t := t) l G Λ sz m (by omega)) rfl rfl (Nat.le_of_ble_eq_true rfl) (by decide) ⟨Nat.le_refl _, Nat.le_refl _⟩ ?_
          refine v_imul hx DX12_fromRow_47 ?_
          refine v_iload hx DX12_fromRow_48 0 rfl ?_
          refine v_push hx DX12_fromRow_50 ?_
          refine v_icmp_ge hx DX12_fromRow_52 (by omega) (by decide) (fun c52 => ?_) (fun c52 => ?_)
          · skip
            refine v_iload hx DX12_fromRow_60 0 rfl ?_
            refine v_push hx DX12_fromRow_62 ?_
            refine v_isub hx DX12_fromRow_64 ?_
            refine v_iadd hx DX12_fromRow_65 ?_
            refine v_aload hx DX12_fromRow_66 3 rfl ?_
            refine v_iload hx DX12_fromRow_67 4 rfl ?_
            refine v_push hx DX12_fromRow_68 ?_
            refine v_iload hx DX12_fromRow_70 1 rfl ?_
            refine v_imul hx DX12_fromRow_71 ?_
            refine v_iadd hx DX12_fromRow_72 ?_
            refine v_iload hx DX12_fromRow_73 0 rfl ?_
            refine v_iadd hx DX12_fromRow_75 ?_
            refine v_iald hx DX12_fromRow_76 hA (by omega) (by omega) (z := b.1 (12 * t + k)) (hva (by omega)) ?_
            refine v_iastm hx DX12_fromRow_77 hR.p (by omega) (by decide) (fun μ5 eμ5 => ?_)
            obtain ⟨σ1, hσ1⟩ := hs.d ht (by omega) hb.1 rfl
            rw [← eμ5] at hσ1
            refine v_iinc hx DX12_fromRow_78 0 rfl [(4, iv (k + 1)), (3, iv t), (0, .ref ν), (1, .ref a), (2, iv o)] rfl (by decide) ?_
            refine v_goto hx DX12_fromRow_81 ?_
            exact v_sub [0, 1, 2, 3, 4] _ rfl (ih t (k + 1) μ5 σ1 (by omega) (by omega) (by omega) hσ1 (hf.trans (by rw [eμ5]; exact Fr.mI (by simp))) hC)
          · exact absurd c52 (by omega)
        · skip
          refine v_iload hx DX12_fromRow_36 1 rfl ?_
          refine v_cSp hx DX12_fromRow_37 CSRX12_38 [iv t] (r_aboveI (t := t) l G Λ sz m (by omega)) rfl rfl (Nat.le_of_ble_eq_true rfl) (by decide) ⟨Nat.le_refl _, Nat.le_refl _⟩ ?_
          refine v_goto hx DX12_fromRow_40 ?_
          refine v_imul hx DX12_fromRow_47 ?_
          refine v_iload hx DX12_fromRow_48 0 rfl ?_
          refine v_push hx DX12_fromRow_50 ?_
          refine v_icmp_ge hx DX12_fromRow_52 (by omega) (by decide) (fun c52 => ?_) (fun c52 => ?_)
          · exact absurd c52 (by omega)
          · skip
            refine v_iload hx DX12_fromRow_55 0 rfl ?_
            refine v_goto hx DX12_fromRow_57 ?_
            refine v_iadd hx DX12_fromRow_65 ?_
            refine v_aload hx DX12_fromRow_66 3 rfl ?_
            refine v_iload hx DX12_fromRow_67 4 rfl ?_
            refine v_push hx DX12_fromRow_68 ?_
            refine v_iload hx DX12_fromRow_70 1 rfl ?_
            refine v_imul hx DX12_fromRow_71 ?_
            refine v_iadd hx DX12_fromRow_72 ?_
            refine v_iload hx DX12_fromRow_73 0 rfl ?_
            refine v_iadd hx DX12_fromRow_75 ?_
            refine v_iald hx DX12_fromRow_76 hA (by omega) (by omega) (z := b.1 (12 * t + k)) (hva (by omega)) ?_
            refine v_iastm hx DX12_fromRow_77 hR.p (by omega) (by decide) (fun μ8 eμ8 => ?_)
            obtain ⟨σ1, hσ1⟩ := hs.n ht (by omega) hb.1 rfl
            rw [← eμ8] at hσ1
            refine v_iinc hx DX12_fromRow_78 0 rfl [(4, iv (k + 1)), (3, iv t), (0, .ref ν), (1, .ref a), (2, iv o)] rfl (by decide) ?_
            refine v_goto hx DX12_fromRow_81 ?_
            exact v_sub [0, 1, 2, 3, 4] _ rfl (ih t (k + 1) μ8 σ1 (by omega) (by omega) (by omega) hσ1 (hf.trans (by rw [eμ8]; exact Fr.mI (by simp))) hC)
  have L2 : ∀ (nf : Nat) (t : Int) (m : Mem) (σ : Nat → PS), (15 - t < (nf : Int)) → (0 ≤ t ∧ t ≤ 15) → (RW m ν σ) → (∀ r : Nat, (r : Int) < t → σ (2 * r) = b.num r ∧ σ (2 * r + 1) = b.den r) → (∀ r : Nat, 2 * t ≤ (r : Int) → σ r = ρ r) → (Fr [ν + 1] μ m) → V G x (0, 0) Λ sz m 2 [(3, iv t), (0, .ref ν), (1, .ref a), (2, iv o)] [] := by
    intro nf
    induction nf with
    | zero => intro t m σ hm ht h1 h2 h3 hf; exact absurd hm (by omega)
    | succ nf ih =>
      intro t m σ hm ht h1 h2 h3 hf
      refine v_iload hx DX12_fromRow_2 0 rfl ?_
      refine v_push hx DX12_fromRow_3 ?_
      refine v_icmp_ge hx DX12_fromRow_5 (by omega) (by decide) (fun c5 => ?_) (fun c5 => ?_)
      · skip
        refine v_aload hx DX12_fromRow_90 1 rfl ?_
        refine v_aload hx DX12_fromRow_91 2 rfl ?_
        refine v_iload hx DX12_fromRow_92 3 rfl ?_
        refine v_push hx DX12_fromRow_93 ?_
        refine v_iadd hx DX12_fromRow_96 ?_
        refine v_iald hx DX12_fromRow_97 hA (by omega) (by omega) (z := b.2.2.1) ((congrFun (hf.1 a (by simp; omega)) (o + 180)).trans hb.2.2.1) ?_
        refine v_pI hx DX12_fromRow_98 FPRX12_125 hR.o rfl (ki := 2) rfl (fun μ9 eμ9 => ?_)
        refine v_push hx DX12_fromRow_101 ?_
        refine v_istore hx DX12_fromRow_102 [(3, iv 0), (0, .ref ν), (1, .ref a), (2, iv o)] rfl (by decide) ?_
        exact v_sub [0, 1, 2, 3] _ rfl (L103 100 0 μ9 σ (by omega) (by omega) (h1.fr (by rw [eμ9, mI_ne (by omega)])) (fun r hr => h2 r (by omega)) (fun r hr => h3 r (by omega)) (fun j h0 h1 => by omega) (by rw [eμ9, mI_at, if_pos (by omega)]) ((hf.mono (by simp)).trans (by rw [eμ9]; exact Fr.mI (by simp))) (fun j hj => by rw [eμ9, mI_at, if_neg (by omega), hf.1 ν (by simp)]))
      · skip
        refine v_aload hx DX12_fromRow_8 1 rfl ?_
        refine v_iload hx DX12_fromRow_9 0 rfl ?_
        refine v_cVv hx DX12_fromRow_10 CVRX12_118 [iv t] (r_noughtI (t := t) l G Λ sz m hR h1 (by omega)) hR.o rfl rfl (Nat.le_of_ble_eq_true rfl) (by decide) ⟨Nat.le_refl _, Nat.le_refl _⟩ (fun μ10 hμ10 => ?_)
        refine v_push hx DX12_fromRow_13 ?_
        refine v_istore hx DX12_fromRow_14 [(4, iv 0), (3, iv t), (0, .ref ν), (1, .ref a), (2, iv o)] rfl (by decide) ?_
        refine v_sub [0, 1, 2, 3, 4] _ rfl (L16 100 t 0 μ10 _ (by omega) (by omega) (by omega) (FS.start (by omega) hμ10.1 h2 h3) (hf.trans hμ10.2) (fun m2 σ2 hs2 hf2 => ?_))
        refine v_iinc hx DX12_fromRow_84 0 rfl [(3, iv (t + 1)), (0, .ref ν), (1, .ref a), (2, iv o)] rfl (by decide) ?_
        refine v_goto hx DX12_fromRow_87 ?_
        exact v_sub [0, 1, 2, 3] _ rfl (ih (t + 1) m2 σ2 (by omega) (by omega) hs2.1 (hs2.next (by omega)) (fun r hr => hs2.2.2.2.2 r (by omega)) hf2)
  refine v_push hx DX12_fromRow_0 ?_
  refine v_istore hx DX12_fromRow_1 [(3, iv 0), (0, .ref ν), (1, .ref a), (2, iv o)] rfl (by decide) ?_
  exact v_sub [0, 1, 2, 3] _ rfl (L2 100 0 μ ρ (by omega) (by omega) hw (fun r hr => by omega) (fun r hr => rfl) Fr.rf)
