/-! ===== the reference: copy, lay, film ===== -/
def cpd (i j c k a : Int) : Prop := (i < j ∧ c - k ≤ a ∧ a < c) ∨ (j ≤ i ∧ 0 ≤ a ∧ a < k)
theorem sh_lane {μ : Mem} {ν : Nat} {S : Int → Sht} (hS : RSh μ ν S) {k : Int} (hk : 0 ≤ k ∧ k < 4) : ∃ mm : Int, μ.1 (ν + 16) k = mm ∧ (((S k).1 = -1 ∧ mm = -1) ∨ ((S k).1 ≠ -1 ∧ (0 ≤ (S k).1 ∧ (S k).1 ≤ 3) ∧ (0 ≤ (S k).2.1 ∧ (S k).2.1 ≤ 24) ∧ μ.1 (ν + 15) k = (S k).1 ∧ mm = (S k).2.1 ∧ ∀ j : Int, 0 ≤ j → j < 24 → μ.2 (ν + 17) (24 * k + j) = (S k).2.2 j)) :=
  ⟨_, rfl, (hS k hk.1 hk.2).elim Or.inl (fun w => Or.inr ⟨by omega, w⟩)⟩
theorem copy_done {μ m : Mem} {ν : Nat} {S : Int → Sht} {k i l j c : Int} (hS : RSh μ ν S) (hk : 0 ≤ k ∧ k < 4) (hl : 0 ≤ l ∧ l < 4) (n1 : (S k).1 ≠ -1) (n2 : (S l).1 ≠ -1) (n3 : (S k).1 = (S l).1) (hok : cpyOK S k i l j c)
    (hm : ∀ q : Int, m.2 (ν + 17) q = @ite Int64 (cpd i j c c (q - 24 * l - j)) (Classical.propDecidable _) (μ.2 (ν + 17) (24 * k + i + (q - 24 * l - j))) (μ.2 (ν + 17) q)) (h15 : m.1 = μ.1) : RSh m ν (cpyS S k i l j c) := by
  have hok2 := hok
  unfold cpyOK at hok2
  unfold cpyS
  rw [if_pos ⟨⟨by unfold isSh; omega, by unfold isSh; omega⟩, n1, n2, n3, hok⟩]
  have wk := (hS k hk.1 hk.2).elim (fun w => absurd w.1 n1) id
  have wl := (hS l hl.1 hl.2).elim (fun w => absurd w.1 n2) id
  intro q h0 h1
  unfold upS
  by_cases e : q = l
  · subst e
    rw [if_pos rfl]
    refine Or.inr ⟨wl.1, wl.2.1, by rw [h15]; exact wl.2.2.1, by rw [h15]; exact wl.2.2.2.1, fun p g0 g1 => ?_⟩
    rw [hm]
    show _ = if j ≤ p ∧ p < j + c then (S k).2.2 (i + (p - j)) else (S q).2.2 p
    by_cases d : j ≤ p ∧ p < j + c
    · rw [if_pos d, if_pos (by unfold cpd; omega), show 24 * k + i + (24 * q + p - 24 * q - j) = 24 * k + (i + (p - j)) by omega]
      exact wk.2.2.2.2 _ (by omega) (by omega)
    · rw [if_neg d, if_neg (by unfold cpd; omega)]
      exact wl.2.2.2.2 _ g0 g1
  · rw [if_neg e]
    rcases hS q h0 h1 with w | w
    · exact Or.inl ⟨w.1, by rw [h15]; exact w.2⟩
    · refine Or.inr ⟨w.1, w.2.1, by rw [h15]; exact w.2.2.1, by rw [h15]; exact w.2.2.2.1, fun p g0 g1 => ?_⟩
      rw [hm, if_neg (by unfold cpd; omega)]
      exact w.2.2.2.2 p g0 g1
theorem if_same {P Q : Prop} {i1 : Decidable P} {i2 : Decidable Q} {a b : Int64} (h : P ↔ Q) : @ite Int64 P i1 a b = @ite Int64 Q i2 a b := by
  by_cases c : P
  · rw [if_pos c, if_pos (h.mp c)]
  · rw [if_neg c, if_neg (fun q => c (h.mpr q))]
/-- what a sheet says of a term -/
def layN (s : Sht) (at0 : Int) : PS := fun k => if k < 7 then fi (s.2.2 (at0 + (k : Int))).toInt else 0
def layD (s : Sht) (at0 : Int) : PS := fun k => if k < 5 then fi (s.2.2 (at0 + 7 + (k : Int))).toInt else 0
theorem layN_lt (s : Sht) (a : Int) : (layN s a).lt 7 := fun k hk => by unfold layN; rw [if_neg (by omega)]
theorem layD_lt (s : Sht) (a : Int) : (layD s a).lt 5 := fun k hk => by unfold layD; rw [if_neg (by omega)]
theorem layN_cf {s : Sht} {a k : Int} (hk : 0 ≤ k ∧ k < 7) (h : isN (s.2.2 (a + k))) : (s.2.2 (a + k)).toInt = ((layN s a k.toNat).val : Int) := by
  unfold layN
  rw [if_pos (by omega), Int.toNat_of_nonneg hk.1, fi_val]
  unfold isN at h
  omega
theorem layD_cf {s : Sht} {a k : Int} (hk : 7 ≤ k ∧ k < 12) (h : isN (s.2.2 (a + k))) : (s.2.2 (a + k)).toInt = ((layD s a (k - 7).toNat).val : Int) := by
  unfold layD
  rw [if_pos (by omega), Int.toNat_of_nonneg (by omega), fi_val, show a + 7 + (k - 7) = a + k by omega]
  unfold isN at h
  omega
def layV (f i k lane : Int) : Prop := isTO f i ∧ isSh k ∧ 0 ≤ lane ∧ lane ≤ 3
def layK (S : Int → Sht) (f i k lane a : Int) : Prop := layV f i k lane ∧ (S k).ref lane a 12 = 0 ∧ allN (S k) a 12 ∧ layD (S k) a ≠ PS.zero
noncomputable def layA (S : Int → Sht) (f i k lane a : Int) : Int := if bz (layV f i k lane) = 1 then (if (S k).ref lane a 12 ≠ 0 then (S k).ref lane a 12 else if bz (allN (S k) a 12 ∧ layD (S k) a ≠ PS.zero) = 1 then 1 else -2) else -1
noncomputable def layB (b : Bd) (S : Int → Sht) (f i k lane a : Int) : Bd := @ite Bd (layK S f i k lane a) (Classical.propDecidable _) (b.sto (5 * f + i + 2) (rdN (layN (S k) a) (layD (S k) a)) (rdD (layN (S k) a) (layD (S k) a))) b
noncomputable def layH (b : Bd) (h : Hs) (S : Int → Sht) (f i k lane a : Int) : Hs := @ite Hs (layK S f i k lane a) (Classical.propDecidable _) (h.push b) h
theorem lay_no {μ m : Mem} {ν : Nat} {b : Bd} {h : Hs} {S : Int → Sht} {f i k lane a : Int} (hm : StR m ν b h) (n : ¬ layK S f i k lane a) (fm : FrN ν [ν + 1, ν + 4] [5, 6] μ m) : StR m ν (layB b S f i k lane a) (layH b h S f i k lane a) ∧ FrN ν [ν + 1, ν + 4] [5, 6] μ m := by
  unfold layB layH
  rw [if_neg n, if_neg n]
  exact ⟨hm, fm⟩
theorem lay_put {m : Mem} {ν : Nat} {σ : Nat → PS} {s : Sht} {a k z : Int} (h : RW m ν σ) (hs : σ 120 = (layN s a).tr (min k 7).toNat ∧ σ 121 = (layD s a).tr (k - 7).toNat) (hk : 0 ≤ k ∧ k < 12) (hz : z = if k < 7 then ((layN s a k.toNat).val : Int) else ((layD s a (k - 7).toNat).val : Int)) {o : Int} (ho : o = if k < 7 then 96 * 120 + k else 96 * 121 + (k - 7)) : ∃ σ', RW (mI m (ν + 1) o z) ν σ' ∧ (σ' 120 = (layN s a).tr (min (k + 1) 7).toNat ∧ σ' 121 = (layD s a).tr (k + 1 - 7).toNat) ∧ ∀ r : Nat, r ≠ 120 → r ≠ 121 → σ' r = σ r := by
  by_cases c : k < 7
  · rw [if_pos c] at hz ho
    refine ⟨_, by rw [ho]; exact h.put1 (s := 120) (k := k) (c := layN s a k.toNat) (by omega) (by omega) hz (by omega), ⟨?_, ?_⟩, fun r h1 h2 => up_ne h1⟩
    · rw [up_at, hs.1, show (min k 7).toNat = k.toNat by omega, PS.tr_set, show (min (k + 1) 7).toNat = k.toNat + 1 by omega]
    · rw [up_ne (by omega), hs.2, show (k - 7).toNat = 0 by omega, show (k + 1 - 7).toNat = 0 by omega]
  · rw [if_neg c] at hz ho
    refine ⟨_, by rw [ho]; exact h.put1 (s := 121) (k := k - 7) (c := layD s a (k - 7).toNat) (by omega) (by omega) hz (by omega), ⟨?_, ?_⟩, fun r h1 h2 => up_ne h2⟩
    · rw [up_ne (by omega), hs.1, show (min k 7).toNat = 7 by omega, show (min (k + 1) 7).toNat = 7 by omega]
    · rw [up_at, hs.2, PS.tr_set, show (k + 1 - 7).toNat = (k - 7).toNat + 1 by omega]
theorem r_copy (l : Launch) (G : Gl) (Λ : Lay) (sz : Nat) (μ : Mem) {ν : Nat} {S : Int → Sht} {k i o j c : Int} (hR : refK Λ ν) (hS : RSh μ ν S) (rk : inR k) (ri : inR i) (ro : inR o) (rj : inR j) (rc : inR c) : Sp l G yX12_copy cX12_copy 8 (some FieldType.int) 2 [.ref ν, iv k, iv i, iv o, iv j, iv c] Λ sz μ (pI (fun z μ' => z = cpyA S k i o j c ∧ RSh μ' ν (cpyS S k i o j c) ∧ FrSh ν μ μ')) := by
  refine Sp.intro (by decide) (Nat.le_of_ble_eq_true rfl) (fun x hx hBD => ?_)
  refine v_lv [(0, .ref ν), (1, iv k), (2, iv i), (3, iv o), (4, iv j), (5, iv c)] rfl ?_
  have L101 : ∀ (nf : Nat) (t : Int) (m : Mem), (c - t < (nf : Int)) → ((0 ≤ k ∧ k < 4) ∧ (0 ≤ o ∧ o < 4) ∧ (0 ≤ i ∧ 0 ≤ j ∧ 0 ≤ c) ∧ i + c ≤ 24 ∧ j + c ≤ 24) → (cpyA S k i o j c = c) → (∀ m2 : Mem, (∀ q : Int, m2.2 (ν + 17) q = @ite Int64 (cpd i j c c (q - 24 * o - j)) (Classical.propDecidable _) (μ.2 (ν + 17) (24 * k + i + (q - 24 * o - j))) (μ.2 (ν + 17) q)) → m2.1 = μ.1 → RSh m2 ν (cpyS S k i o j c)) → (0 ≤ t ∧ t ≤ c) → (∀ q : Int, m.2 (ν + 17) q = @ite Int64 (cpd i j c t (q - 24 * o - j)) (Classical.propDecidable _) (μ.2 (ν + 17) (24 * k + i + (q - 24 * o - j))) (μ.2 (ν + 17) q)) → (m.1 = μ.1) → (FrSh ν μ m) → V G x (0, 0) Λ sz m 101 [(6, iv t), (0, .ref ν), (1, iv k), (2, iv i), (3, iv o), (4, iv j), (5, iv c)] [] := by
    intro nf
    induction nf with
    | zero => intro t m hm hc2 hv hfin ht hm h15 hf; exact absurd hm (by omega)
    | succ nf ih =>
      intro t m hm hc2 hv hfin ht hm h15 hf
      refine v_iload hx DX12_copy_101 0 rfl ?_
      refine v_iload hx DX12_copy_103 6 rfl ?_
      refine v_icmp_ge hx DX12_copy_105 (by omega) (by omega) (fun c105 => ?_) (fun c105 => ?_)
      · skip
        refine v_iload hx DX12_copy_163 6 rfl ?_
        exact v_ri hx hBD DX12_copy_165 (⟨hv.symm, hfin m (by have w := hm; rw [show t = c by omega] at w; exact w) h15, hf⟩)
      · skip
        refine v_iload hx DX12_copy_108 3 rfl ?_
        refine v_iload hx DX12_copy_109 5 rfl ?_
        refine v_icmp_ge hx DX12_copy_111 (by omega) (by omega) (fun c111 => ?_) (fun c111 => ?_)
        · skip
          refine v_iload hx DX12_copy_124 0 rfl ?_
          refine v_istore hx DX12_copy_126 [(7, iv t), (6, iv t), (0, .ref ν), (1, iv k), (2, iv i), (3, iv o), (4, iv j), (5, iv c)] rfl (by decide) ?_
          refine v_aload hx DX12_copy_128 2 rfl ?_
          refine v_get hx DX12_copy_129 FLRX12_114 hR.o (v := .ref (ν + 17)) rfl ?_
          refine v_push hx DX12_copy_132 ?_
          refine v_iload hx DX12_copy_134 5 rfl ?_
          refine v_imul hx DX12_copy_135 ?_
          refine v_iload hx DX12_copy_136 6 rfl ?_
          refine v_iadd hx DX12_copy_138 ?_
          refine v_iload hx DX12_copy_139 0 rfl ?_
          refine v_iadd hx DX12_copy_141 ?_
          refine v_aload hx DX12_copy_142 2 rfl ?_
          refine v_get hx DX12_copy_143 FLRX12_114 hR.o (v := .ref (ν + 17)) rfl ?_
          refine v_push hx DX12_copy_146 ?_
          refine v_iload hx DX12_copy_148 3 rfl ?_
          refine v_imul hx DX12_copy_149 ?_
          refine v_iload hx DX12_copy_150 4 rfl ?_
          refine v_iadd hx DX12_copy_151 ?_
          refine v_iload hx DX12_copy_152 0 rfl ?_
          refine v_iadd hx DX12_copy_154 ?_
          refine v_lald hx DX12_copy_155 hR.items (by omega) (by decide) (w := μ.2 (ν + 17) (24 * k + i + t)) (by rw [hm, if_neg (by unfold cpd; omega)]) ?_
          refine v_last hx DX12_copy_156 hR.items (by omega) (by decide) (v_mem (fun μ1 eμ1 => ?_))
          refine v_iinc hx DX12_copy_157 1 rfl [(6, iv (t + 1)), (7, iv t), (0, .ref ν), (1, iv k), (2, iv i), (3, iv o), (4, iv j), (5, iv c)] rfl (by decide) ?_
          refine v_goto hx DX12_copy_160 ?_
          exact v_sub [0, 2, 3, 4, 5, 6, 7] _ rfl (ih (t + 1) μ1 (by omega) hc2 hv hfin (by omega) (fun q => by rw [eμ1, mL_at]; exact (Classical.em (q = 24 * o + j + t)).elim (fun w => by rw [if_pos w, if_pos (by unfold cpd; omega)]; exact congrArg (μ.2 (ν + 17)) (by omega)) (fun w => by rw [if_neg w, hm]; exact if_same (by unfold cpd; omega))) (by rw [eμ1]; exact h15) (hf.trans (by rw [eμ1]; exact FrSh.wL)))
        · skip
          refine v_iload hx DX12_copy_114 6 rfl ?_
          refine v_push hx DX12_copy_116 ?_
          refine v_isub hx DX12_copy_117 ?_
          refine v_iload hx DX12_copy_118 0 rfl ?_
          refine v_isub hx DX12_copy_120 ?_
          refine v_goto hx DX12_copy_121 ?_
          refine v_istore hx DX12_copy_126 [(7, iv ((c - 1) - t)), (6, iv t), (0, .ref ν), (1, iv k), (2, iv i), (3, iv o), (4, iv j), (5, iv c)] rfl (by decide) ?_
          refine v_aload hx DX12_copy_128 2 rfl ?_
          refine v_get hx DX12_copy_129 FLRX12_114 hR.o (v := .ref (ν + 17)) rfl ?_
          refine v_push hx DX12_copy_132 ?_
          refine v_iload hx DX12_copy_134 5 rfl ?_
          refine v_imul hx DX12_copy_135 ?_
          refine v_iload hx DX12_copy_136 6 rfl ?_
          refine v_iadd hx DX12_copy_138 ?_
          refine v_iload hx DX12_copy_139 0 rfl ?_
          refine v_iadd hx DX12_copy_141 ?_
          refine v_aload hx DX12_copy_142 2 rfl ?_
          refine v_get hx DX12_copy_143 FLRX12_114 hR.o (v := .ref (ν + 17)) rfl ?_
          refine v_push hx DX12_copy_146 ?_
          refine v_iload hx DX12_copy_148 3 rfl ?_
          refine v_imul hx DX12_copy_149 ?_
          refine v_iload hx DX12_copy_150 4 rfl ?_
          refine v_iadd hx DX12_copy_151 ?_
          refine v_iload hx DX12_copy_152 0 rfl ?_
          refine v_iadd hx DX12_copy_154 ?_
          refine v_lald hx DX12_copy_155 hR.items (by omega) (by decide) (w := μ.2 (ν + 17) (24 * k + i + ((c - 1) - t))) (by rw [hm, if_neg (by unfold cpd; omega)]) ?_
          refine v_last hx DX12_copy_156 hR.items (by omega) (by decide) (v_mem (fun μ2 eμ2 => ?_))
          refine v_iinc hx DX12_copy_157 1 rfl [(6, iv (t + 1)), (7, iv ((c - 1) - t)), (0, .ref ν), (1, iv k), (2, iv i), (3, iv o), (4, iv j), (5, iv c)] rfl (by decide) ?_
          refine v_goto hx DX12_copy_160 ?_
          exact v_sub [0, 2, 3, 4, 5, 6, 7] _ rfl (ih (t + 1) μ2 (by omega) hc2 hv hfin (by omega) (fun q => by rw [eμ2, mL_at]; exact (Classical.em (q = 24 * o + j + ((c - 1) - t))).elim (fun w => by rw [if_pos w, if_pos (by unfold cpd; omega)]; exact congrArg (μ.2 (ν + 17)) (by omega)) (fun w => by rw [if_neg w, hm]; exact if_same (by unfold cpd; omega))) (by rw [eμ2]; exact h15) (hf.trans (by rw [eμ2]; exact FrSh.wL)))
  refine v_iload hx DX12_copy_0 1 rfl ?_
  refine v_cSp hx DX12_copy_1 CSRX12_344 [iv k] (r_isSheet l G Λ sz μ (by omega)) rfl rfl (Nat.le_of_ble_eq_true rfl) (by decide) ⟨Nat.le_refl _, Nat.le_refl _⟩ ?_
  have br1 := bz_rng (isSh k)
  refine v_if_eq hx DX12_copy_4 (by omega) (fun c4 => ?_) (fun c4 => ?_)
  · skip
    have d4 := bzf c4
    have nk : ¬ (isSh k ∧ isSh o) := fun q => d4 q.1
    refine v_push hx DX12_copy_14 ?_
    exact v_ri hx hBD DX12_copy_15 (⟨by unfold cpyA; rw [if0 nk], by unfold cpyS; rw [if_neg (fun w => nk w.1)]; exact hS, FrSh.rf⟩)
  · skip
    have d4 := bzt c4
    have d4n := d4
    unfold isSh at d4n
    obtain ⟨mk, ek, hk⟩ := sh_lane hS (k := k) (by omega)
    refine v_iload hx DX12_copy_7 3 rfl ?_
    refine v_cSp hx DX12_copy_8 CSRX12_344 [iv o] (r_isSheet l G Λ sz μ (by omega)) rfl rfl (Nat.le_of_ble_eq_true rfl) (by decide) ⟨Nat.le_refl _, Nat.le_refl _⟩ ?_
    have br8 := bz_rng (isSh o)
    refine v_if_ne hx DX12_copy_11 (by omega) (fun c11 => ?_) (fun c11 => ?_)
    · skip
      have d11 := bzt c11
      have d11n := d11
      unfold isSh at d11n
      obtain ⟨ml, el, hl⟩ := sh_lane hS (k := o) (by omega)
      refine v_aload hx DX12_copy_16 0 rfl ?_
      refine v_get hx DX12_copy_17 FLRX12_111 hR.o (v := .ref (ν + 16)) rfl ?_
      refine v_iload hx DX12_copy_20 1 rfl ?_
      refine v_iald hx DX12_copy_21 hR.sheetMany (by omega) (by decide) (z := mk) ek ?_
      refine v_if_lt hx DX12_copy_22 (by omega) (fun c22 => ?_) (fun c22 => ?_)
      · skip
        have k1 : (S k).1 = -1 := by omega
        have e0 : (-11 : Int) = cpyA S k i o j c := by unfold cpyA; rw [if1 ⟨d4, d11⟩, if_pos (Or.inl k1)]
        have ns : cpyS S k i o j c = S := by unfold cpyS; rw [if_neg (fun w => by omega)]
        refine v_push hx DX12_copy_34 ?_
        exact v_ri hx hBD DX12_copy_36 (⟨e0, by rw [ns]; exact hS, FrSh.rf⟩)
      · skip
        refine v_aload hx DX12_copy_25 0 rfl ?_
        refine v_get hx DX12_copy_26 FLRX12_111 hR.o (v := .ref (ν + 16)) rfl ?_
        refine v_iload hx DX12_copy_29 3 rfl ?_
        refine v_iald hx DX12_copy_30 hR.sheetMany (by omega) (by decide) (z := ml) el ?_
        refine v_if_ge hx DX12_copy_31 (by omega) (fun c31 => ?_) (fun c31 => ?_)
        · skip
          have hk2 := hk.elim (fun w => absurd w.2 (by omega)) id
          have hl2 := hl.elim (fun w => absurd w.2 (by omega)) id
          have k1 := hk2.1
          have l1 := hl2.1
          refine v_aload hx DX12_copy_37 0 rfl ?_
          refine v_get hx DX12_copy_38 FLRX12_108 hR.o (v := .ref (ν + 15)) rfl ?_
          refine v_iload hx DX12_copy_41 1 rfl ?_
          refine v_iald hx DX12_copy_42 hR.sheetLane (by omega) (by decide) (z := (S k).1) hk2.2.2.2.1 ?_
          refine v_aload hx DX12_copy_43 0 rfl ?_
          refine v_get hx DX12_copy_44 FLRX12_108 hR.o (v := .ref (ν + 15)) rfl ?_
          refine v_iload hx DX12_copy_47 3 rfl ?_
          refine v_iald hx DX12_copy_48 hR.sheetLane (by omega) (by decide) (z := (S o).1) hl2.2.2.2.1 ?_
          refine v_icmp_eq hx DX12_copy_49 (by omega) (by omega) (fun c49 => ?_) (fun c49 => ?_)
          · skip
            refine v_iload hx DX12_copy_55 5 rfl ?_
            refine v_if_lt hx DX12_copy_57 (by omega) (fun c57 => ?_) (fun c57 => ?_)
            · skip
              have nok : ¬ cpyOK S k i o j c := fun w => by unfold cpyOK at w; omega
              have e0 : (-13 : Int) = cpyA S k i o j c := by unfold cpyA; rw [if1 ⟨d4, d11⟩, if_neg (by omega), if_neg (by omega), if0 nok]
              have ns : cpyS S k i o j c = S := by unfold cpyS; rw [if_neg (fun w => nok w.2.2.2.2)]
              refine v_push hx DX12_copy_95 ?_
              exact v_ri hx hBD DX12_copy_97 (⟨e0, by rw [ns]; exact hS, FrSh.rf⟩)
            · skip
              refine v_aload hx DX12_copy_60 0 rfl ?_
              refine v_iload hx DX12_copy_61 1 rfl ?_
              refine v_aload hx DX12_copy_62 0 rfl ?_
              refine v_get hx DX12_copy_63 FLRX12_108 hR.o (v := .ref (ν + 15)) rfl ?_
              refine v_iload hx DX12_copy_66 1 rfl ?_
              refine v_iald hx DX12_copy_67 hR.sheetLane (by omega) (by decide) (z := (S k).1) hk2.2.2.2.1 ?_
              refine v_iload hx DX12_copy_68 2 rfl ?_
              refine v_iload hx DX12_copy_69 5 rfl ?_
              refine v_cVp hx DX12_copy_71 CVRX12_347 [iv k, iv ((S k).1), iv i, iv c] (r_why l G Λ sz μ hR hS (by omega) (by omega) (by omega) (by omega)) hR.o rfl rfl (Nat.le_of_ble_eq_true rfl) (by decide) ⟨Nat.le_refl _, Nat.le_refl _⟩ ?_
              have rr := (S k).ref_rng (S k).1 i c
              refine v_if_ne hx DX12_copy_74 (by omega) (fun c74 => ?_) (fun c74 => ?_)
              · skip
                have nok : ¬ cpyOK S k i o j c := fun w => by
                  unfold cpyOK at w
                  apply c74
                  unfold Sht.ref
                  rw [if_neg k1, if_neg (by omega), if_pos (by omega)]
                have e0 : (-13 : Int) = cpyA S k i o j c := by unfold cpyA; rw [if1 ⟨d4, d11⟩, if_neg (by omega), if_neg (by omega), if0 nok]
                have ns : cpyS S k i o j c = S := by unfold cpyS; rw [if_neg (fun w => nok w.2.2.2.2)]
                refine v_push hx DX12_copy_95 ?_
                exact v_ri hx hBD DX12_copy_97 (⟨e0, by rw [ns]; exact hS, FrSh.rf⟩)
              · skip
                refine v_aload hx DX12_copy_77 0 rfl ?_
                refine v_iload hx DX12_copy_78 3 rfl ?_
                refine v_aload hx DX12_copy_79 0 rfl ?_
                refine v_get hx DX12_copy_80 FLRX12_108 hR.o (v := .ref (ν + 15)) rfl ?_
                refine v_iload hx DX12_copy_83 3 rfl ?_
                refine v_iald hx DX12_copy_84 hR.sheetLane (by omega) (by decide) (z := (S o).1) hl2.2.2.2.1 ?_
                refine v_iload hx DX12_copy_85 4 rfl ?_
                refine v_iload hx DX12_copy_87 5 rfl ?_
                refine v_cVp hx DX12_copy_89 CVRX12_347 [iv o, iv ((S o).1), iv j, iv c] (r_why l G Λ sz μ hR hS (by omega) (by omega) (by omega) (by omega)) hR.o rfl rfl (Nat.le_of_ble_eq_true rfl) (by decide) ⟨Nat.le_refl _, Nat.le_refl _⟩ ?_
                have rr2 := (S o).ref_rng (S o).1 j c
                refine v_if_eq hx DX12_copy_92 (by omega) (fun c92 => ?_) (fun c92 => ?_)
                · skip
                  have x1 := (hS.has (by omega) c74).2.1
                  have x2 := (hS.has (by omega) c92).2.1
                  have hok : cpyOK S k i o j c := ⟨by omega, by omega, by omega, by omega, by omega⟩
                  refine v_push hx DX12_copy_98 ?_
                  refine v_istore hx DX12_copy_99 [(6, iv 0), (0, .ref ν), (1, iv k), (2, iv i), (3, iv o), (4, iv j), (5, iv c)] rfl (by decide) ?_
                  exact v_sub [0, 1, 2, 3, 4, 5, 6] _ rfl (L101 100 0 μ (by omega) ⟨by omega, by omega, by omega, by omega, by omega⟩ (by unfold cpyA; rw [if1 ⟨d4, d11⟩, if_neg (by omega), if_neg (by omega), if1 hok]) (fun m2 w1 w2 => copy_done hS (by omega) (by omega) (by omega) (by omega) (by omega) hok w1 w2) (by omega) (fun q => by rw [if_neg (by unfold cpd; omega)]) rfl FrSh.rf)
                · skip
                  have nok : ¬ cpyOK S k i o j c := fun w => by
                    unfold cpyOK at w
                    apply c92
                    unfold Sht.ref
                    rw [if_neg l1, if_neg (by omega), if_pos (by omega)]
                  have e0 : (-13 : Int) = cpyA S k i o j c := by unfold cpyA; rw [if1 ⟨d4, d11⟩, if_neg (by omega), if_neg (by omega), if0 nok]
                  have ns : cpyS S k i o j c = S := by unfold cpyS; rw [if_neg (fun w => nok w.2.2.2.2)]
                  refine v_push hx DX12_copy_95 ?_
                  exact v_ri hx hBD DX12_copy_97 (⟨e0, by rw [ns]; exact hS, FrSh.rf⟩)
          · skip
            have e0 : (-12 : Int) = cpyA S k i o j c := by unfold cpyA; rw [if1 ⟨d4, d11⟩, if_neg (by omega), if_pos (by omega)]
            have ns : cpyS S k i o j c = S := by unfold cpyS; rw [if_neg (fun w => by omega)]
            refine v_push hx DX12_copy_52 ?_
            exact v_ri hx hBD DX12_copy_54 (⟨e0, by rw [ns]; exact hS, FrSh.rf⟩)
        · skip
          have l1 : (S o).1 = -1 := by omega
          have e0 : (-11 : Int) = cpyA S k i o j c := by unfold cpyA; rw [if1 ⟨d4, d11⟩, if_pos (Or.inr l1)]
          have ns : cpyS S k i o j c = S := by unfold cpyS; rw [if_neg (fun w => by omega)]
          refine v_push hx DX12_copy_34 ?_
          exact v_ri hx hBD DX12_copy_36 (⟨e0, by rw [ns]; exact hS, FrSh.rf⟩)
    · skip
      have d11 := bzf c11
      have nk : ¬ (isSh k ∧ isSh o) := fun q => d11 q.2
      refine v_push hx DX12_copy_14 ?_
      exact v_ri hx hBD DX12_copy_15 (⟨by unfold cpyA; rw [if0 nk], by unfold cpyS; rw [if_neg (fun w => nk w.1)]; exact hS, FrSh.rf⟩)
theorem r_lay (l : Launch) (G : Gl) (Λ : Lay) (sz : Nat) (μ : Mem) {ν : Nat} {ρ : Nat → PS} {b : Bd} {h : Hs} {S : Int → Sht} {f i k lane a : Int} (hR : refK Λ ν) (ha : RA μ ν ρ b) (hh : RH μ ν h) (hS : RSh μ ν S) (rf : inR f) (ri : inR i) (rk : inR k) (rlane : inR lane) (ra : inR a) : Sp l G yX12_lay cX12_lay 8 (some FieldType.int) 5 [.ref ν, iv f, iv i, iv k, iv lane, iv a] Λ sz μ (pI (fun z μ' => z = layA S f i k lane a ∧ StR μ' ν (layB b S f i k lane a) (layH b h S f i k lane a) ∧ FrN ν [ν + 1, ν + 4] [5, 6] μ μ')) := by
  refine Sp.intro (by decide) (Nat.le_of_ble_eq_true rfl) (fun x hx hBD => ?_)
  refine v_lv [(0, .ref ν), (1, iv f), (2, iv i), (3, iv k), (4, iv lane), (5, iv a)] rfl ?_
  have L84 : ∀ (nf : Nat) (j : Int) (m : Mem) (σ : Nat → PS), (12 - j < (nf : Int)) → (layV f i k lane ∧ (S k).ref lane a 12 = 0 ∧ allN (S k) a 12) → (0 ≤ j ∧ j ≤ 12) → (RW m ν σ) → (σ 120 = (layN (S k) a).tr (min j 7).toNat ∧ σ 121 = (layD (S k) a).tr (j - 7).toNat) → (∀ r : Nat, r ≠ 120 → r ≠ 121 → σ r = ρ r) → (Fr [ν + 1] μ m) → V G x (0, 0) Λ sz m 84 [(7, iv j), (0, .ref ν), (1, iv f), (2, iv i), (3, iv k), (4, iv lane), (5, iv a)] [] := by
    intro nf
    induction nf with
    | zero => intro j m σ hm hk hj h1 hs h3 hf; exact absurd hm (by omega)
    | succ nf ih =>
      intro j m σ hm hk hj h1 hs h3 hf
      obtain ⟨k0, k1, k2⟩ := hk
      have hk : (layV f i k lane ∧ (S k).ref lane a 12 = 0 ∧ allN (S k) a 12) := ⟨k0, k1, k2⟩
      obtain ⟨v0, v1, v2, v3⟩ := k0
      have v0n := v0.n
      have v1n := v1
      unfold isSh at v1n
      have hhs := hS.has (by omega) k1
      have rc : j < 12 → 0 ≤ ((S k).2.2 (a + j)).toInt ∧ ((S k).2.2 (a + j)).toInt < 101 := fun q => by have w := k2 (a + j) (by omega) (by omega); unfold isN at w; exact w
      refine v_iload hx DX12_lay_84 0 rfl ?_
      refine v_push hx DX12_lay_86 ?_
      refine v_icmp_ge hx DX12_lay_88 (by omega) (by decide) (fun c88 => ?_) (fun c88 => ?_)
      · skip
        have eN : σ 120 = layN (S k) a := by rw [hs.1, show (min j 7).toNat = 7 by omega, PS.tr_end (layN_lt _ _)]
        have eD : σ 121 = layD (S k) a := by rw [hs.2, show (j - 7).toNat = 5 by omega, PS.tr_end (layD_lt _ _)]
        refine v_aload hx DX12_lay_159 1 rfl ?_
        refine v_push hx DX12_lay_160 ?_
        refine v_cSp hx DX12_lay_162 CSRX12_41 [iv 60] (r_below (f := 60) l G Λ sz m) rfl rfl (Nat.le_of_ble_eq_true rfl) (by decide) ⟨Nat.le_refl _, Nat.le_refl _⟩ ?_
        refine v_cVp hx DX12_lay_165 CVRX12_15 [iv ((2 * 60 + 1 : Nat) : Int)] (r_degree (s := 121) l G Λ sz m hR h1 (by decide)) hR.o rfl rfl (Nat.le_of_ble_eq_true rfl) (by decide) ⟨Nat.le_refl _, Nat.le_refl _⟩ ?_
        rw [eD]
        have szd := PS.size_le (layD_lt (S k) a)
        refine v_if_ge hx DX12_lay_168 (by omega) (fun c168 => ?_) (fun c168 => ?_)
        · skip
          have nD : layD (S k) a ≠ PS.zero := PS.ne_of_size (by omega)
          refine v_aload hx DX12_lay_174 1 rfl ?_
          refine v_push hx DX12_lay_175 ?_
          refine v_cVv hx DX12_lay_177 CVRX12_56 [iv 60] (r_shortens (f := 60) l G Λ sz m hR h1 (by decide) (by show σ 121 ≠ PS.zero; rw [eD]; exact nD)) hR.o rfl rfl (Nat.le_of_ble_eq_true rfl) (by decide) ⟨Nat.le_refl _, Nat.le_refl _⟩ (fun μ5 hμ5 => ?_)
          obtain ⟨σ2, g1, g2, g3, g4, g5⟩ := hμ5
          rw [show 2 * 60 = 120 from rfl, eN, eD] at g2 g3
          have a2 : RA μ5 ν σ2 b := (ha.rows h1 (fun r hr => h3 r (by omega) (by omega)) hf).rows g1 (fun r hr => g4 r (by omega) (by omega) (by omega)) g5
          have r2 : RH μ5 ν h := (hh.frN (S := [ν + 1]) (J := []) (FrN.of hf (by simp)) (by simp) (by simp) (by simp)).frN (S := [ν + 1]) (J := []) (FrN.of g5 (by simp)) (by simp) (by simp) (by simp)
          refine v_aload hx DX12_lay_180 1 rfl ?_
          refine v_cVv hx DX12_lay_181 CVRX12_211 [] (r_remembers l G Λ sz μ5 hR a2 r2) hR.o rfl rfl (Nat.le_of_ble_eq_true rfl) (by decide) ⟨Nat.le_refl _, Nat.le_refl _⟩ (fun μ7 hμ7 => ?_)
          have h181 := hμ7
          have a3 := a2.frN h181.2 (by simp) (by simp) (by simp) (by simp)
          refine v_aload hx DX12_lay_184 1 rfl ?_
          refine v_iload hx DX12_lay_185 2 rfl ?_
          refine v_iload hx DX12_lay_186 3 rfl ?_
          refine v_cSp hx DX12_lay_187 CSRX12_155 [iv f, iv i] (r_term l G Λ sz μ7 (by omega)) rfl rfl (Nat.le_of_ble_eq_true rfl) (by decide) ⟨Nat.le_refl _, Nat.le_refl _⟩ ?_
          refine v_push hx DX12_lay_190 ?_
          refine v_cVv hx DX12_lay_192 CVRX12_217 [iv ((5 * f + i + 2).toNat : Int), iv 60] (r_takesF (o := ((5 * f + i + 2).toNat : Int)) (a := 60) (A := frd (layN (S k) a) (layD (S k) a)) l G Λ sz μ7 hR a3.1 (by omega) (by omega) ⟨g2, g3⟩) hR.o rfl rfl (Nat.le_of_ble_eq_true rfl) (by decide) ⟨Nat.le_refl _, Nat.le_refl _⟩ (fun μ11 hμ11 => ?_)
          have h192 := hμ11
          refine v_push hx DX12_lay_195 ?_
          exact v_ri hx hBD DX12_lay_196 (by have hK : layK S f i k lane a := ⟨hk.1, k1, k2, nD⟩; have rs := rd_spec ⟨_, layN_lt (S k) a⟩ ⟨_, layD_lt (S k) a⟩ nD (Nat.lt_of_le_of_lt (PS.size_le (layD_lt _ _)) (by omega)); have tt : (((5 * f + i + 2).toNat : Nat) : Int) = (5 * f + i + 2) := (by omega); refine ⟨by unfold layA; rw [if1 hk.1, if_neg (by omega), if1 ⟨k2, nD⟩], ?_⟩; unfold layB layH; rw [if_pos hK, if_pos hK]; exact ⟨⟨⟨_, by have q := a3.sto (t := ((5 * f + i + 2).toNat : Int)) (A := frd (layN (S k) a) (layD (S k) a)) (by omega) h192.1 h192.2 (PS.lt_mono (PS.flt rs.1.1) (Nat.le_trans rs.2.2.1 (PS.size_le (layN_lt _ _)))) (PS.lt_mono (PS.flt rs.1.2.1) (Nat.le_trans rs.2.2.2 (PS.size_le (layD_lt _ _)))); rw [tt] at q; exact q⟩, h181.1.frN (S := [ν + 1]) (J := []) (FrN.of h192.2 (by simp)) (by simp) (by simp) (by simp)⟩, (((FrN.of (hf.mono (by simp)) (by simp)).trans (FrN.of (g5.mono (by simp)) (by simp))).trans (h181.2.mono (by simp) (by simp))).trans (FrN.of (h192.2.mono (by simp)) (by simp))⟩)
        · skip
          have zD : layD (S k) a = PS.zero := (PS.fsz0 ⟨_, layD_lt _ _⟩).mp (by omega)
          refine v_push hx DX12_lay_171 ?_
          exact v_ri hx hBD DX12_lay_173 (⟨by unfold layA; rw [if1 hk.1, if_neg (by omega), if0 (fun q => q.2 zD)], lay_no ⟨⟨σ, ha.rows h1 (fun r hr => h3 r (by omega) (by omega)) hf⟩, hh.frN (S := [ν + 1]) (J := []) (FrN.of hf (by simp)) (by simp) (by simp) (by simp)⟩ (fun q => q.2.2.2 zD) (FrN.of (hf.mono (by simp)) (by simp))⟩)
      · skip
        refine v_aload hx DX12_lay_91 1 rfl ?_
        refine v_get hx DX12_lay_92 FLRX12_3 hR.o (v := .ref (ν + 1)) rfl ?_
        refine v_push hx DX12_lay_95 ?_
        refine v_iload hx DX12_lay_97 0 rfl ?_
        refine v_push hx DX12_lay_99 ?_
        refine v_icmp_ge hx DX12_lay_101 (by omega) (by decide) (fun c101 => ?_) (fun c101 => ?_)
        · skip
          refine v_push hx DX12_lay_112 ?_
          refine v_cSp hx DX12_lay_114 CSRX12_41 [iv 60] (r_below (f := 60) l G Λ sz m) rfl rfl (Nat.le_of_ble_eq_true rfl) (by decide) ⟨Nat.le_refl _, Nat.le_refl _⟩ ?_
          refine v_imul hx DX12_lay_117 ?_
          refine v_iload hx DX12_lay_118 0 rfl ?_
          refine v_push hx DX12_lay_120 ?_
          refine v_icmp_ge hx DX12_lay_122 (by omega) (by decide) (fun c122 => ?_) (fun c122 => ?_)
          · skip
            refine v_iload hx DX12_lay_130 0 rfl ?_
            refine v_push hx DX12_lay_132 ?_
            refine v_isub hx DX12_lay_134 ?_
            refine v_iadd hx DX12_lay_135 ?_
            refine v_aload hx DX12_lay_136 1 rfl ?_
            refine v_get hx DX12_lay_137 FLRX12_114 hR.o (v := .ref (ν + 17)) rfl ?_
            refine v_push hx DX12_lay_140 ?_
            refine v_iload hx DX12_lay_142 4 rfl ?_
            refine v_imul hx DX12_lay_143 ?_
            refine v_iload hx DX12_lay_144 6 rfl ?_
            refine v_iadd hx DX12_lay_146 ?_
            refine v_iload hx DX12_lay_147 0 rfl ?_
            refine v_iadd hx DX12_lay_149 ?_
            refine v_lald hx DX12_lay_150 hR.items (by omega) (by decide) (w := (S k).2.2 (a + j)) (by rw [show 24 * k + a + j = 24 * k + (a + j) by omega]; exact (congrFun (congrFun hf.2 (ν + 17)) _).trans (hhs.2.2.2.2.2.2 _ (by omega) (by omega))) ?_
            refine v_l2i hx DX12_lay_151 (a := ((S k).2.2 (a + j)).toInt) (l2i_n _) ?_
            refine v_iastm hx DX12_lay_152 hR.p (by omega) (by decide) (fun μ15 eμ15 => ?_)
            obtain ⟨σ1, w1, s1, k3⟩ := lay_put (z := ((S k).2.2 (a + j)).toInt) h1 hs (by omega) (by rw [if_neg (by omega)]; exact layD_cf (by omega) (k2 _ (by omega) (by omega))) (o := 96 * ((2 * 60 + 1 : Nat) : Int) + (j - 7)) (by first | (rw [if_pos (by omega)]; omega) | (rw [if_neg (by omega)]; omega))
            rw [← eμ15] at w1
            refine v_iinc hx DX12_lay_153 0 rfl [(7, iv (j + 1)), (0, .ref ν), (1, iv f), (2, iv i), (3, iv k), (4, iv lane), (5, iv a)] rfl (by decide) ?_
            refine v_goto hx DX12_lay_156 ?_
            exact v_sub [0, 1, 2, 3, 4, 5, 6] _ rfl (ih (j + 1) μ15 σ1 (by omega) hk (by omega) w1 s1 (fun r g1 g2 => (k3 r g1 g2).trans (h3 r g1 g2)) (hf.trans (by rw [eμ15]; exact Fr.mI (by simp))))
          · exact absurd c122 (by omega)
        · skip
          refine v_push hx DX12_lay_104 ?_
          refine v_cSp hx DX12_lay_106 CSRX12_38 [iv 60] (r_above (f := 60) l G Λ sz m) rfl rfl (Nat.le_of_ble_eq_true rfl) (by decide) ⟨Nat.le_refl _, Nat.le_refl _⟩ ?_
          refine v_goto hx DX12_lay_109 ?_
          refine v_imul hx DX12_lay_117 ?_
          refine v_iload hx DX12_lay_118 0 rfl ?_
          refine v_push hx DX12_lay_120 ?_
          refine v_icmp_ge hx DX12_lay_122 (by omega) (by decide) (fun c122 => ?_) (fun c122 => ?_)
          · exact absurd c122 (by omega)
          · skip
            refine v_iload hx DX12_lay_125 0 rfl ?_
            refine v_goto hx DX12_lay_127 ?_
            refine v_iadd hx DX12_lay_135 ?_
            refine v_aload hx DX12_lay_136 1 rfl ?_
            refine v_get hx DX12_lay_137 FLRX12_114 hR.o (v := .ref (ν + 17)) rfl ?_
            refine v_push hx DX12_lay_140 ?_
            refine v_iload hx DX12_lay_142 4 rfl ?_
            refine v_imul hx DX12_lay_143 ?_
            refine v_iload hx DX12_lay_144 6 rfl ?_
            refine v_iadd hx DX12_lay_146 ?_
            refine v_iload hx DX12_lay_147 0 rfl ?_
            refine v_iadd hx DX12_lay_149 ?_
            refine v_lald hx DX12_lay_150 hR.items (by omega) (by decide) (w := (S k).2.2 (a + j)) (by rw [show 24 * k + a + j = 24 * k + (a + j) by omega]; exact (congrFun (congrFun hf.2 (ν + 17)) _).trans (hhs.2.2.2.2.2.2 _ (by omega) (by omega))) ?_
            refine v_l2i hx DX12_lay_151 (a := ((S k).2.2 (a + j)).toInt) (l2i_n _) ?_
            refine v_iastm hx DX12_lay_152 hR.p (by omega) (by decide) (fun μ18 eμ18 => ?_)
            obtain ⟨σ1, w1, s1, k3⟩ := lay_put (z := ((S k).2.2 (a + j)).toInt) h1 hs (by omega) (by rw [if_pos (by omega)]; exact layN_cf (by omega) (k2 _ (by omega) (by omega))) (o := 96 * ((2 * 60 : Nat) : Int) + j) (by first | (rw [if_pos (by omega)]; omega) | (rw [if_neg (by omega)]; omega))
            rw [← eμ18] at w1
            refine v_iinc hx DX12_lay_153 0 rfl [(7, iv (j + 1)), (0, .ref ν), (1, iv f), (2, iv i), (3, iv k), (4, iv lane), (5, iv a)] rfl (by decide) ?_
            refine v_goto hx DX12_lay_156 ?_
            exact v_sub [0, 1, 2, 3, 4, 5, 6] _ rfl (ih (j + 1) μ18 σ1 (by omega) hk (by omega) w1 s1 (fun r g1 g2 => (k3 r g1 g2).trans (h3 r g1 g2)) (hf.trans (by rw [eμ18]; exact Fr.mI (by simp))))
  refine v_iload hx DX12_lay_0 1 rfl ?_
  refine v_iload hx DX12_lay_1 2 rfl ?_
  refine v_cSp hx DX12_lay_2 CSRX12_151 [iv f, iv i] (r_isTermOf l G Λ sz μ (by omega) (by omega)) rfl rfl (Nat.le_of_ble_eq_true rfl) (by decide) ⟨Nat.le_refl _, Nat.le_refl _⟩ ?_
  have br2 := bz_rng (isTO f i)
  refine v_if_eq hx DX12_lay_5 (by omega) (fun c5 => ?_) (fun c5 => ?_)
  · skip
    have d5 := bzf c5
    have nv : ¬ layV f i k lane := fun q => d5 q.1
    refine v_push hx DX12_lay_25 ?_
    exact v_ri hx hBD DX12_lay_26 (⟨by unfold layA; rw [if0 nv], lay_no ⟨⟨ρ, ha⟩, hh⟩ (fun q => nv q.1) FrN.rf⟩)
  · skip
    have d5 := bzt c5
    have d5n := d5.n
    refine v_iload hx DX12_lay_8 3 rfl ?_
    refine v_cSp hx DX12_lay_9 CSRX12_344 [iv k] (r_isSheet l G Λ sz μ (by omega)) rfl rfl (Nat.le_of_ble_eq_true rfl) (by decide) ⟨Nat.le_refl _, Nat.le_refl _⟩ ?_
    have br9 := bz_rng (isSh k)
    refine v_if_eq hx DX12_lay_12 (by omega) (fun c12 => ?_) (fun c12 => ?_)
    · skip
      have d12 := bzf c12
      have nv : ¬ layV f i k lane := fun q => d12 q.2.1
      refine v_push hx DX12_lay_25 ?_
      exact v_ri hx hBD DX12_lay_26 (⟨by unfold layA; rw [if0 nv], lay_no ⟨⟨ρ, ha⟩, hh⟩ (fun q => nv q.1) FrN.rf⟩)
    · skip
      have d12 := bzt c12
      have d12n := d12
      unfold isSh at d12n
      refine v_iload hx DX12_lay_15 4 rfl ?_
      refine v_push hx DX12_lay_17 ?_
      refine v_push hx DX12_lay_18 ?_
      refine v_cSp hx DX12_lay_19 CSRX12_121 [iv lane, iv 0, iv 3] (r_in l G Λ sz μ (by omega) (by omega) (by omega)) rfl rfl (Nat.le_of_ble_eq_true rfl) (by decide) ⟨Nat.le_refl _, Nat.le_refl _⟩ ?_
      have br19 := bz_rng (0 ≤ lane ∧ lane ≤ 3)
      refine v_if_ne hx DX12_lay_22 (by omega) (fun c22 => ?_) (fun c22 => ?_)
      · skip
        have d22 := bzt c22
        refine v_aload hx DX12_lay_27 0 rfl ?_
        refine v_iload hx DX12_lay_28 3 rfl ?_
        refine v_iload hx DX12_lay_29 4 rfl ?_
        refine v_iload hx DX12_lay_31 5 rfl ?_
        refine v_push hx DX12_lay_33 ?_
        refine v_cVp hx DX12_lay_35 CVRX12_347 [iv k, iv lane, iv a, iv 12] (r_why l G Λ sz μ hR hS (by omega) (by omega) (by omega) (by omega)) hR.o rfl rfl (Nat.le_of_ble_eq_true rfl) (by decide) ⟨Nat.le_refl _, Nat.le_refl _⟩ ?_
        have rr := (S k).ref_rng lane a 12
        refine v_istore hx DX12_lay_38 [(6, iv ((S k).ref lane a 12)), (0, .ref ν), (1, iv f), (2, iv i), (3, iv k), (4, iv lane), (5, iv a)] rfl (by decide) ?_
        refine v_iload hx DX12_lay_40 0 rfl ?_
        refine v_if_eq hx DX12_lay_42 (by omega) (fun c42 => ?_) (fun c42 => ?_)
        · skip
          have hhs := hS.has (by omega) c42
          refine v_aload hx DX12_lay_48 1 rfl ?_
          refine v_iload hx DX12_lay_49 4 rfl ?_
          refine v_iload hx DX12_lay_50 6 rfl ?_
          refine v_push hx DX12_lay_52 ?_
          refine v_cVp hx DX12_lay_54 CVRX12_351 [iv k, iv a, iv 12] (r_areN (s := S k) l G Λ sz μ hR (by omega) (by omega) hhs.2.2.2.2.2.2) hR.o rfl rfl (Nat.le_of_ble_eq_true rfl) (by decide) ⟨Nat.le_refl _, Nat.le_refl _⟩ ?_
          have br54 := bz_rng (allN (S k) a 12)
          refine v_if_ne hx DX12_lay_57 (by omega) (fun c57 => ?_) (fun c57 => ?_)
          · skip
            have d57 := bzt c57
            refine v_aload hx DX12_lay_63 1 rfl ?_
            refine v_push hx DX12_lay_64 ?_
            refine v_cSp hx DX12_lay_66 CSRX12_38 [iv 60] (r_above (f := 60) l G Λ sz μ) rfl rfl (Nat.le_of_ble_eq_true rfl) (by decide) ⟨Nat.le_refl _, Nat.le_refl _⟩ ?_
            refine v_cVv hx DX12_lay_69 CVRX12_7 [iv ((2 * 60 : Nat) : Int)] (r_zero (s := 120) l G Λ sz μ hR ha.1 (by decide)) hR.o rfl rfl (Nat.le_of_ble_eq_true rfl) (by decide) ⟨Nat.le_refl _, Nat.le_refl _⟩ (fun μ31 hμ31 => ?_)
            have h69 := hμ31
            refine v_aload hx DX12_lay_72 1 rfl ?_
            refine v_push hx DX12_lay_73 ?_
            refine v_cSp hx DX12_lay_75 CSRX12_41 [iv 60] (r_below (f := 60) l G Λ sz μ31) rfl rfl (Nat.le_of_ble_eq_true rfl) (by decide) ⟨Nat.le_refl _, Nat.le_refl _⟩ ?_
            refine v_cVv hx DX12_lay_78 CVRX12_7 [iv ((2 * 60 + 1 : Nat) : Int)] (r_zero (s := 121) l G Λ sz μ31 hR h69.1 (by decide)) hR.o rfl rfl (Nat.le_of_ble_eq_true rfl) (by decide) ⟨Nat.le_refl _, Nat.le_refl _⟩ (fun μ35 hμ35 => ?_)
            have h78 := hμ35
            refine v_push hx DX12_lay_81 ?_
            refine v_istore hx DX12_lay_82 [(7, iv 0), (6, iv ((S k).ref lane a 12)), (0, .ref ν), (1, iv f), (2, iv i), (3, iv k), (4, iv lane), (5, iv a)] rfl (by decide) ?_
            exact v_sub [0, 2, 3, 4, 5, 6, 7] _ rfl (L84 100 0 μ35 _ (by omega) ⟨⟨d5, d12, d22⟩, c42, d57⟩ (by omega) h78.1 ⟨by rw [up_ne (by omega), up_at, show (min (0 : Int) 7).toNat = 0 from rfl, tr0], by rw [up_at, show ((0 : Int) - 7).toNat = 0 from rfl, tr0]⟩ (fun r g1 g2 => by rw [up_ne g2, up_ne g1]) (h69.2.trans h78.2))
          · skip
            have d57 := bzf c57
            refine v_push hx DX12_lay_60 ?_
            exact v_ri hx hBD DX12_lay_62 (⟨by unfold layA; rw [if1 ⟨d5, d12, d22⟩, if_neg (by omega), if0 (fun q => d57 q.1)], lay_no ⟨⟨ρ, ha⟩, hh⟩ (fun q => d57 q.2.2.1) FrN.rf⟩)
        · skip
          refine v_iload hx DX12_lay_45 0 rfl ?_
          exact v_ri hx hBD DX12_lay_47 (⟨by unfold layA; rw [if1 ⟨d5, d12, d22⟩, if_pos c42], lay_no ⟨⟨ρ, ha⟩, hh⟩ (fun q => c42 q.2.1) FrN.rf⟩)
      · skip
        have d22 := bzf c22
        have nv : ¬ layV f i k lane := fun q => d22 q.2.2
        refine v_push hx DX12_lay_25 ?_
        exact v_ri hx hBD DX12_lay_26 (⟨by unfold layA; rw [if0 nv], lay_no ⟨⟨ρ, ha⟩, hh⟩ (fun q => nv q.1) FrN.rf⟩)
