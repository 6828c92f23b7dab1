/-! ===== the reference: copy, seen, lay, film, type ===== -/
theorem l2i_n (w : Int64) : w.toInt32 = Int32.ofInt w.toInt := by
  apply Int32.toInt_inj.mp
  rw [Int64.toInt_toInt32, Int32.toInt_ofInt]
theorem cmpI_z {a b : Int64} : cmpI a b = 0 ↔ a.toInt = b.toInt := by
  have h1 := cmpI_lt (a := a) (b := b)
  have h2 := cmpI_gt (a := a) (b := b)
  constructor
  · intro e
    have n1 : ¬ a.toInt < b.toInt := fun q => by have := h1.mpr q; omega
    have n2 : ¬ b.toInt < a.toInt := fun q => by have := h2.mpr q; omega
    omega
  · intro e
    have n1 : ¬ cmpI a b < 0 := fun q => by have := h1.mp q; omega
    have n2 : ¬ 0 < cmpI a b := fun q => by have := h2.mp q; omega
    omega
theorem bit_shl15 {k : Int} (hk : 0 ≤ k ∧ k < 15) : Int32.ofInt 1 <<< (Int32.ofInt k &&& 31) = Int32.ofInt (2 ^ k.toNat) := by
  have h : ∀ k : Fin 15, Int32.ofInt 1 <<< (Int32.ofInt (k.val : Int) &&& 31) = Int32.ofInt (2 ^ k.val) := by decide +kernel
  have := h ⟨k.toNat, by omega⟩
  simpa [Int.toNat_of_nonneg hk.1] using this
theorem bit_orN {a b : Nat} : Int32.ofInt (a : Int) ||| Int32.ofInt (b : Int) = Int32.ofInt ((a ||| b : Nat) : Int) := by
  apply Int32.toBitVec_inj.mp
  rw [Int32.toBitVec_or]
  show BitVec.ofInt 32 _ ||| BitVec.ofInt 32 _ = BitVec.ofInt 32 _
  rw [BitVec.ofInt_natCast, BitVec.ofInt_natCast, BitVec.ofInt_natCast]
  apply BitVec.eq_of_toNat_eq
  simp only [BitVec.toNat_or, BitVec.toNat_ofNat, Nat.or_mod_two_pow]
theorem bit_or15 {s : Int} {k : Nat} (hs : 0 ≤ s ∧ s < 2 ^ k) : Int32.ofInt s ||| Int32.ofInt (2 ^ k) = Int32.ofInt (s + 2 ^ k) := by
  have h2 : (2 : Int) ^ k = ((2 ^ k : Nat) : Int) := by simp
  have h1 : s = (s.toNat : Int) := by omega
  have h3 : s.toNat < 2 ^ k := by rw [h2] at hs; omega
  have h4 := Nat.two_pow_add_eq_or_of_lt h3 1
  rw [Nat.mul_one] at h4
  rw [h2, h1, bit_orN, Nat.or_comm, ← h4]
  congr 1
  simp
  omega
def seenP (b : Bd) (s : Sht) (i c t : Int) : Prop := ∀ k : Nat, (k : Int) < c → b.val t (s.2.2 (i + 2 * (k : Int))).toInt = (s.2.2 (i + 2 * (k : Int) + 1)).toInt
noncomputable def seenN (b : Bd) (s : Sht) (i c : Int) : Nat → Int
  | 0 => 0
  | t + 1 => seenN b s i c t + (if bz (seenP b s i c (t : Int)) = 0 then 0 else 2 ^ t)
theorem seenN_rng (b : Bd) (s : Sht) (i c : Int) (k : Nat) : 0 ≤ seenN b s i c k ∧ seenN b s i c k < 2 ^ k := by
  induction k with
  | zero => exact ⟨Int.le_refl _, show (0 : Int) < 2 ^ 0 by decide⟩
  | succ k ih =>
    rw [seenN]
    have h : (2 : Int) ^ (k + 1) = 2 ^ k * 2 := Int.pow_succ ..
    have h0 : (0 : Int) < 2 ^ k := Int.pow_pos (by omega)
    split <;> omega
def allN (s : Sht) (i c : Int) : Prop := ∀ j : Int, i ≤ j → j < i + c → isN (s.2.2 j)
noncomputable def seenA (b : Bd) (S : Int → Sht) (k lane i c : Int) : Int := if bz (isSh k ∧ (0 ≤ lane ∧ lane ≤ 3) ∧ 1 ≤ c ∧ c ≤ 8) = 1 then (if (S k).ref lane i (2 * c) ≠ 0 then (S k).ref lane i (2 * c) else if bz (allN (S k) i (2 * c)) = 1 then seenN b (S k) i c 15 else -2) else -1
theorem Bd.val_rng (b : Bd) (t v : Int) : -4 ≤ b.val t v ∧ b.val t v ≤ 100 := by
  unfold Bd.val
  split
  · omega
  · omega
theorem r_areN (l : Launch) (G : Gl) (Λ : Lay) (sz : Nat) (μ : Mem) {ν : Nat} {s : Sht} {k i c : Int} (hR : refK Λ ν) (hk : 0 ≤ k ∧ k < 4) (hi : 0 ≤ i ∧ 0 ≤ c ∧ i + c ≤ 24) (hf : ∀ j : Int, 0 ≤ j → j < 24 → μ.2 (ν + 17) (24 * k + j) = s.2.2 j) : Sp l G yX12_areNumbers cX12_areNumbers 6 (some FieldType.boolean) 0 [.ref ν, iv k, iv i, iv c] Λ sz μ (pP μ (bz (allN s i c))) := r_areNumbers (f := s.2.2) l G Λ sz μ hR hk hi hf
theorem r_valueOfI (l : Launch) (G : Gl) (Λ : Lay) (sz : Nat) (μ : Mem) {ν : Nat} {ρ : Nat → PS} {b : Bd} {t v : Int} (hR : refK Λ ν) (ha : RA μ ν ρ b) (ht : 0 ≤ t ∧ t < 15) (hx0 : 0 ≤ v ∧ v ≤ 100) : Sp l G yX12_valueOf cX12_valueOf 4 (some FieldType.int) 2 [.ref ν, iv t, iv v] Λ sz μ (pP μ (b.val t v)) := by
  have q := r_valueOf l G Λ sz μ hR ha ht hx0
  rwa [Int.toNat_of_nonneg ht.1] at q
/-- the tape -/
def RT (μ : Mem) (ν : Nat) (T : List Int) : Prop := T.length ≤ 90 ∧ μ.1 ν 25 = (T.length : Int) ∧ (∀ i : Nat, i < T.length → μ.1 (ν + 12) (i : Int) = T.getD i 0) ∧ ∀ c ∈ T, 32 ≤ c ∧ c ≤ 126
noncomputable def typA (T : List Int) (c : Int) : Int := if bz (32 ≤ c ∧ c ≤ 126) = 1 then (if T.length = 90 then -3 else (T.length : Int) + 1) else -1
noncomputable def typT (T : List Int) (c : Int) : List Int := if bz ((32 ≤ c ∧ c ≤ 126) ∧ T.length ≠ 90) = 1 then T ++ [c] else T
theorem typ_done {μ m m1 : Mem} {ν : Nat} {T : List Int} {c : Int} (h : RT μ ν T) (hc : 32 ≤ c ∧ c ≤ 126) (hl : ¬ T.length = 90) (e1 : m = mI μ (ν + 12) (T.length : Int) c) (e2 : m1 = mI m ν 25 ((T.length : Int) + 1)) : RT m1 ν (typT T c) ∧ FrN ν [ν + 12] [25] μ m1 := by
  have h90 := h.1
  unfold typT
  rw [if_pos (bz_pos ⟨hc, hl⟩)]
  refine ⟨⟨by simp; omega, by rw [e2, mI_at, if_pos rfl]; simp, fun i hi => ?_, fun q hq => ?_⟩, by rw [e2, e1]; exact (FrN.wI (by simp) (by omega)).trans (FrN.wJ (by simp))⟩
  · rw [e2, mI_ne (by omega), e1, mI_at]
    simp at hi
    by_cases c : i = T.length
    · subst c
      rw [if_pos rfl]
      simp
    · rw [if_neg (by omega), h.2.2.1 i (by omega)]
      simp [List.getD, List.getElem?_append_left (show i < T.length by omega)]
  · rcases List.mem_append.mp hq with w | w
    · exact h.2.2.2 q w
    · rw [List.mem_singleton.mp w]; exact hc
theorem typ_no {μ : Mem} {ν : Nat} {T : List Int} {c : Int} (h : RT μ ν T) (hc : ¬ ((32 ≤ c ∧ c ≤ 126) ∧ T.length ≠ 90)) : RT μ ν (typT T c) ∧ FrN ν [ν + 12] [25] μ μ := by
  unfold typT
  rw [if_neg (by rw [bz_neg hc]; omega)]
  exact ⟨h, FrN.rf⟩
theorem r_seen (l : Launch) (G : Gl) (Λ : Lay) (sz : Nat) (μ : Mem) {ν : Nat} {ρ : Nat → PS} {b : Bd} {S : Int → Sht} {k lane i c : Int} (hR : refK Λ ν) (ha : RA μ ν ρ b) (hS : RSh μ ν S) (rk : inR k) (rlane : inR lane) (ri : inR i) (rc : inR c) : Sp l G yX12_seen cX12_seen 11 (some FieldType.int) 3 [.ref ν, iv k, iv lane, iv i, iv c] Λ sz μ (pP μ (seenA b S k lane i c)) := by
  refine Sp.intro (by decide) (Nat.le_of_ble_eq_true rfl) (fun x hx hBD => ?_)
  refine v_lv [(0, .ref ν), (1, iv k), (2, iv lane), (3, iv i), (4, iv c)] rfl ?_
  have L85 : ∀ (nf : Nat) (t z j e : Int), (c - j < (nf : Int)) → ((0 ≤ k ∧ k < 4) ∧ (1 ≤ c ∧ c ≤ 8) ∧ (0 ≤ i ∧ i + 2 * c ≤ 24) ∧ (∀ j : Int, 0 ≤ j → j < 24 → μ.2 (ν + 17) (24 * k + j) = (S k).2.2 j) ∧ allN (S k) i (2 * c)) → (0 ≤ t ∧ t < 15) → (0 ≤ j ∧ j ≤ c) → (e = bz (∀ q : Nat, (q : Int) < j → (fun q : Nat => b.val t ((S k).2.2 (i + 2 * (q : Int))).toInt = ((S k).2.2 (i + 2 * (q : Int) + 1)).toInt) q)) → (∀ (e2 : Int), (e2 = bz (seenP b (S k) i c t)) → V G x (0, 0) Λ sz μ 160 [(8, iv e2), (7, iv t), (6, iv z), (0, .ref ν), (1, iv k), (2, iv lane), (3, iv i), (4, iv c)] []) → V G x (0, 0) Λ sz μ 85 [(9, iv j), (8, iv e), (7, iv t), (6, iv z), (0, .ref ν), (1, iv k), (2, iv lane), (3, iv i), (4, iv c)] [] := by
    intro nf
    induction nf with
    | zero => intro t z j e hm hc2 ht hj hz hC; exact absurd hm (by omega)
    | succ nf ih =>
      intro t z j e hm hc2 ht hj hz hC
      have er := hz.symm ▸ bz_rng _
      obtain ⟨k0, k1, k2, k3, k4⟩ := hc2
      have hc2 : (0 ≤ k ∧ k < 4) ∧ (1 ≤ c ∧ c ≤ 8) ∧ (0 ≤ i ∧ i + 2 * c ≤ 24) ∧ (∀ j : Int, 0 ≤ j → j < 24 → μ.2 (ν + 17) (24 * k + j) = (S k).2.2 j) ∧ allN (S k) i (2 * c) := ⟨k0, k1, k2, k3, k4⟩
      refine v_iload hx DX12_seen_85 0 rfl ?_
      refine v_iload hx DX12_seen_87 8 rfl ?_
      refine v_icmp_ge hx DX12_seen_89 (by omega) (by omega) (fun c89 => ?_) (fun c89 => ?_)
      · skip
        exact v_sub [1, 2, 3, 4, 5, 6, 7, 8] _ rfl (hC e (hz.trans (bz_congr (by rw [show j = c by omega]; exact Iff.rfl))))
      · skip
        refine v_aload hx DX12_seen_92 4 rfl ?_
        refine v_get hx DX12_seen_93 FLRX12_114 hR.o (v := .ref (ν + 17)) rfl ?_
        refine v_push hx DX12_seen_96 ?_
        refine v_iload hx DX12_seen_98 5 rfl ?_
        refine v_imul hx DX12_seen_99 ?_
        refine v_iload hx DX12_seen_100 7 rfl ?_
        refine v_iadd hx DX12_seen_101 ?_
        refine v_push hx DX12_seen_102 ?_
        refine v_iload hx DX12_seen_103 0 rfl ?_
        refine v_imul hx DX12_seen_105 ?_
        refine v_iadd hx DX12_seen_106 ?_
        refine v_lald hx DX12_seen_107 hR.items (by omega) (by decide) (w := (S k).2.2 (i + 2 * j)) (by rw [show 24 * k + i + 2 * j = 24 * k + (i + 2 * j) by omega]; exact k3 _ (by omega) (by omega)) ?_
        refine v_l2i hx DX12_seen_108 (a := ((S k).2.2 (i + 2 * j)).toInt) (l2i_n _) ?_
        refine v_istore hx DX12_seen_109 [(10, iv (((S k).2.2 (i + 2 * j)).toInt)), (9, iv j), (8, iv e), (7, iv t), (6, iv z), (0, .ref ν), (1, iv k), (2, iv lane), (3, iv i), (4, iv c)] rfl (by decide) ?_
        refine v_iload hx DX12_seen_111 2 rfl ?_
        refine v_if_eq hx DX12_seen_113 (by omega) (fun c113 => ?_) (fun c113 => ?_)
        · skip
          refine v_push hx DX12_seen_151 ?_
          refine v_istore hx DX12_seen_152 [(8, iv 0), (10, iv (((S k).2.2 (i + 2 * j)).toInt)), (9, iv j), (7, iv t), (6, iv z), (0, .ref ν), (1, iv k), (2, iv lane), (3, iv i), (4, iv c)] rfl (by decide) ?_
          refine v_iinc hx DX12_seen_154 2 rfl [(9, iv (j + 1)), (8, iv 0), (10, iv (((S k).2.2 (i + 2 * j)).toInt)), (7, iv t), (6, iv z), (0, .ref ν), (1, iv k), (2, iv lane), (3, iv i), (4, iv c)] rfl (by decide) ?_
          refine v_goto hx DX12_seen_157 ?_
          exact v_sub [0, 1, 3, 4, 5, 6, 7, 8, 9] _ rfl (ih t z (j + 1) 0 (by omega) hc2 (by omega) (by omega) (bz_all0 hz c113) hC)
        · skip
          refine v_aload hx DX12_seen_116 5 rfl ?_
          refine v_iload hx DX12_seen_117 3 rfl ?_
          refine v_iload hx DX12_seen_119 0 rfl ?_
          refine v_cVp hx DX12_seen_121 CVRX12_183 [iv t, iv (((S k).2.2 (i + 2 * j)).toInt)] (r_valueOfI l G Λ sz μ hR ha (by omega) (by have := k4 (i + 2 * j) (by omega) (by omega); unfold isN at this; omega)) hR.o rfl rfl (Nat.le_of_ble_eq_true rfl) (by decide) ⟨Nat.le_refl _, Nat.le_refl _⟩ ?_
          have vr := b.val_rng t ((S k).2.2 (i + 2 * j)).toInt
          refine v_i2l hx DX12_seen_124 (w := (Int32.ofInt (b.val t ((S k).2.2 (i + 2 * j)).toInt)).toInt64) rfl ?_
          refine v_aload hx DX12_seen_125 5 rfl ?_
          refine v_get hx DX12_seen_126 FLRX12_114 hR.o (v := .ref (ν + 17)) rfl ?_
          refine v_push hx DX12_seen_129 ?_
          refine v_iload hx DX12_seen_131 6 rfl ?_
          refine v_imul hx DX12_seen_132 ?_
          refine v_iload hx DX12_seen_133 8 rfl ?_
          refine v_iadd hx DX12_seen_134 ?_
          refine v_push hx DX12_seen_135 ?_
          refine v_iload hx DX12_seen_136 1 rfl ?_
          refine v_imul hx DX12_seen_138 ?_
          refine v_iadd hx DX12_seen_139 ?_
          refine v_push hx DX12_seen_140 ?_
          refine v_iadd hx DX12_seen_141 ?_
          refine v_lald hx DX12_seen_142 hR.items (by omega) (by decide) (w := (S k).2.2 (i + 2 * j + 1)) (by rw [show 24 * k + i + 2 * j + 1 = 24 * k + (i + 2 * j + 1) by omega]; exact k3 _ (by omega) (by omega)) ?_
          refine v_lcmp hx DX12_seen_143 ?_
          have cr143 := cmpI_rng ((Int32.ofInt (b.val t ((S k).2.2 (i + 2 * j)).toInt)).toInt64) ((S k).2.2 (i + 2 * j + 1))
          refine v_if_ne hx DX12_seen_144 (by omega) (fun c144 => ?_) (fun c144 => ?_)
          · skip
            have hx0 : ¬ (fun q : Nat => b.val t ((S k).2.2 (i + 2 * (q : Int))).toInt = ((S k).2.2 (i + 2 * (q : Int) + 1)).toInt) j.toNat := fun w => by
              have w2 : b.val t ((S k).2.2 (i + 2 * (j.toNat : Int))).toInt = ((S k).2.2 (i + 2 * (j.toNat : Int) + 1)).toInt := w
              rw [Int.toNat_of_nonneg (by omega)] at w2
              exact c144 (cmpI_z.mpr (by rw [i2l_int (by omega)]; exact w2))
            refine v_push hx DX12_seen_151 ?_
            refine v_istore hx DX12_seen_152 [(8, iv 0), (10, iv (((S k).2.2 (i + 2 * j)).toInt)), (9, iv j), (7, iv t), (6, iv z), (0, .ref ν), (1, iv k), (2, iv lane), (3, iv i), (4, iv c)] rfl (by decide) ?_
            refine v_iinc hx DX12_seen_154 2 rfl [(9, iv (j + 1)), (8, iv 0), (10, iv (((S k).2.2 (i + 2 * j)).toInt)), (7, iv t), (6, iv z), (0, .ref ν), (1, iv k), (2, iv lane), (3, iv i), (4, iv c)] rfl (by decide) ?_
            refine v_goto hx DX12_seen_157 ?_
            exact v_sub [0, 1, 3, 4, 5, 6, 7, 8, 9] _ rfl (ih t z (j + 1) 0 (by omega) hc2 (by omega) (by omega) (bz_all1 (by omega) hx0) hC)
          · skip
            have hx1 : (fun q : Nat => b.val t ((S k).2.2 (i + 2 * (q : Int))).toInt = ((S k).2.2 (i + 2 * (q : Int) + 1)).toInt) j.toNat := by
              show b.val t ((S k).2.2 (i + 2 * (j.toNat : Int))).toInt = ((S k).2.2 (i + 2 * (j.toNat : Int) + 1)).toInt
              rw [Int.toNat_of_nonneg (by omega)]
              have h1 := cmpI_z.mp c144
              rw [i2l_int (by omega)] at h1
              exact h1
            refine v_push hx DX12_seen_147 ?_
            refine v_goto hx DX12_seen_148 ?_
            refine v_istore hx DX12_seen_152 [(8, iv 1), (10, iv (((S k).2.2 (i + 2 * j)).toInt)), (9, iv j), (7, iv t), (6, iv z), (0, .ref ν), (1, iv k), (2, iv lane), (3, iv i), (4, iv c)] rfl (by decide) ?_
            refine v_iinc hx DX12_seen_154 2 rfl [(9, iv (j + 1)), (8, iv 1), (10, iv (((S k).2.2 (i + 2 * j)).toInt)), (7, iv t), (6, iv z), (0, .ref ν), (1, iv k), (2, iv lane), (3, iv i), (4, iv c)] rfl (by decide) ?_
            refine v_goto hx DX12_seen_157 ?_
            exact v_sub [0, 1, 3, 4, 5, 6, 7, 8, 9] _ rfl (ih t z (j + 1) 1 (by omega) hc2 (by omega) (by omega) (bz_all2 (by omega) hz c113 hx1) hC)
  have L72 : ∀ (nf : Nat) (t z : Int), (15 - t < (nf : Int)) → (seenA b S k lane i c = seenN b (S k) i c 15) → ((0 ≤ k ∧ k < 4) ∧ (1 ≤ c ∧ c ≤ 8) ∧ (0 ≤ i ∧ i + 2 * c ≤ 24) ∧ (∀ j : Int, 0 ≤ j → j < 24 → μ.2 (ν + 17) (24 * k + j) = (S k).2.2 j) ∧ allN (S k) i (2 * c)) → (0 ≤ t ∧ t ≤ 15) → (z = seenN b (S k) i c t.toNat) → V G x (0, 0) Λ sz μ 72 [(7, iv t), (6, iv z), (0, .ref ν), (1, iv k), (2, iv lane), (3, iv i), (4, iv c)] [] := by
    intro nf
    induction nf with
    | zero => intro t z hm hv hc2 ht hz; exact absurd hm (by omega)
    | succ nf ih =>
      intro t z hm hv hc2 ht hz
      have sr := seenN_rng b (S k) i c t.toNat
      have hcp := hc2
      refine v_iload hx DX12_seen_72 0 rfl ?_
      refine v_push hx DX12_seen_74 ?_
      refine v_icmp_ge hx DX12_seen_76 (by omega) (by decide) (fun c76 => ?_) (fun c76 => ?_)
      · skip
        refine v_iload hx DX12_seen_184 1 rfl ?_
        exact v_ri hx hBD DX12_seen_186 (⟨rfl, by rw [hv, hz, show t.toNat = 15 by omega]⟩)
      · skip
        refine v_push hx DX12_seen_79 ?_
        refine v_istore hx DX12_seen_80 [(8, iv 1), (7, iv t), (6, iv z), (0, .ref ν), (1, iv k), (2, iv lane), (3, iv i), (4, iv c)] rfl (by decide) ?_
        refine v_push hx DX12_seen_82 ?_
        refine v_istore hx DX12_seen_83 [(9, iv 0), (8, iv 1), (7, iv t), (6, iv z), (0, .ref ν), (1, iv k), (2, iv lane), (3, iv i), (4, iv c)] rfl (by decide) ?_
        refine v_sub [0, 1, 2, 3, 4, 5, 6, 7, 8] _ rfl (L85 100 t z 0 1 (by omega) hc2 (by omega) (by omega) (bz_pos (fun q hq => by omega)).symm (fun e2 he2 => ?_))
        have e2r := bz_rng (seenP b (S k) i c t)
        refine v_iload hx DX12_seen_160 2 rfl ?_
        refine v_iload hx DX12_seen_162 0 rfl ?_
        refine v_if_eq hx DX12_seen_164 (by omega) (fun c164 => ?_) (fun c164 => ?_)
        · skip
          refine v_push hx DX12_seen_174 ?_
          refine v_ior hx DX12_seen_175 (z := z) (bit_or0 z) ?_
          have hq : z = seenN b (S k) i c t.toNat + (if bz (seenP b (S k) i c t) = 0 then 0 else 2 ^ t.toNat) := by rw [if_pos (by omega), hz]; omega
          refine v_istore hx DX12_seen_176 [(6, iv z), (8, iv e2), (7, iv t), (0, .ref ν), (1, iv k), (2, iv lane), (3, iv i), (4, iv c)] rfl (by decide) ?_
          refine v_iinc hx DX12_seen_178 2 rfl [(7, iv (t + 1)), (6, iv z), (8, iv e2), (0, .ref ν), (1, iv k), (2, iv lane), (3, iv i), (4, iv c)] rfl (by decide) ?_
          refine v_goto hx DX12_seen_181 ?_
          exact v_sub [0, 1, 3, 4, 5, 6, 7] _ rfl (ih (t + 1) z (by omega) hv hc2 (by omega) (by rw [show (t + 1).toNat = t.toNat + 1 by omega, seenN, Int.toNat_of_nonneg (by omega)]; exact hq))
        · skip
          refine v_push hx DX12_seen_167 ?_
          refine v_iload hx DX12_seen_168 1 rfl ?_
          refine v_ishl hx DX12_seen_170 (z := 2 ^ t.toNat) (bit_shl15 (by omega)) ?_
          refine v_goto hx DX12_seen_171 ?_
          refine v_ior hx DX12_seen_175 (z := z + 2 ^ t.toNat) (bit_or15 (by rw [hz]; exact sr)) ?_
          have hq : z + 2 ^ t.toNat = seenN b (S k) i c t.toNat + (if bz (seenP b (S k) i c t) = 0 then 0 else 2 ^ t.toNat) := by rw [if_neg (by omega), hz]
          refine v_istore hx DX12_seen_176 [(6, iv (z + 2 ^ t.toNat)), (8, iv e2), (7, iv t), (0, .ref ν), (1, iv k), (2, iv lane), (3, iv i), (4, iv c)] rfl (by decide) ?_
          refine v_iinc hx DX12_seen_178 2 rfl [(7, iv (t + 1)), (6, iv (z + 2 ^ t.toNat)), (8, iv e2), (0, .ref ν), (1, iv k), (2, iv lane), (3, iv i), (4, iv c)] rfl (by decide) ?_
          refine v_goto hx DX12_seen_181 ?_
          exact v_sub [0, 1, 3, 4, 5, 6, 7] _ rfl (ih (t + 1) (z + 2 ^ t.toNat) (by omega) hv hc2 (by omega) (by rw [show (t + 1).toNat = t.toNat + 1 by omega, seenN, Int.toNat_of_nonneg (by omega)]; exact hq))
  refine v_iload hx DX12_seen_0 1 rfl ?_
  refine v_cSp hx DX12_seen_1 CSRX12_344 [iv k] (r_isSheet l G Λ sz μ (by omega)) rfl rfl (Nat.le_of_ble_eq_true rfl) (by decide) ⟨Nat.le_refl _, Nat.le_refl _⟩ ?_
  have br1 := bz_rng (isSh k)
  refine v_if_eq hx DX12_seen_4 (by omega) (fun c4 => ?_) (fun c4 => ?_)
  · skip
    have d4 := bzf c4
    have nk : ¬ (isSh k ∧ (0 ≤ lane ∧ lane ≤ 3) ∧ 1 ≤ c ∧ c ≤ 8) := fun q => d4 q.1
    refine v_push hx DX12_seen_27 ?_
    exact v_ri hx hBD DX12_seen_28 (⟨rfl, by unfold seenA; rw [if0 nk]⟩)
  · skip
    have d4 := bzt c4
    have d4n := d4
    unfold isSh at d4n
    refine v_iload hx DX12_seen_7 2 rfl ?_
    refine v_push hx DX12_seen_8 ?_
    refine v_push hx DX12_seen_9 ?_
    refine v_cSp hx DX12_seen_10 CSRX12_121 [iv lane, iv 0, iv 3] (r_in l G Λ sz μ (by omega) (by omega) (by omega)) rfl rfl (Nat.le_of_ble_eq_true rfl) (by decide) ⟨Nat.le_refl _, Nat.le_refl _⟩ ?_
    have br10 := bz_rng (0 ≤ lane ∧ lane ≤ 3)
    refine v_if_eq hx DX12_seen_13 (by omega) (fun c13 => ?_) (fun c13 => ?_)
    · skip
      have d13 := bzf c13
      have nk : ¬ (isSh k ∧ (0 ≤ lane ∧ lane ≤ 3) ∧ 1 ≤ c ∧ c ≤ 8) := fun q => d13 q.2.1
      refine v_push hx DX12_seen_27 ?_
      exact v_ri hx hBD DX12_seen_28 (⟨rfl, by unfold seenA; rw [if0 nk]⟩)
    · skip
      have d13 := bzt c13
      refine v_iload hx DX12_seen_16 4 rfl ?_
      refine v_push hx DX12_seen_18 ?_
      refine v_push hx DX12_seen_19 ?_
      refine v_cSp hx DX12_seen_21 CSRX12_121 [iv c, iv 1, iv 8] (r_in l G Λ sz μ (by omega) (by omega) (by omega)) rfl rfl (Nat.le_of_ble_eq_true rfl) (by decide) ⟨Nat.le_refl _, Nat.le_refl _⟩ ?_
      have br21 := bz_rng (1 ≤ c ∧ c ≤ 8)
      refine v_if_ne hx DX12_seen_24 (by omega) (fun c24 => ?_) (fun c24 => ?_)
      · skip
        have d24 := bzt c24
        refine v_aload hx DX12_seen_29 0 rfl ?_
        refine v_iload hx DX12_seen_30 1 rfl ?_
        refine v_iload hx DX12_seen_31 2 rfl ?_
        refine v_iload hx DX12_seen_32 3 rfl ?_
        refine v_push hx DX12_seen_33 ?_
        refine v_iload hx DX12_seen_34 4 rfl ?_
        refine v_imul hx DX12_seen_36 ?_
        refine v_cVp hx DX12_seen_37 CVRX12_347 [iv k, iv lane, iv i, iv (2 * c)] (r_why l G Λ sz μ hR hS (by omega) (by omega) (by omega) (by omega)) hR.o rfl rfl (Nat.le_of_ble_eq_true rfl) (by decide) ⟨Nat.le_refl _, Nat.le_refl _⟩ ?_
        have rr := (S k).ref_rng lane i (2 * c)
        refine v_istore hx DX12_seen_40 [(5, iv ((S k).ref lane i (2 * c))), (0, .ref ν), (1, iv k), (2, iv lane), (3, iv i), (4, iv c)] rfl (by decide) ?_
        refine v_iload hx DX12_seen_42 0 rfl ?_
        refine v_if_eq hx DX12_seen_44 (by omega) (fun c44 => ?_) (fun c44 => ?_)
        · skip
          have hhs := hS.has (by omega) c44
          refine v_aload hx DX12_seen_50 1 rfl ?_
          refine v_iload hx DX12_seen_51 2 rfl ?_
          refine v_iload hx DX12_seen_52 4 rfl ?_
          refine v_push hx DX12_seen_53 ?_
          refine v_iload hx DX12_seen_54 5 rfl ?_
          refine v_imul hx DX12_seen_56 ?_
          refine v_cVp hx DX12_seen_57 CVRX12_351 [iv k, iv i, iv (2 * c)] (r_areN (s := S k) l G Λ sz μ hR (by omega) (by omega) hhs.2.2.2.2.2.2) hR.o rfl rfl (Nat.le_of_ble_eq_true rfl) (by decide) ⟨Nat.le_refl _, Nat.le_refl _⟩ ?_
          have br57 := bz_rng (allN (S k) i (2 * c))
          refine v_if_ne hx DX12_seen_60 (by omega) (fun c60 => ?_) (fun c60 => ?_)
          · skip
            have d60 := bzt c60
            refine v_push hx DX12_seen_66 ?_
            refine v_istore hx DX12_seen_67 [(6, iv 0), (5, iv ((S k).ref lane i (2 * c))), (0, .ref ν), (1, iv k), (2, iv lane), (3, iv i), (4, iv c)] rfl (by decide) ?_
            refine v_push hx DX12_seen_69 ?_
            refine v_istore hx DX12_seen_70 [(7, iv 0), (6, iv 0), (5, iv ((S k).ref lane i (2 * c))), (0, .ref ν), (1, iv k), (2, iv lane), (3, iv i), (4, iv c)] rfl (by decide) ?_
            exact v_sub [0, 1, 3, 4, 5, 6, 7] _ rfl (L72 100 0 0 (by omega) (by unfold seenA; rw [if1 ⟨d4, d13, d24⟩, if_neg (by omega), if1 d60]) ⟨by omega, by omega, by omega, hhs.2.2.2.2.2.2, d60⟩ (by omega) rfl)
          · skip
            have d60 := bzf c60
            refine v_push hx DX12_seen_63 ?_
            exact v_ri hx hBD DX12_seen_65 (⟨rfl, by unfold seenA; rw [if1 ⟨d4, d13, d24⟩, if_neg (by omega), if0 d60]⟩)
        · skip
          refine v_iload hx DX12_seen_47 0 rfl ?_
          exact v_ri hx hBD DX12_seen_49 (⟨rfl, by unfold seenA; rw [if1 ⟨d4, d13, d24⟩, if_pos c44]⟩)
      · skip
        have d24 := bzf c24
        have nk : ¬ (isSh k ∧ (0 ≤ lane ∧ lane ≤ 3) ∧ 1 ≤ c ∧ c ≤ 8) := fun q => d24 q.2.2
        refine v_push hx DX12_seen_27 ?_
        exact v_ri hx hBD DX12_seen_28 (⟨rfl, by unfold seenA; rw [if0 nk]⟩)
theorem r_type (l : Launch) (G : Gl) (Λ : Lay) (sz : Nat) (μ : Mem) {ν : Nat} {T : List Int} {c : Int} (hR : refK Λ ν) (hT : RT μ ν T) (hc : inR c) : Sp l G yX12_type cX12_type 2 (some FieldType.int) 1 [.ref ν, iv c] Λ sz μ (pI (fun z μ' => z = typA T c ∧ RT μ' ν (typT T c) ∧ FrN ν [ν + 12] [25] μ μ')) := by
  refine Sp.intro (by decide) (Nat.le_of_ble_eq_true rfl) (fun x hx hBD => ?_)
  refine v_lv [(0, .ref ν), (1, iv c)] rfl ?_
  have h90 := hT.1
  refine v_iload hx DX12_type_0 1 rfl ?_
  refine v_push hx DX12_type_1 ?_
  refine v_push hx DX12_type_3 ?_
  refine v_cSp hx DX12_type_5 CSRX12_121 [iv c, iv 32, iv 126] (r_in l G Λ sz μ (by omega) (by omega) (by omega)) rfl rfl (Nat.le_of_ble_eq_true rfl) (by decide) ⟨Nat.le_refl _, Nat.le_refl _⟩ ?_
  have br5 := bz_rng (32 ≤ c ∧ c ≤ 126)
  refine v_if_ne hx DX12_type_8 (by omega) (fun c8 => ?_) (fun c8 => ?_)
  · skip
    have d8 := bzt c8
    refine v_aload hx DX12_type_13 0 rfl ?_
    refine v_get hx DX12_type_14 FLRX12_320 hR.o (fv_i rfl hT.2.1 : _ = iv (T.length : Int)) ?_
    refine v_push hx DX12_type_17 ?_
    refine v_icmp_ne hx DX12_type_19 (by omega) (by decide) (fun c19 => ?_) (fun c19 => ?_)
    · skip
      refine v_aload hx DX12_type_25 0 rfl ?_
      refine v_get hx DX12_type_26 FLRX12_99 hR.o (v := .ref (ν + 12)) rfl ?_
      refine v_aload hx DX12_type_29 0 rfl ?_
      refine v_get hx DX12_type_30 FLRX12_320 hR.o (fv_i rfl hT.2.1 : _ = iv (T.length : Int)) ?_
      refine v_iload hx DX12_type_33 1 rfl ?_
      refine v_iastm hx DX12_type_34 hR.tape (by omega) (by decide) (fun μ3 eμ3 => ?_)
      refine v_aload hx DX12_type_35 0 rfl ?_
      refine v_dup hx DX12_type_36 rfl ?_
      refine v_get hx DX12_type_37 FLRX12_320 hR.o (fv_i rfl (by rw [eμ3, mI_ne (by omega)]; exact hT.2.1) : _ = iv (T.length : Int)) ?_
      refine v_push hx DX12_type_40 ?_
      refine v_iadd hx DX12_type_41 ?_
      refine v_pI hx DX12_type_42 FPRX12_320 hR.o rfl (ki := 25) rfl (fun μ4 eμ4 => ?_)
      refine v_aload hx DX12_type_45 0 rfl ?_
      refine v_get hx DX12_type_46 FLRX12_320 hR.o (fv_i rfl (by rw [eμ4, mI_at]; rfl) : _ = iv ((T.length : Int) + 1)) ?_
      exact v_ri hx hBD DX12_type_49 (⟨by unfold typA; rw [if1 d8, if_neg (by omega)], typ_done hT d8 (by omega) eμ3 eμ4⟩)
    · skip
      refine v_push hx DX12_type_22 ?_
      exact v_ri hx hBD DX12_type_24 (⟨by unfold typA; rw [if1 d8, if_pos (by omega)], typ_no hT (fun q => q.2 (by omega))⟩)
  · skip
    have d8 := bzf c8
    refine v_push hx DX12_type_11 ?_
    exact v_ri hx hBD DX12_type_12 (⟨by unfold typA; rw [if0 d8], typ_no hT (fun q => d8 q.1)⟩)
