/-! ===== where a text can't go on ===== -/
def chT (T : List Int) (k : Int) : Int := T.getD k.toNat 0
noncomputable def exd (T : List Int) (k : Int) : Int := if bz (isFg T k ∧ isFg T (k + 1)) = 1 then (if bz (isFg T (k + 2)) = 1 then 2 else 1) else 0
/-- from k on, w wanted, so many open -/
noncomputable def flt (T : List Int) : Nat → Int → Int → Int → Int
  | 0, k, _, _ => k
  | n + 1, k, w, d =>
    if (T.length : Int) ≤ k then (if 0 < d ∨ w = 0 ∨ w = 2 then (T.length : Int) else -1)
    else if chT T k = 32 then flt T n (k + 1) w d
    else if w = 0 then (if chT T k = 40 ∧ d < 6 then flt T n (k + 1) 0 (d + 1) else if (48 ≤ chT T k ∧ chT T k ≤ 57) ∨ chT T k = 120 then flt T n (k + exd T k + 1) 1 d else k)
    else if w = 2 then (if 48 ≤ chT T k ∧ chT T k ≤ 56 then flt T n (k + 1) 3 d else k)
    else if chT T k = 94 ∧ w = 1 then flt T n (k + 1) 2 d
    else if chT T k = 41 ∧ 0 < d then flt T n (k + 1) 1 (d - 1)
    else if chT T k = 43 ∨ chT T k = 45 ∨ chT T k = 42 ∨ chT T k = 47 then flt T n (k + 1) 0 d
    else k
noncomputable def fltA (T : List Int) : Int := flt T 92 0 0 0
theorem ch_mem {T : List Int} {k : Int} (h : 0 ≤ k ∧ k < T.length) : chT T k ∈ T := by
  unfold chT
  rw [List.getD_eq_getElem?_getD, List.getElem?_eq_getElem (show k.toNat < T.length by omega)]
  exact List.getElem_mem _
theorem isFg_ch {T : List Int} {k : Int} (h : 0 ≤ k ∧ k < T.length) : isFg T k ↔ (48 ≤ chT T k ∧ chT T k ≤ 57) := ⟨fun q => q.2.2, fun q => ⟨h.1, h.2, q⟩⟩
theorem r_fault (l : Launch) (G : Gl) (Λ : Lay) (sz : Nat) (μ : Mem) {ν : Nat} {T : List Int} (hR : refK Λ ν) (hT : RT μ ν T) : Sp l G yX12_fault cX12_fault 6 (some FieldType.int) 2 [.ref ν] Λ sz μ (pP μ (fltA T)) := by
  refine Sp.intro (by decide) (Nat.le_of_ble_eq_true rfl) (fun x hx hBD => ?_)
  refine v_lv [(0, .ref ν)] rfl ?_
  have h90 := hT.1
  have L6 : ∀ (nf : Nat) (k w d : Int) (q : Nat), ((T.length : Int) - k < (nf : Int)) → (0 ≤ k ∧ k ≤ (T.length : Int)) → (0 ≤ w ∧ w ≤ 3) → (0 ≤ d ∧ d ≤ 6) → ((T.length : Int) + 1 ≤ q + k) → (fltA T = flt T q k w d) → V G x (0, 0) Λ sz μ 6 [(3, iv k), (2, iv w), (1, iv d), (0, .ref ν)] [] := by
    intro nf
    induction nf with
    | zero => intro k w d q hm hk hw2 hd hn hq; exact absurd hm (by omega)
    | succ nf ih =>
      intro k w d q hm hk hw2 hd hn hq
      refine v_iload hx DX12_fault_6 0 rfl ?_
      refine v_aload hx DX12_fault_7 3 rfl ?_
      refine v_get hx DX12_fault_8 FLRX12_320 hR.o (fv_i rfl hT.2.1 : _ = iv (T.length : Int)) ?_
      refine v_icmp_ge hx DX12_fault_11 (by omega) (by omega) (fun c11 => ?_) (fun c11 => ?_)
      · skip
        refine v_iload hx DX12_fault_217 2 rfl ?_
        refine v_if_gt hx DX12_fault_218 (by omega) (fun c218 => ?_) (fun c218 => ?_)
        · skip
          refine v_aload hx DX12_fault_230 3 rfl ?_
          refine v_get hx DX12_fault_231 FLRX12_320 hR.o (fv_i rfl hT.2.1 : _ = iv (T.length : Int)) ?_
          refine v_goto hx DX12_fault_234 ?_
          exact v_ri hx hBD DX12_fault_238 (⟨rfl, by obtain ⟨n1, en⟩ : ∃ n1 : Nat, q = n1 + 1 := ⟨q - 1, by omega⟩; rw [hq, en, flt, if_pos (by omega), if_pos (by omega)]⟩)
        · skip
          refine v_iload hx DX12_fault_221 1 rfl ?_
          refine v_if_eq hx DX12_fault_222 (by omega) (fun c222 => ?_) (fun c222 => ?_)
          · skip
            refine v_aload hx DX12_fault_230 3 rfl ?_
            refine v_get hx DX12_fault_231 FLRX12_320 hR.o (fv_i rfl hT.2.1 : _ = iv (T.length : Int)) ?_
            refine v_goto hx DX12_fault_234 ?_
            exact v_ri hx hBD DX12_fault_238 (⟨rfl, by obtain ⟨n1, en⟩ : ∃ n1 : Nat, q = n1 + 1 := ⟨q - 1, by omega⟩; rw [hq, en, flt, if_pos (by omega), if_pos (by omega)]⟩)
          · skip
            refine v_iload hx DX12_fault_225 1 rfl ?_
            refine v_push hx DX12_fault_226 ?_
            refine v_icmp_ne hx DX12_fault_227 (by omega) (by decide) (fun c227 => ?_) (fun c227 => ?_)
            · skip
              refine v_push hx DX12_fault_237 ?_
              exact v_ri hx hBD DX12_fault_238 (⟨rfl, by obtain ⟨n1, en⟩ : ∃ n1 : Nat, q = n1 + 1 := ⟨q - 1, by omega⟩; rw [hq, en, flt, if_pos (by omega), if_neg (by omega)]⟩)
            · skip
              refine v_aload hx DX12_fault_230 3 rfl ?_
              refine v_get hx DX12_fault_231 FLRX12_320 hR.o (fv_i rfl hT.2.1 : _ = iv (T.length : Int)) ?_
              refine v_goto hx DX12_fault_234 ?_
              exact v_ri hx hBD DX12_fault_238 (⟨rfl, by obtain ⟨n1, en⟩ : ∃ n1 : Nat, q = n1 + 1 := ⟨q - 1, by omega⟩; rw [hq, en, flt, if_pos (by omega), if_pos (by omega)]⟩)
      · skip
        have hcm := hT.2.2.2 _ (ch_mem (T := T) (k := k) (by omega))
        have fg := isFg_ch (T := T) (k := k) (by omega)
        refine v_aload hx DX12_fault_14 3 rfl ?_
        refine v_get hx DX12_fault_15 FLRX12_99 hR.o (v := .ref (ν + 12)) rfl ?_
        refine v_iload hx DX12_fault_18 0 rfl ?_
        refine v_iald hx DX12_fault_19 hR.tape (by omega) (by decide) (z := chT T k) (by have z := hT.2.2.1 k.toNat (by omega); rwa [Int.toNat_of_nonneg (by omega)] at z) ?_
        refine v_istore hx DX12_fault_20 [(4, iv (chT T k)), (3, iv k), (2, iv w), (1, iv d), (0, .ref ν)] rfl (by decide) ?_
        refine v_iload hx DX12_fault_22 0 rfl ?_
        refine v_push hx DX12_fault_24 ?_
        refine v_icmp_ne hx DX12_fault_26 (by omega) (by decide) (fun c26 => ?_) (fun c26 => ?_)
        · skip
          refine v_iload hx DX12_fault_35 2 rfl ?_
          refine v_if_ne hx DX12_fault_36 (by omega) (fun c36 => ?_) (fun c36 => ?_)
          · skip
            refine v_iload hx DX12_fault_136 2 rfl ?_
            refine v_push hx DX12_fault_137 ?_
            refine v_icmp_ne hx DX12_fault_138 (by omega) (by decide) (fun c138 => ?_) (fun c138 => ?_)
            · skip
              refine v_iload hx DX12_fault_160 0 rfl ?_
              refine v_push hx DX12_fault_162 ?_
              refine v_icmp_ne hx DX12_fault_164 (by omega) (by decide) (fun c164 => ?_) (fun c164 => ?_)
              · skip
                refine v_iload hx DX12_fault_177 0 rfl ?_
                refine v_push hx DX12_fault_179 ?_
                refine v_icmp_ne hx DX12_fault_181 (by omega) (by decide) (fun c181 => ?_) (fun c181 => ?_)
                · skip
                  refine v_iload hx DX12_fault_196 0 rfl ?_
                  refine v_cSp hx DX12_fault_198 CSRX12_326 [iv (chT T k)] (r_isAct l G Λ sz μ (by omega)) rfl rfl (Nat.le_of_ble_eq_true rfl) (by decide) ⟨Nat.le_refl _, Nat.le_refl _⟩ ?_
                  have br198 := bz_rng (chT T k = 43 ∨ chT T k = 45 ∨ chT T k = 42 ∨ chT T k = 47)
                  refine v_if_eq hx DX12_fault_201 (by omega) (fun c201 => ?_) (fun c201 => ?_)
                  · skip
                    have d201 := bzf c201
                    have gz1 := d201
                    refine v_iload hx DX12_fault_209 1 rfl ?_
                    exact v_ri hx hBD DX12_fault_210 (⟨rfl, by obtain ⟨n1, en⟩ : ∃ n1 : Nat, q = n1 + 1 := ⟨q - 1, by omega⟩; rw [hq, en, flt, if_neg (by omega), if_neg (by omega), if_neg (by omega), if_neg (by omega), if_neg (by omega), if_neg (by omega), if_neg (by omega)]⟩)
                  · skip
                    have d201 := bzt c201
                    have gz2 := d201
                    refine v_push hx DX12_fault_204 ?_
                    refine v_istore hx DX12_fault_205 [(2, iv 0), (4, iv (chT T k)), (3, iv k), (1, iv d), (0, .ref ν)] rfl (by decide) ?_
                    refine v_goto hx DX12_fault_206 ?_
                    refine v_iinc hx DX12_fault_211 2 rfl [(3, iv (k + 1)), (2, iv 0), (4, iv (chT T k)), (1, iv d), (0, .ref ν)] rfl (by decide) ?_
                    refine v_goto hx DX12_fault_214 ?_
                    exact v_sub [0, 1, 3, 4] _ rfl (ih (k + 1) 0 d (q - 1) (by omega) (by omega) (by omega) (by omega) (by omega) (by obtain ⟨n1, rfl⟩ : ∃ n1 : Nat, q = n1 + 1 := ⟨q - 1, by omega⟩; rw [hq, flt, if_neg (by omega), if_neg (by omega), if_neg (by omega), if_neg (by omega), if_neg (by omega), if_neg (by omega), if_pos (by omega)]; first | done | rfl))
                · skip
                  refine v_iload hx DX12_fault_184 3 rfl ?_
                  refine v_if_le hx DX12_fault_185 (by omega) (fun c185 => ?_) (fun c185 => ?_)
                  · skip
                    refine v_iload hx DX12_fault_196 0 rfl ?_
                    refine v_cSp hx DX12_fault_198 CSRX12_326 [iv (chT T k)] (r_isAct l G Λ sz μ (by omega)) rfl rfl (Nat.le_of_ble_eq_true rfl) (by decide) ⟨Nat.le_refl _, Nat.le_refl _⟩ ?_
                    have br198 := bz_rng (chT T k = 43 ∨ chT T k = 45 ∨ chT T k = 42 ∨ chT T k = 47)
                    refine v_if_eq hx DX12_fault_201 (by omega) (fun c201 => ?_) (fun c201 => ?_)
                    · skip
                      have d201 := bzf c201
                      have gz3 := d201
                      refine v_iload hx DX12_fault_209 1 rfl ?_
                      exact v_ri hx hBD DX12_fault_210 (⟨rfl, by obtain ⟨n1, en⟩ : ∃ n1 : Nat, q = n1 + 1 := ⟨q - 1, by omega⟩; rw [hq, en, flt, if_neg (by omega), if_neg (by omega), if_neg (by omega), if_neg (by omega), if_neg (by omega), if_neg (by omega), if_neg (by omega)]⟩)
                    · skip
                      have d201 := bzt c201
                      have gz4 := d201
                      refine v_push hx DX12_fault_204 ?_
                      refine v_istore hx DX12_fault_205 [(2, iv 0), (4, iv (chT T k)), (3, iv k), (1, iv d), (0, .ref ν)] rfl (by decide) ?_
                      refine v_goto hx DX12_fault_206 ?_
                      refine v_iinc hx DX12_fault_211 2 rfl [(3, iv (k + 1)), (2, iv 0), (4, iv (chT T k)), (1, iv d), (0, .ref ν)] rfl (by decide) ?_
                      refine v_goto hx DX12_fault_214 ?_
                      exact v_sub [0, 1, 3, 4] _ rfl (ih (k + 1) 0 d (q - 1) (by omega) (by omega) (by omega) (by omega) (by omega) (by obtain ⟨n1, rfl⟩ : ∃ n1 : Nat, q = n1 + 1 := ⟨q - 1, by omega⟩; rw [hq, flt, if_neg (by omega), if_neg (by omega), if_neg (by omega), if_neg (by omega), if_neg (by omega), if_neg (by omega), if_pos (by omega)]; first | done | rfl))
                  · skip
                    refine v_iinc hx DX12_fault_188 3 rfl [(1, iv (d + (-1))), (4, iv (chT T k)), (3, iv k), (2, iv w), (0, .ref ν)] rfl (by decide) ?_
                    refine v_push hx DX12_fault_191 ?_
                    refine v_istore hx DX12_fault_192 [(2, iv 1), (1, iv (d + (-1))), (4, iv (chT T k)), (3, iv k), (0, .ref ν)] rfl (by decide) ?_
                    refine v_goto hx DX12_fault_193 ?_
                    refine v_iinc hx DX12_fault_211 3 rfl [(3, iv (k + 1)), (2, iv 1), (1, iv (d + (-1))), (4, iv (chT T k)), (0, .ref ν)] rfl (by decide) ?_
                    refine v_goto hx DX12_fault_214 ?_
                    exact v_sub [0, 1, 2, 4] _ rfl (ih (k + 1) 1 (d + (-1)) (q - 1) (by omega) (by omega) (by omega) (by omega) (by omega) (by obtain ⟨n1, rfl⟩ : ∃ n1 : Nat, q = n1 + 1 := ⟨q - 1, by omega⟩; rw [hq, flt, if_neg (by omega), if_neg (by omega), if_neg (by omega), if_neg (by omega), if_neg (by omega), if_pos (by omega), show d - 1 = d + (-1) by omega]; first | done | rfl))
              · skip
                refine v_iload hx DX12_fault_167 2 rfl ?_
                refine v_push hx DX12_fault_168 ?_
                refine v_icmp_ne hx DX12_fault_169 (by omega) (by decide) (fun c169 => ?_) (fun c169 => ?_)
                · skip
                  refine v_iload hx DX12_fault_177 0 rfl ?_
                  refine v_push hx DX12_fault_179 ?_
                  refine v_icmp_ne hx DX12_fault_181 (by omega) (by decide) (fun c181 => ?_) (fun c181 => ?_)
                  · skip
                    refine v_iload hx DX12_fault_196 0 rfl ?_
                    refine v_cSp hx DX12_fault_198 CSRX12_326 [iv (chT T k)] (r_isAct l G Λ sz μ (by omega)) rfl rfl (Nat.le_of_ble_eq_true rfl) (by decide) ⟨Nat.le_refl _, Nat.le_refl _⟩ ?_
                    have br198 := bz_rng (chT T k = 43 ∨ chT T k = 45 ∨ chT T k = 42 ∨ chT T k = 47)
                    refine v_if_eq hx DX12_fault_201 (by omega) (fun c201 => ?_) (fun c201 => ?_)
                    · skip
                      have d201 := bzf c201
                      have gz5 := d201
                      refine v_iload hx DX12_fault_209 1 rfl ?_
                      exact v_ri hx hBD DX12_fault_210 (⟨rfl, by obtain ⟨n1, en⟩ : ∃ n1 : Nat, q = n1 + 1 := ⟨q - 1, by omega⟩; rw [hq, en, flt, if_neg (by omega), if_neg (by omega), if_neg (by omega), if_neg (by omega), if_neg (by omega), if_neg (by omega), if_neg (by omega)]⟩)
                    · skip
                      have d201 := bzt c201
                      have gz6 := d201
                      refine v_push hx DX12_fault_204 ?_
                      refine v_istore hx DX12_fault_205 [(2, iv 0), (4, iv (chT T k)), (3, iv k), (1, iv d), (0, .ref ν)] rfl (by decide) ?_
                      refine v_goto hx DX12_fault_206 ?_
                      refine v_iinc hx DX12_fault_211 2 rfl [(3, iv (k + 1)), (2, iv 0), (4, iv (chT T k)), (1, iv d), (0, .ref ν)] rfl (by decide) ?_
                      refine v_goto hx DX12_fault_214 ?_
                      exact v_sub [0, 1, 3, 4] _ rfl (ih (k + 1) 0 d (q - 1) (by omega) (by omega) (by omega) (by omega) (by omega) (by obtain ⟨n1, rfl⟩ : ∃ n1 : Nat, q = n1 + 1 := ⟨q - 1, by omega⟩; rw [hq, flt, if_neg (by omega), if_neg (by omega), if_neg (by omega), if_neg (by omega), if_neg (by omega), if_neg (by omega), if_pos (by omega)]; first | done | rfl))
                  · exact absurd c181 (by omega)
                · skip
                  refine v_push hx DX12_fault_172 ?_
                  refine v_istore hx DX12_fault_173 [(2, iv 2), (4, iv (chT T k)), (3, iv k), (1, iv d), (0, .ref ν)] rfl (by decide) ?_
                  refine v_goto hx DX12_fault_174 ?_
                  refine v_iinc hx DX12_fault_211 2 rfl [(3, iv (k + 1)), (2, iv 2), (4, iv (chT T k)), (1, iv d), (0, .ref ν)] rfl (by decide) ?_
                  refine v_goto hx DX12_fault_214 ?_
                  exact v_sub [0, 1, 3, 4] _ rfl (ih (k + 1) 2 d (q - 1) (by omega) (by omega) (by omega) (by omega) (by omega) (by obtain ⟨n1, rfl⟩ : ∃ n1 : Nat, q = n1 + 1 := ⟨q - 1, by omega⟩; rw [hq, flt, if_neg (by omega), if_neg (by omega), if_neg (by omega), if_neg (by omega), if_pos (by omega)]; first | done | rfl))
            · skip
              refine v_iload hx DX12_fault_141 0 rfl ?_
              refine v_push hx DX12_fault_143 ?_
              refine v_push hx DX12_fault_145 ?_
              refine v_cSp hx DX12_fault_147 CSRX12_121 [iv (chT T k), iv 48, iv 56] (r_in l G Λ sz μ (by omega) (by omega) (by omega)) rfl rfl (Nat.le_of_ble_eq_true rfl) (by decide) ⟨Nat.le_refl _, Nat.le_refl _⟩ ?_
              have br147 := bz_rng (48 ≤ (chT T k) ∧ (chT T k) ≤ 56)
              refine v_if_ne hx DX12_fault_150 (by omega) (fun c150 => ?_) (fun c150 => ?_)
              · skip
                have d150 := bzt c150
                have gz7 := d150
                refine v_push hx DX12_fault_155 ?_
                refine v_istore hx DX12_fault_156 [(2, iv 3), (4, iv (chT T k)), (3, iv k), (1, iv d), (0, .ref ν)] rfl (by decide) ?_
                refine v_goto hx DX12_fault_157 ?_
                refine v_iinc hx DX12_fault_211 2 rfl [(3, iv (k + 1)), (2, iv 3), (4, iv (chT T k)), (1, iv d), (0, .ref ν)] rfl (by decide) ?_
                refine v_goto hx DX12_fault_214 ?_
                exact v_sub [0, 1, 3, 4] _ rfl (ih (k + 1) 3 d (q - 1) (by omega) (by omega) (by omega) (by omega) (by omega) (by obtain ⟨n1, rfl⟩ : ∃ n1 : Nat, q = n1 + 1 := ⟨q - 1, by omega⟩; rw [hq, flt, if_neg (by omega), if_neg (by omega), if_neg (by omega), if_pos (by omega), if_pos (by omega)]; first | done | rfl))
              · skip
                have d150 := bzf c150
                have gz8 := d150
                refine v_iload hx DX12_fault_153 1 rfl ?_
                exact v_ri hx hBD DX12_fault_154 (⟨rfl, by obtain ⟨n1, en⟩ : ∃ n1 : Nat, q = n1 + 1 := ⟨q - 1, by omega⟩; rw [hq, en, flt, if_neg (by omega), if_neg (by omega), if_neg (by omega), if_pos (by omega), if_neg (by omega)]⟩)
          · skip
            refine v_aload hx DX12_fault_39 4 rfl ?_
            refine v_iload hx DX12_fault_40 1 rfl ?_
            refine v_cVp hx DX12_fault_41 CVRX12_323 [iv k] (r_isFigure l G Λ sz μ hR hT (by omega)) hR.o rfl rfl (Nat.le_of_ble_eq_true rfl) (by decide) ⟨Nat.le_refl _, Nat.le_refl _⟩ ?_
            have br41 := bz_rng (isFg T k)
            refine v_if_ne hx DX12_fault_44 (by omega) (fun c44 => ?_) (fun c44 => ?_)
            · skip
              have d44 := bzt c44
              have gz9 := d44
              refine v_iload hx DX12_fault_69 3 rfl ?_
              refine v_iload hx DX12_fault_70 0 rfl ?_
              refine v_push hx DX12_fault_72 ?_
              refine v_icmp_ne hx DX12_fault_74 (by omega) (by decide) (fun c74 => ?_) (fun c74 => ?_)
              · skip
                refine v_push hx DX12_fault_81 ?_
                refine v_iadd hx DX12_fault_82 ?_
                refine v_istore hx DX12_fault_83 [(1, iv (d + 0)), (4, iv (chT T k)), (3, iv k), (2, iv w), (0, .ref ν)] rfl (by decide) ?_
                refine v_iload hx DX12_fault_84 1 rfl ?_
                refine v_push hx DX12_fault_86 ?_
                refine v_icmp_ne hx DX12_fault_88 (by omega) (by decide) (fun c88 => ?_) (fun c88 => ?_)
                · skip
                  refine v_push hx DX12_fault_95 ?_
                  refine v_istore hx DX12_fault_96 [(2, iv 1), (1, iv (d + 0)), (4, iv (chT T k)), (3, iv k), (0, .ref ν)] rfl (by decide) ?_
                  refine v_push hx DX12_fault_97 ?_
                  refine v_istore hx DX12_fault_98 [(5, iv 1), (2, iv 1), (1, iv (d + 0)), (4, iv (chT T k)), (3, iv k), (0, .ref ν)] rfl (by decide) ?_
                  refine v_iload hx DX12_fault_100 0 rfl ?_
                  refine v_push hx DX12_fault_102 ?_
                  refine v_icmp_ge hx DX12_fault_103 (by decide) (by decide) (fun c103 => ?_) (fun c103 => ?_)
                  · exact absurd c103 (by decide)
                  · skip
                    refine v_aload hx DX12_fault_106 5 rfl ?_
                    refine v_iload hx DX12_fault_107 4 rfl ?_
                    refine v_cVp hx DX12_fault_108 CVRX12_323 [iv k] (r_isFigure l G Λ sz μ hR hT (by omega)) hR.o rfl rfl (Nat.le_of_ble_eq_true rfl) (by decide) ⟨Nat.le_refl _, Nat.le_refl _⟩ ?_
                    have br108 := bz_rng (isFg T (k))
                    refine v_if_eq hx DX12_fault_111 (by omega) (fun c111 => ?_) (fun c111 => ?_)
                    · exact absurd gz9 (bzf c111)
                    · skip
                      have d111 := bzt c111
                      have gz10 := d111
                      refine v_aload hx DX12_fault_114 5 rfl ?_
                      refine v_iload hx DX12_fault_115 4 rfl ?_
                      refine v_push hx DX12_fault_116 ?_
                      refine v_iadd hx DX12_fault_117 ?_
                      refine v_cVp hx DX12_fault_118 CVRX12_323 [iv (k + 1)] (r_isFigure l G Λ sz μ hR hT (by omega)) hR.o rfl rfl (Nat.le_of_ble_eq_true rfl) (by decide) ⟨Nat.le_refl _, Nat.le_refl _⟩ ?_
                      have br118 := bz_rng (isFg T (k + 1))
                      refine v_if_eq hx DX12_fault_121 (by omega) (fun c121 => ?_) (fun c121 => ?_)
                      · skip
                        have d121 := bzf c121
                        have gz11 := d121
                        refine v_goto hx DX12_fault_133 ?_
                        have hat : (48 ≤ chT T k ∧ chT T k ≤ 57) ∨ chT T k = 120 := Or.inl (fg.mp gz10)
                        have ex : exd T k = 0 := by unfold exd; rw [if0 (fun z => gz11 z.2)]
                        refine v_iinc hx DX12_fault_211 4 rfl [(3, iv (k + 1)), (5, iv 1), (2, iv 1), (1, iv (d + 0)), (4, iv (chT T k)), (0, .ref ν)] rfl (by decide) ?_
                        refine v_goto hx DX12_fault_214 ?_
                        exact v_sub [0, 2, 3, 5] _ rfl (ih (k + 1) 1 (d + 0) (q - 1) (by omega) (by omega) (by omega) (by omega) (by omega) (by obtain ⟨n1, rfl⟩ : ∃ n1 : Nat, q = n1 + 1 := ⟨q - 1, by omega⟩; rw [hq, flt, if_neg (by omega), if_neg (by omega), if_pos (by omega), if_neg (by omega), if_pos hat]; rw [show k + exd T k + 1 = k + 1 by omega, show d + 0 = d by omega]; first | done | rfl))
                      · skip
                        have d121 := bzt c121
                        have gz12 := d121
                        refine v_iinc hx DX12_fault_124 4 rfl [(3, iv (k + 1)), (5, iv 1), (2, iv 1), (1, iv (d + 0)), (4, iv (chT T k)), (0, .ref ν)] rfl (by decide) ?_
                        refine v_iinc hx DX12_fault_127 1 rfl [(5, iv 2), (3, iv (k + 1)), (2, iv 1), (1, iv (d + 0)), (4, iv (chT T k)), (0, .ref ν)] rfl (by decide) ?_
                        refine v_goto hx DX12_fault_130 ?_
                        refine v_iload hx DX12_fault_100 0 rfl ?_
                        refine v_push hx DX12_fault_102 ?_
                        refine v_icmp_ge hx DX12_fault_103 (by decide) (by decide) (fun c103 => ?_) (fun c103 => ?_)
                        · exact absurd c103 (by decide)
                        · skip
                          refine v_aload hx DX12_fault_106 5 rfl ?_
                          refine v_iload hx DX12_fault_107 1 rfl ?_
                          refine v_cVp hx DX12_fault_108 CVRX12_323 [iv (k + 1)] (r_isFigure l G Λ sz μ hR hT (by omega)) hR.o rfl rfl (Nat.le_of_ble_eq_true rfl) (by decide) ⟨Nat.le_refl _, Nat.le_refl _⟩ ?_
                          have br108 := bz_rng (isFg T (k + 1))
                          refine v_if_eq hx DX12_fault_111 (by omega) (fun c111 => ?_) (fun c111 => ?_)
                          · exact absurd c111 (by omega)
                          · skip
                            have d111 := bzt c111
                            have gz13 := d111
                            refine v_aload hx DX12_fault_114 5 rfl ?_
                            refine v_iload hx DX12_fault_115 1 rfl ?_
                            refine v_push hx DX12_fault_116 ?_
                            refine v_iadd hx DX12_fault_117 ?_
                            refine v_cVp hx DX12_fault_118 CVRX12_323 [iv ((k + 1) + 1)] (r_isFigure l G Λ sz μ hR hT (by omega)) hR.o rfl rfl (Nat.le_of_ble_eq_true rfl) (by decide) ⟨Nat.le_refl _, Nat.le_refl _⟩ ?_
                            have br118 := bz_rng (isFg T ((k + 1) + 1))
                            refine v_if_eq hx DX12_fault_121 (by omega) (fun c121 => ?_) (fun c121 => ?_)
                            · skip
                              have d121 := bzf c121
                              have gz14 := d121
                              refine v_goto hx DX12_fault_133 ?_
                              have hat : (48 ≤ chT T k ∧ chT T k ≤ 57) ∨ chT T k = 120 := Or.inl (fg.mp gz10)
                              have b1 := gz13.2.1
                              have ex : exd T k = 1 := by unfold exd; rw [if1 ⟨gz10, gz13⟩, if0 (fun z => gz14 (by rw [show k + 1 + 1 = k + 2 by omega]; exact z))]
                              refine v_iinc hx DX12_fault_211 1 rfl [(3, iv ((k + 1) + 1)), (5, iv 2), (2, iv 1), (1, iv (d + 0)), (4, iv (chT T k)), (0, .ref ν)] rfl (by decide) ?_
                              refine v_goto hx DX12_fault_214 ?_
                              exact v_sub [0, 2, 3, 5] _ rfl (ih ((k + 1) + 1) 1 (d + 0) (q - 1) (by omega) (by omega) (by omega) (by omega) (by omega) (by obtain ⟨n1, rfl⟩ : ∃ n1 : Nat, q = n1 + 1 := ⟨q - 1, by omega⟩; rw [hq, flt, if_neg (by omega), if_neg (by omega), if_pos (by omega), if_neg (by omega), if_pos hat]; rw [show k + exd T k + 1 = (k + 1) + 1 by omega, show d + 0 = d by omega]; first | done | rfl))
                            · skip
                              have d121 := bzt c121
                              have gz15 := d121
                              refine v_iinc hx DX12_fault_124 1 rfl [(3, iv ((k + 1) + 1)), (5, iv 2), (2, iv 1), (1, iv (d + 0)), (4, iv (chT T k)), (0, .ref ν)] rfl (by decide) ?_
                              refine v_iinc hx DX12_fault_127 1 rfl [(5, iv 3), (3, iv ((k + 1) + 1)), (2, iv 1), (1, iv (d + 0)), (4, iv (chT T k)), (0, .ref ν)] rfl (by decide) ?_
                              refine v_goto hx DX12_fault_130 ?_
                              refine v_iload hx DX12_fault_100 0 rfl ?_
                              refine v_push hx DX12_fault_102 ?_
                              refine v_icmp_ge hx DX12_fault_103 (by decide) (by decide) (fun c103 => ?_) (fun c103 => ?_)
                              · skip
                                refine v_goto hx DX12_fault_133 ?_
                                have hat : (48 ≤ chT T k ∧ chT T k ≤ 57) ∨ chT T k = 120 := Or.inl (fg.mp gz10)
                                have b1 := gz13.2.1
                                have b2 := gz15.2.1
                                have ex : exd T k = 2 := by unfold exd; rw [if1 ⟨gz10, gz13⟩, if1 (by rw [show k + 2 = k + 1 + 1 by omega]; exact gz15)]
                                refine v_iinc hx DX12_fault_211 1 rfl [(3, iv (((k + 1) + 1) + 1)), (5, iv 3), (2, iv 1), (1, iv (d + 0)), (4, iv (chT T k)), (0, .ref ν)] rfl (by decide) ?_
                                refine v_goto hx DX12_fault_214 ?_
                                exact v_sub [0, 2, 3, 5] _ rfl (ih (((k + 1) + 1) + 1) 1 (d + 0) (q - 1) (by omega) (by omega) (by omega) (by omega) (by omega) (by obtain ⟨n1, rfl⟩ : ∃ n1 : Nat, q = n1 + 1 := ⟨q - 1, by omega⟩; rw [hq, flt, if_neg (by omega), if_neg (by omega), if_pos (by omega), if_neg (by omega), if_pos hat]; rw [show k + exd T k + 1 = ((k + 1) + 1) + 1 by omega, show d + 0 = d by omega]; first | done | rfl))
                              · exact absurd c103 (by decide)
                · exact absurd c88 (by omega)
              · skip
                exact absurd (fg.mp gz9).1 (by omega)
            · skip
              have d44 := bzf c44
              have gz16 := d44
              refine v_iload hx DX12_fault_47 0 rfl ?_
              refine v_push hx DX12_fault_49 ?_
              refine v_icmp_eq hx DX12_fault_51 (by omega) (by decide) (fun c51 => ?_) (fun c51 => ?_)
              · skip
                refine v_iload hx DX12_fault_69 3 rfl ?_
                refine v_iload hx DX12_fault_70 0 rfl ?_
                refine v_push hx DX12_fault_72 ?_
                refine v_icmp_ne hx DX12_fault_74 (by omega) (by decide) (fun c74 => ?_) (fun c74 => ?_)
                · skip
                  refine v_push hx DX12_fault_81 ?_
                  refine v_iadd hx DX12_fault_82 ?_
                  refine v_istore hx DX12_fault_83 [(1, iv (d + 0)), (4, iv (chT T k)), (3, iv k), (2, iv w), (0, .ref ν)] rfl (by decide) ?_
                  refine v_iload hx DX12_fault_84 1 rfl ?_
                  refine v_push hx DX12_fault_86 ?_
                  refine v_icmp_ne hx DX12_fault_88 (by omega) (by decide) (fun c88 => ?_) (fun c88 => ?_)
                  · skip
                    refine v_push hx DX12_fault_95 ?_
                    refine v_istore hx DX12_fault_96 [(2, iv 1), (1, iv (d + 0)), (4, iv (chT T k)), (3, iv k), (0, .ref ν)] rfl (by decide) ?_
                    refine v_push hx DX12_fault_97 ?_
                    refine v_istore hx DX12_fault_98 [(5, iv 1), (2, iv 1), (1, iv (d + 0)), (4, iv (chT T k)), (3, iv k), (0, .ref ν)] rfl (by decide) ?_
                    refine v_iload hx DX12_fault_100 0 rfl ?_
                    refine v_push hx DX12_fault_102 ?_
                    refine v_icmp_ge hx DX12_fault_103 (by decide) (by decide) (fun c103 => ?_) (fun c103 => ?_)
                    · exact absurd c103 (by decide)
                    · skip
                      refine v_aload hx DX12_fault_106 5 rfl ?_
                      refine v_iload hx DX12_fault_107 4 rfl ?_
                      refine v_cVp hx DX12_fault_108 CVRX12_323 [iv k] (r_isFigure l G Λ sz μ hR hT (by omega)) hR.o rfl rfl (Nat.le_of_ble_eq_true rfl) (by decide) ⟨Nat.le_refl _, Nat.le_refl _⟩ ?_
                      have br108 := bz_rng (isFg T (k))
                      refine v_if_eq hx DX12_fault_111 (by omega) (fun c111 => ?_) (fun c111 => ?_)
                      · skip
                        have d111 := bzf c111
                        have gz17 := d111
                        refine v_goto hx DX12_fault_133 ?_
                        have hat : (48 ≤ chT T k ∧ chT T k ≤ 57) ∨ chT T k = 120 := Or.inr (by omega)
                        have ex : exd T k = 0 := by unfold exd; rw [if0 (fun z => gz17 z.1)]
                        refine v_iinc hx DX12_fault_211 4 rfl [(3, iv (k + 1)), (5, iv 1), (2, iv 1), (1, iv (d + 0)), (4, iv (chT T k)), (0, .ref ν)] rfl (by decide) ?_
                        refine v_goto hx DX12_fault_214 ?_
                        exact v_sub [0, 2, 3, 5] _ rfl (ih (k + 1) 1 (d + 0) (q - 1) (by omega) (by omega) (by omega) (by omega) (by omega) (by obtain ⟨n1, rfl⟩ : ∃ n1 : Nat, q = n1 + 1 := ⟨q - 1, by omega⟩; rw [hq, flt, if_neg (by omega), if_neg (by omega), if_pos (by omega), if_neg (by omega), if_pos hat]; rw [show k + exd T k + 1 = k + 1 by omega, show d + 0 = d by omega]; first | done | rfl))
                      · exact absurd (bzt c111) gz16
                  · exact absurd c88 (by omega)
                · exact absurd c74 (by omega)
              · skip
                refine v_iload hx DX12_fault_54 0 rfl ?_
                refine v_push hx DX12_fault_56 ?_
                refine v_icmp_ne hx DX12_fault_58 (by omega) (by decide) (fun c58 => ?_) (fun c58 => ?_)
                · skip
                  refine v_iload hx DX12_fault_67 1 rfl ?_
                  exact v_ri hx hBD DX12_fault_68 (⟨rfl, by obtain ⟨n1, en⟩ : ∃ n1 : Nat, q = n1 + 1 := ⟨q - 1, by omega⟩; rw [hq, en, flt, if_neg (by omega), if_neg (by omega), if_pos (by omega), if_neg (by omega), if_neg (fun z => z.elim (fun z => d44 (fg.mpr z)) (fun z => by omega))]⟩)
                · skip
                  refine v_iload hx DX12_fault_61 3 rfl ?_
                  refine v_push hx DX12_fault_62 ?_
                  refine v_icmp_lt hx DX12_fault_64 (by omega) (by decide) (fun c64 => ?_) (fun c64 => ?_)
                  · skip
                    refine v_iload hx DX12_fault_69 3 rfl ?_
                    refine v_iload hx DX12_fault_70 0 rfl ?_
                    refine v_push hx DX12_fault_72 ?_
                    refine v_icmp_ne hx DX12_fault_74 (by omega) (by decide) (fun c74 => ?_) (fun c74 => ?_)
                    · exact absurd c74 (by omega)
                    · skip
                      refine v_push hx DX12_fault_77 ?_
                      refine v_goto hx DX12_fault_78 ?_
                      refine v_iadd hx DX12_fault_82 ?_
                      refine v_istore hx DX12_fault_83 [(1, iv (d + 1)), (4, iv (chT T k)), (3, iv k), (2, iv w), (0, .ref ν)] rfl (by decide) ?_
                      refine v_iload hx DX12_fault_84 1 rfl ?_
                      refine v_push hx DX12_fault_86 ?_
                      refine v_icmp_ne hx DX12_fault_88 (by omega) (by decide) (fun c88 => ?_) (fun c88 => ?_)
                      · exact absurd c88 (by omega)
                      · skip
                        refine v_push hx DX12_fault_91 ?_
                        refine v_goto hx DX12_fault_92 ?_
                        refine v_istore hx DX12_fault_96 [(2, iv 0), (1, iv (d + 1)), (4, iv (chT T k)), (3, iv k), (0, .ref ν)] rfl (by decide) ?_
                        refine v_push hx DX12_fault_97 ?_
                        refine v_istore hx DX12_fault_98 [(5, iv 1), (2, iv 0), (1, iv (d + 1)), (4, iv (chT T k)), (3, iv k), (0, .ref ν)] rfl (by decide) ?_
                        refine v_iload hx DX12_fault_100 0 rfl ?_
                        refine v_push hx DX12_fault_102 ?_
                        refine v_icmp_ge hx DX12_fault_103 (by decide) (by decide) (fun c103 => ?_) (fun c103 => ?_)
                        · exact absurd c103 (by decide)
                        · skip
                          refine v_aload hx DX12_fault_106 5 rfl ?_
                          refine v_iload hx DX12_fault_107 4 rfl ?_
                          refine v_cVp hx DX12_fault_108 CVRX12_323 [iv k] (r_isFigure l G Λ sz μ hR hT (by omega)) hR.o rfl rfl (Nat.le_of_ble_eq_true rfl) (by decide) ⟨Nat.le_refl _, Nat.le_refl _⟩ ?_
                          have br108 := bz_rng (isFg T (k))
                          refine v_if_eq hx DX12_fault_111 (by omega) (fun c111 => ?_) (fun c111 => ?_)
                          · skip
                            have d111 := bzf c111
                            have gz18 := d111
                            refine v_goto hx DX12_fault_133 ?_
                            refine v_iinc hx DX12_fault_211 4 rfl [(3, iv (k + 1)), (5, iv 1), (2, iv 0), (1, iv (d + 1)), (4, iv (chT T k)), (0, .ref ν)] rfl (by decide) ?_
                            refine v_goto hx DX12_fault_214 ?_
                            exact v_sub [0, 2, 3, 5] _ rfl (ih (k + 1) 0 (d + 1) (q - 1) (by omega) (by omega) (by omega) (by omega) (by omega) (by obtain ⟨n1, rfl⟩ : ∃ n1 : Nat, q = n1 + 1 := ⟨q - 1, by omega⟩; rw [hq, flt, if_neg (by omega), if_neg (by omega), if_pos (by omega), if_pos (by omega)]; first | done | rfl))
                          · exact absurd (bzt c111) gz16
                  · skip
                    refine v_iload hx DX12_fault_67 1 rfl ?_
                    exact v_ri hx hBD DX12_fault_68 (⟨rfl, by obtain ⟨n1, en⟩ : ∃ n1 : Nat, q = n1 + 1 := ⟨q - 1, by omega⟩; rw [hq, en, flt, if_neg (by omega), if_neg (by omega), if_pos (by omega), if_neg (by omega), if_neg (fun z => z.elim (fun z => d44 (fg.mpr z)) (fun z => by omega))]⟩)
        · skip
          refine v_iinc hx DX12_fault_29 1 rfl [(3, iv (k + 1)), (4, iv (chT T k)), (2, iv w), (1, iv d), (0, .ref ν)] rfl (by decide) ?_
          refine v_goto hx DX12_fault_32 ?_
          exact v_sub [0, 2, 3, 4] _ rfl (ih (k + 1) w d (q - 1) (by omega) (by omega) (by omega) (by omega) (by omega) (by obtain ⟨n1, rfl⟩ : ∃ n1 : Nat, q = n1 + 1 := ⟨q - 1, by omega⟩; rw [hq, flt, if_neg (by omega), if_pos (by omega)]; first | done | rfl))
  refine v_push hx DX12_fault_0 ?_
  refine v_istore hx DX12_fault_1 [(1, iv 0), (0, .ref ν)] rfl (by decide) ?_
  refine v_push hx DX12_fault_2 ?_
  refine v_istore hx DX12_fault_3 [(2, iv 0), (1, iv 0), (0, .ref ν)] rfl (by decide) ?_
  refine v_push hx DX12_fault_4 ?_
  refine v_istore hx DX12_fault_5 [(3, iv 0), (2, iv 0), (1, iv 0), (0, .ref ν)] rfl (by decide) ?_
  exact v_sub [0, 1, 2, 3] _ rfl (L6 200 0 0 0 92 (by omega) (by omega) (by omega) (by omega) (by omega) rfl)
