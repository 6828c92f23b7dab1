/-! ===== the class: reader, second part ===== -/
def CCH (μ μ' : Mem) (r : Nat) (s : Int × List Int × List Int × Int × Int) (z : Int) : Prop := z = s.1 ∧ RDA μ' r s.2.1 s.2.2.1 s.2.2.2.1 s.2.2.2.2 ∧ FrN r [r + 2, r + 3] [4, 6, 7, 8] μ μ'
def c40 : List Int → Int
  | [] => 0
  | c :: R => c40 R + (if c = 40 then 1 else 0)
def WK (W : List Int) (dp : Int) : Prop := (∀ c ∈ W, c = 40 ∨ isop c) ∧ c40 W = dp
theorem isop_rnk {c : Int} (h : isop c) : 1 ≤ rnk c := by
  unfold isop at h
  unfold rnk
  by_cases a : c = 42 ∨ c = 47
  · rw [if_pos a]; omega
  · rw [if_neg a, if_pos (by omega)]; omega
theorem rnk_40 : rnk 40 = 0 := by decide
theorem rnk_ne {c : Int} (h : rnk c ≠ 0) : isop c ∧ 1 ≤ rnk c := by
  unfold rnk at h ⊢
  unfold isop
  by_cases a : c = 42 ∨ c = 47
  · rw [if_pos a]; omega
  · rw [if_neg a] at h ⊢
    by_cases b : c = 43 ∨ c = 45
    · rw [if_pos b]; omega
    · rw [if_neg b] at h; exact absurd rfl h
theorem rel_wk {q : Int} (hq : 1 ≤ q) : ∀ (W C : List Int), (∀ c ∈ W, c = 40 ∨ isop c) → (∀ c ∈ (rel q W C).1, c = 40 ∨ isop c) ∧ c40 (rel q W C).1 = c40 W := by
  intro W
  induction W with
  | nil => intro C h; exact ⟨h, rfl⟩
  | cons c R ih =>
    intro C h
    rw [rel]
    by_cases t : q ≤ rnk c
    · rw [if_pos t]
      have z := ih ((1000 + c) :: C) (fun x hx => h x (List.mem_cons_of_mem _ hx))
      refine ⟨z.1, ?_⟩
      rw [z.2]
      show c40 R = c40 R + (if c = 40 then 1 else 0)
      rw [if_neg (fun e => by rw [e, rnk_40] at t; omega)]; omega
    · rw [if_neg t]; exact ⟨h, rfl⟩
theorem rel_open : ∀ (W C : List Int), (∀ c ∈ W, c = 40 ∨ isop c) → 0 < c40 W → ∃ R, (rel 1 W C).1 = 40 :: R ∧ (∀ c ∈ R, c = 40 ∨ isop c) ∧ c40 R = c40 W - 1 := by
  intro W
  induction W with
  | nil => intro C h h0; exact absurd h0 (by decide)
  | cons c R ih =>
    intro C h h0
    rw [rel]
    have hR : ∀ x ∈ R, x = 40 ∨ isop x := fun x hx => h x (List.mem_cons_of_mem _ hx)
    have e : c40 (c :: R) = c40 R + (if c = 40 then 1 else 0) := rfl
    rcases h c (List.mem_cons_self ..) with t | t
    · subst t
      rw [if_neg (by rw [rnk_40]; omega)]
      rw [if_pos rfl] at e
      exact ⟨R, rfl, hR, by omega⟩
    · have n40 : c ≠ 40 := fun z => by unfold isop at t; omega
      rw [if_pos (isop_rnk t)]
      rw [if_neg n40] at e
      obtain ⟨Q, q1, q2, q3⟩ := ih ((1000 + c) :: C) hR (by omega)
      exact ⟨Q, q1, q2, by omega⟩
theorem ndg_len (c : Int) (C : List Int) : (ndg c C).length = C.length := by cases C <;> rfl
theorem cch_ok {st c dp dg : Int} {C W : List Int} (hs : 0 ≤ st ∧ st ≤ 4) (h1 : st = 1 → C ≠ []) (hW : WK W dp) (hd : 0 ≤ dp ∧ dp ≤ 6) (hg : 0 ≤ dg ∧ dg ≤ 3) :
    ((cch st c C W dp dg).2.1.length + (cch st c C W dp dg).2.2.1.length ≤ C.length + W.length + 1) ∧ (0 ≤ (cch st c C W dp dg).1 ∧ (cch st c C W dp dg).1 ≤ 5) ∧ ((cch st c C W dp dg).1 = 1 → (cch st c C W dp dg).2.1 ≠ []) ∧ WK (cch st c C W dp dg).2.2.1 (cch st c C W dp dg).2.2.2.1 := by
  unfold cch
  by_cases a1 : c = 32
  · rw [if_pos a1]
    refine ⟨by dsimp only; omega, by dsimp only; split <;> omega, fun q => ?_, hW⟩
    dsimp only at q ⊢
    by_cases s1 : st = 1
    · rw [if_pos s1] at q; omega
    · rw [if_neg s1] at q; exact absurd q s1
  · rw [if_neg a1]
    by_cases a2 : st = 0
    · rw [if_pos a2]
      by_cases b1 : 48 ≤ c ∧ c ≤ 57
      · rw [if_pos b1]; exact ⟨by simp; omega, by dsimp only; omega, fun _ => by simp, hW⟩
      · rw [if_neg b1]
        by_cases b2 : c = 120
        · rw [if_pos b2]; exact ⟨by simp; omega, by dsimp only; omega, fun q => by dsimp only at q; omega, hW⟩
        · rw [if_neg b2]
          by_cases b3 : c = 40 ∧ dp < 6
          · rw [if_pos b3]
            refine ⟨by simp; omega, by dsimp only; omega, fun q => by dsimp only at q; omega, fun x hx => ?_, ?_⟩
            · cases hx with
              | head => exact Or.inl rfl
              | tail _ h => exact hW.1 x h
            · show c40 W + (if (40 : Int) = 40 then 1 else 0) = dp + 1
              rw [if_pos rfl, hW.2]
          · rw [if_neg b3]; exact ⟨by dsimp only; omega, by dsimp only; omega, fun q => by dsimp only at q; omega, hW⟩
    · rw [if_neg a2]
      by_cases a3 : st = 3
      · rw [if_pos a3]
        by_cases b1 : 48 ≤ c ∧ c ≤ 56
        · rw [if_pos b1]; exact ⟨by simp; omega, by dsimp only; omega, fun q => by dsimp only at q; omega, hW⟩
        · rw [if_neg b1]; exact ⟨by dsimp only; omega, by dsimp only; omega, fun q => by dsimp only at q; omega, hW⟩
      · rw [if_neg a3]
        by_cases a4 : st = 1 ∧ (48 ≤ c ∧ c ≤ 57)
        · rw [if_pos a4]
          by_cases b1 : 3 ≤ dg
          · rw [if_pos b1]; exact ⟨by dsimp only; omega, by dsimp only; omega, fun q => by dsimp only at q; omega, hW⟩
          · rw [if_neg b1]
            refine ⟨by dsimp only; rw [ndg_len]; omega, by dsimp only; omega, fun _ => ?_, hW⟩
            dsimp only
            intro e
            have z := ndg_len c C
            rw [e] at z
            exact h1 a4.1 (List.length_eq_zero_iff.mp z.symm)
        · rw [if_neg a4]
          by_cases a5 : (st = 1 ∨ st = 2) ∧ c = 94
          · rw [if_pos a5]; exact ⟨by dsimp only; omega, by dsimp only; omega, fun q => by dsimp only at q; omega, hW⟩
          · rw [if_neg a5]
            by_cases a6 : c = 41 ∧ 0 < dp
            · rw [if_pos a6]
              obtain ⟨R, q1, q2, q3⟩ := rel_open W C hW.1 (by rw [hW.2]; exact a6.2)
              have l := rel_len 1 W C
              refine ⟨?_, by dsimp only; omega, fun q => by dsimp only at q; omega, ?_, ?_⟩
              · dsimp only; rw [q1] at l ⊢; simp at l ⊢; omega
              · dsimp only; rw [q1]; exact q2
              · dsimp only; rw [q1]; show c40 R = dp - 1; rw [q3, hW.2]
            · rw [if_neg a6]
              by_cases a7 : rnk c = 0
              · rw [if_pos a7]; exact ⟨by dsimp only; omega, by dsimp only; omega, fun q => by dsimp only at q; omega, hW⟩
              · rw [if_neg a7]
                have k := rnk_ne a7
                have l := rel_len (rnk c) W C
                have w := rel_wk k.2 W C hW.1
                refine ⟨by dsimp only; rw [List.length_cons]; omega, by dsimp only; omega, fun q => by dsimp only at q; omega, fun x hx => ?_, ?_⟩
                · cases hx with
                  | head => exact Or.inr k.1
                  | tail _ h => exact w.1 x h
                · show c40 (rel (rnk c) W C).1 + (if c = 40 then 1 else 0) = dp
                  have k1 := k.1
                  rw [if_neg (fun e => by unfold isop at k1; omega), w.2, hW.2]; omega
theorem WK.rng {W : List Int} {dp : Int} (h : WK W dp) : ∀ c ∈ W, 32 ≤ c ∧ c ≤ 126 := fun c hc => by
  rcases h.1 c hc with t | t
  · omega
  · unfold isop at t; omega
theorem nd_cd {m m1 m2 : Mem} {r : Nat} {C : List Int} {h z i v : Int} (hC : CDA m r (h :: C)) (e1 : m1 = mI m r 8 z) (e2 : m2 = mI m1 (r + 2) i v) (hi : i = (C.length : Int)) : CDA m2 r (v :: C) := by
  refine ⟨by rw [e2, mI_ne (by omega), e1, mI_at, if_neg (by decide)]; exact hC.1, by rw [e2, mI_at, if_pos hi.symm], ?_⟩
  refine hC.2.2.ext (fun j h0 h1 => ?_)
  rw [e2, mI_at, if_neg (by omega), e1, mI_ne (by omega)]
theorem cch_4 {st c dp dg : Int} {C W : List Int} (h32 : ¬ c = 32) (h0 : ¬ st = 0) (h3 : ¬ st = 3) (h1 : ¬ (st = 1 ∧ (48 ≤ c ∧ c ≤ 57))) (h9 : ¬ ((st = 1 ∨ st = 2) ∧ c = 94)) : cch st c C W dp dg = cch 4 c C W dp dg := by
  have n0 : ¬ (4 : Int) = 0 := by decide
  have n3 : ¬ (4 : Int) = 3 := by decide
  have n1 : ¬ ((4 : Int) = 1 ∧ (48 ≤ c ∧ c ≤ 57)) := by omega
  have n9 : ¬ (((4 : Int) = 1 ∨ (4 : Int) = 2) ∧ c = 94) := by omega
  unfold cch
  rw [if_neg h32, if_neg h0, if_neg h3, if_neg h1, if_neg h9, if_neg h32, if_neg n0, if_neg n3, if_neg n1, if_neg n9]
theorem d_operand (l : Launch) (G : Gl) (Λ : Lay) (sz : Nat) (μ : Mem) {r κ : Nat} {C W : List Int} {c dp dg : Int} (hS : rdK Λ r κ) (hR : RDA μ r C W dp dg) (hl : C.length + W.length < 90) (hc : 32 ≤ c ∧ c ≤ 126) (h32 : c ≠ 32) : Sp l G yX6_operand cX6_operand 2 (some FieldType.int) 1 [.ref r, iv c] Λ sz μ (pI (fun z μ' => CCH μ μ' r (cch 0 c C W dp dg) z)) := by
  refine Sp.intro (by decide) (Nat.le_of_ble_eq_true rfl) (fun x hx hBD => ?_)
  refine v_lv [(0, .ref r), (1, iv c)] rfl ?_
  have dpr := hR.2.2.1.2
  refine v_iload hx DX6_operand_0 1 rfl ?_
  refine v_cSp hx DX6_operand_1 CSRX6_70 [iv c] (d_isDigit l G Λ sz μ (by omega)) rfl rfl (Nat.le_of_ble_eq_true rfl) (by decide) ⟨Nat.le_refl _, Nat.le_refl _⟩ ?_
  have br1 := bz_rng (48 ≤ c ∧ c ≤ 57)
  refine v_if_eq hx DX6_operand_4 (by omega) (fun c4 => ?_) (fun c4 => ?_)
  · skip
    have d4 := bzf c4
    refine v_iload hx DX6_operand_22 1 rfl ?_
    refine v_push hx DX6_operand_23 ?_
    refine v_icmp_ne hx DX6_operand_25 (by omega) (by decide) (fun c25 => ?_) (fun c25 => ?_)
    · skip
      refine v_iload hx DX6_operand_39 1 rfl ?_
      refine v_push hx DX6_operand_40 ?_
      refine v_icmp_ne hx DX6_operand_42 (by omega) (by decide) (fun c42 => ?_) (fun c42 => ?_)
      · skip
        refine v_push hx DX6_operand_71 ?_
        exact v_ri hx hBD DX6_operand_72 (by have e : cch 0 c C W dp dg = (5, C, W, dp, dg) := (by unfold cch; rw [if_neg h32, if_pos rfl, if_neg d4, if_neg (by omega), if_neg (by omega)] <;> rfl); rw [e]; exact ⟨rfl, (show RDA _ r (C) (W) (dp) (dg) from hR), FrN.rf⟩)
      · skip
        refine v_aload hx DX6_operand_45 0 rfl ?_
        refine v_get hx DX6_operand_46 FLRX6_31 hS.1 (fv_i rfl (hR.2.2.1.1) : _ = iv dp) ?_
        refine v_push hx DX6_operand_49 ?_
        refine v_icmp_ge hx DX6_operand_51 (by omega) (by decide) (fun c51 => ?_) (fun c51 => ?_)
        · skip
          refine v_push hx DX6_operand_71 ?_
          exact v_ri hx hBD DX6_operand_72 (by have e : cch 0 c C W dp dg = (5, C, W, dp, dg) := (by unfold cch; rw [if_neg h32, if_pos rfl, if_neg d4, if_neg (by omega), if_neg (by omega)] <;> rfl); rw [e]; exact ⟨rfl, (show RDA _ r (C) (W) (dp) (dg) from hR), FrN.rf⟩)
        · skip
          refine v_aload hx DX6_operand_54 0 rfl ?_
          refine v_dup hx DX6_operand_55 rfl ?_
          refine v_get hx DX6_operand_56 FLRX6_31 hS.1 (fv_i rfl (hR.2.2.1.1) : _ = iv dp) ?_
          refine v_push hx DX6_operand_59 ?_
          refine v_iadd hx DX6_operand_60 ?_
          refine v_pI hx DX6_operand_61 FPRX6_31 hS.1 rfl (ki := 7) rfl (fun μ3 eμ3 => ?_)
          refine v_aload hx DX6_operand_64 0 rfl ?_
          refine v_iload hx DX6_operand_65 1 rfl ?_
          refine v_cVv hx DX6_operand_66 CVRX6_80 [iv c] (d_hold (W := W) l G Λ sz μ3 hS (hR.2.1.frN (FrN.mI0 eμ3) (by simp) (by simp)) (by omega)) hS.1 rfl rfl (Nat.le_of_ble_eq_true rfl) (by decide) ⟨Nat.le_refl _, Nat.le_refl _⟩ (fun μ4 hμ4 => ?_)
          obtain ⟨k1, f1⟩ := hμ4
          refine v_push hx DX6_operand_69 ?_
          exact v_ri hx hBD DX6_operand_70 (by have e : cch 0 c C W dp dg = (0, C, 40 :: W, dp + 1, dg) := (by unfold cch; rw [if_neg h32, if_pos rfl, if_neg d4, if_neg (by omega), if_pos (by omega)] <;> rfl); rw [e]; exact ⟨rfl, (show RDA _ r (C) (40 :: W) (dp + 1) (dg) from ⟨(hR.1.frN (FrN.mI0 eμ3) (by simp) (by simp)).frN f1 (by simp) (by simp), by rw [show (40 : Int) = c by omega]; exact k1, ⟨(f1.2.1 7 (by simp)).trans (by rw [eμ3, mI_at, if_pos rfl]), by omega⟩, ⟨(f1.2.1 8 (by simp)).trans (((FrN.mI0 eμ3).2.1 8 (by simp)).trans hR.2.2.2.1), hR.2.2.2.2⟩⟩), ((FrN.mI0 eμ3).mono (by simp) (by simp)).trans (f1.mono (by simp) (by simp))⟩)
    · skip
      refine v_aload hx DX6_operand_28 0 rfl ?_
      refine v_push hx DX6_operand_29 ?_
      refine v_iload hx DX6_operand_32 1 rfl ?_
      refine v_iadd hx DX6_operand_33 ?_
      refine v_cVv hx DX6_operand_34 CVRX6_67 [iv (1000 + c)] (d_emit (C := C) l G Λ sz μ hS hR.1 (by omega)) hS.1 rfl rfl (Nat.le_of_ble_eq_true rfl) (by decide) ⟨Nat.le_refl _, Nat.le_refl _⟩ (fun μ6 hμ6 => ?_)
      obtain ⟨k1, f1⟩ := hμ6
      refine v_push hx DX6_operand_37 ?_
      exact v_ri hx hBD DX6_operand_38 (by have e : cch 0 c C W dp dg = (2, 1120 :: C, W, dp, dg) := (by unfold cch; rw [if_neg h32, if_pos rfl, if_neg d4, if_pos (by omega)] <;> rfl); rw [e]; exact ⟨rfl, (show RDA _ r (1120 :: C) (W) (dp) (dg) from ⟨by rw [show (1120 : Int) = 1000 + c by omega]; exact k1, hR.2.1.frN f1 (by simp) (by simp), ⟨(f1.2.1 7 (by simp)).trans hR.2.2.1.1, hR.2.2.1.2⟩, ⟨(f1.2.1 8 (by simp)).trans hR.2.2.2.1, hR.2.2.2.2⟩⟩), f1.mono (by simp) (by simp)⟩)
  · skip
    have d4 := bzt c4
    refine v_aload hx DX6_operand_7 0 rfl ?_
    refine v_push hx DX6_operand_8 ?_
    refine v_pI hx DX6_operand_9 FPRX6_34 hS.1 rfl (ki := 8) rfl (fun μ8 eμ8 => ?_)
    refine v_aload hx DX6_operand_12 0 rfl ?_
    refine v_iload hx DX6_operand_13 1 rfl ?_
    refine v_push hx DX6_operand_14 ?_
    refine v_isub hx DX6_operand_16 ?_
    refine v_cVv hx DX6_operand_17 CVRX6_67 [iv (c - 48)] (d_emit (C := C) l G Λ sz μ8 hS (hR.1.frN (FrN.mI0 eμ8) (by simp) (by simp)) (by omega)) hS.1 rfl rfl (Nat.le_of_ble_eq_true rfl) (by decide) ⟨Nat.le_refl _, Nat.le_refl _⟩ (fun μ9 hμ9 => ?_)
    obtain ⟨k1, f1⟩ := hμ9
    refine v_push hx DX6_operand_20 ?_
    exact v_ri hx hBD DX6_operand_21 (by have e : cch 0 c C W dp dg = (1, (c - 48) :: C, W, dp, 1) := (by unfold cch; rw [if_neg h32, if_pos rfl, if_pos d4] <;> rfl); rw [e]; exact ⟨rfl, (show RDA _ r ((c - 48) :: C) (W) (dp) (1) from ⟨k1, (hR.2.1.frN (FrN.mI0 eμ8) (by simp) (by simp)).frN f1 (by simp) (by simp), ⟨(f1.2.1 7 (by simp)).trans (((FrN.mI0 eμ8).2.1 7 (by simp)).trans hR.2.2.1.1), hR.2.2.1.2⟩, ⟨(f1.2.1 8 (by simp)).trans (by rw [eμ8, mI_at, if_pos rfl]), by omega⟩⟩), ((FrN.mI0 eμ8).mono (by simp) (by simp)).trans (f1.mono (by simp) (by simp))⟩)
theorem d_nextDigit (l : Launch) (G : Gl) (Λ : Lay) (sz : Nat) (μ : Mem) {r κ : Nat} {C W : List Int} {c dp dg h : Int} (hS : rdK Λ r κ) (hR : RDA μ r (h :: C) W dp dg) (hl : C.length < 90) (hc : 48 ≤ c ∧ c ≤ 57) : Sp l G yX6_nextDigit cX6_nextDigit 3 (some FieldType.int) 1 [.ref r, iv c] Λ sz μ (pI (fun z μ' => CCH μ μ' r (cch 1 c (h :: C) W dp dg) z)) := by
  refine Sp.intro (by decide) (Nat.le_of_ble_eq_true rfl) (fun x hx hBD => ?_)
  refine v_lv [(0, .ref r), (1, iv c)] rfl ?_
  have cl : ((h :: C).length : Int) = (C.length : Int) + 1 := by rw [List.length_cons]; omega
  have dgr := hR.2.2.2.2
  refine v_aload hx DX6_nextDigit_0 0 rfl ?_
  refine v_get hx DX6_nextDigit_1 FLRX6_22 hS.1 (fv_i rfl hR.1.1 : _ = iv ((h :: C).length : Int)) ?_
  refine v_push hx DX6_nextDigit_4 ?_
  refine v_isub hx DX6_nextDigit_5 ?_
  refine v_istore hx DX6_nextDigit_6 [(2, iv (((h :: C).length : Int) - 1)), (0, .ref r), (1, iv c)] rfl (by decide) ?_
  refine v_aload hx DX6_nextDigit_7 1 rfl ?_
  refine v_get hx DX6_nextDigit_8 FLRX6_34 hS.1 (fv_i rfl hR.2.2.2.1 : _ = iv dg) ?_
  refine v_push hx DX6_nextDigit_11 ?_
  refine v_icmp_ge hx DX6_nextDigit_12 (by omega) (by decide) (fun c12 => ?_) (fun c12 => ?_)
  · skip
    refine v_push hx DX6_nextDigit_28 ?_
    exact v_ri hx hBD DX6_nextDigit_29 (by have e : cch 1 c (h :: C) W dp dg = (5, h :: C, W, dp, dg) := (by unfold cch; rw [if_neg (by omega), if_neg (by decide), if_neg (by decide), if_pos ⟨rfl, hc⟩, if_pos (by omega)] <;> rfl); rw [e]; exact ⟨rfl, (show RDA _ r (h :: C) (W) (dp) (dg) from hR), FrN.rf⟩)
  · skip
    refine v_iload hx DX6_nextDigit_15 0 rfl ?_
    refine v_if_lt hx DX6_nextDigit_16 (by omega) (fun c16 => ?_) (fun c16 => ?_)
    · exact absurd c16 (by omega)
    · skip
      refine v_iload hx DX6_nextDigit_19 0 rfl ?_
      refine v_aload hx DX6_nextDigit_20 1 rfl ?_
      refine v_get hx DX6_nextDigit_21 FLRX6_19 hS.1 (v := .ref (r + 2)) rfl ?_
      refine v_alenI hx DX6_nextDigit_24 hS.2.2.1 (by decide) (z := 90) rfl ?_
      refine v_icmp_lt hx DX6_nextDigit_25 (by omega) (by decide) (fun c25 => ?_) (fun c25 => ?_)
      · skip
        refine v_aload hx DX6_nextDigit_30 1 rfl ?_
        refine v_dup hx DX6_nextDigit_31 rfl ?_
        refine v_get hx DX6_nextDigit_32 FLRX6_34 hS.1 (fv_i rfl hR.2.2.2.1 : _ = iv dg) ?_
        refine v_push hx DX6_nextDigit_35 ?_
        refine v_iadd hx DX6_nextDigit_36 ?_
        refine v_pI hx DX6_nextDigit_37 FPRX6_34 hS.1 rfl (ki := 8) rfl (fun μ1 eμ1 => ?_)
        refine v_aload hx DX6_nextDigit_40 1 rfl ?_
        refine v_get hx DX6_nextDigit_41 FLRX6_19 hS.1 (v := .ref (r + 2)) rfl ?_
        refine v_iload hx DX6_nextDigit_44 0 rfl ?_
        refine v_aload hx DX6_nextDigit_45 1 rfl ?_
        refine v_get hx DX6_nextDigit_46 FLRX6_19 hS.1 (v := .ref (r + 2)) rfl ?_
        refine v_iload hx DX6_nextDigit_49 0 rfl ?_
        refine v_iald hx DX6_nextDigit_50 hS.2.2.1 (by omega) (by decide) (z := h) (by rw [show ((h :: C).length : Int) - 1 = (C.length : Int) by omega, eμ1, mI_ne (by omega)]; exact hR.1.2.1) ?_
        refine v_push hx DX6_nextDigit_51 ?_
        refine v_imul hx DX6_nextDigit_53 ?_
        refine v_iload hx DX6_nextDigit_54 2 rfl ?_
        refine v_iadd hx DX6_nextDigit_55 ?_
        refine v_push hx DX6_nextDigit_56 ?_
        refine v_isub hx DX6_nextDigit_58 ?_
        refine v_iastm hx DX6_nextDigit_59 hS.2.2.1 (by omega) (by decide) (fun μ2 eμ2 => ?_)
        refine v_push hx DX6_nextDigit_60 ?_
        exact v_ri hx hBD DX6_nextDigit_61 (by have e : cch 1 c (h :: C) W dp dg = (1, (h * 10 + c - 48) :: C, W, dp, dg + 1) := (by unfold cch; rw [if_neg (by omega), if_neg (by decide), if_neg (by decide), if_pos ⟨rfl, hc⟩, if_neg (by omega)] <;> rfl); rw [e]; exact ⟨rfl, (show RDA _ r ((h * 10 + c - 48) :: C) (W) (dp) (dg + 1) from ⟨nd_cd hR.1 eμ1 eμ2 (by omega), (hR.2.1.frN (FrN.mI0 eμ1) (by simp) (by simp)).frN (S := [r + 2]) (J := []) (by rw [eμ2]; exact FrN.wI (by simp) (by omega)) (by simp) (by simp), ⟨by rw [eμ2, mI_ne (by omega), eμ1, mI_at, if_neg (by decide)]; exact hR.2.2.1.1, hR.2.2.1.2⟩, ⟨by rw [eμ2, mI_ne (by omega), eμ1, mI_at, if_pos rfl], by omega⟩⟩), ((FrN.mI0 eμ1).mono (by simp) (by simp)).trans (by rw [eμ2]; exact FrN.wI (by simp) (by omega))⟩)
      · exact absurd c25 (by omega)
theorem d_operation (l : Launch) (G : Gl) (Λ : Lay) (sz : Nat) (μ : Mem) {r κ : Nat} {C W : List Int} {c dp dg : Int} (hS : rdK Λ r κ) (hR : RDA μ r C W dp dg) (hl : C.length + W.length < 90) (hc : 32 ≤ c ∧ c ≤ 126) (h32 : c ≠ 32) (hW : WK W dp) : Sp l G yX6_operation cX6_operation 3 (some FieldType.int) 2 [.ref r, iv c] Λ sz μ (pI (fun z μ' => CCH μ μ' r (cch 4 c C W dp dg) z)) := by
  refine Sp.intro (by decide) (Nat.le_of_ble_eq_true rfl) (fun x hx hBD => ?_)
  refine v_lv [(0, .ref r), (1, iv c)] rfl ?_
  have dpr := hR.2.2.1.2
  have rkr := rnk_rng c
  have rl := rel_len (rnk c) W C
  refine v_iload hx DX6_operation_0 1 rfl ?_
  refine v_push hx DX6_operation_1 ?_
  refine v_icmp_ne hx DX6_operation_3 (by omega) (by decide) (fun c3 => ?_) (fun c3 => ?_)
  · skip
    refine v_iload hx DX6_operation_40 1 rfl ?_
    refine v_cSp hx DX6_operation_41 CSRX6_83 [iv c] (d_rank l G Λ sz μ (by omega)) rfl rfl (Nat.le_of_ble_eq_true rfl) (by decide) ⟨Nat.le_refl _, Nat.le_refl _⟩ ?_
    refine v_istore hx DX6_operation_44 [(2, iv (rnk c)), (0, .ref r), (1, iv c)] rfl (by decide) ?_
    refine v_iload hx DX6_operation_45 0 rfl ?_
    refine v_if_ne hx DX6_operation_46 (by omega) (fun c46 => ?_) (fun c46 => ?_)
    · skip
      refine v_aload hx DX6_operation_51 1 rfl ?_
      refine v_iload hx DX6_operation_52 0 rfl ?_
      refine v_cVv hx DX6_operation_53 CVRX6_59 [iv (rnk c)] (d_release (q := rnk c) (C := C) (W := W) l G Λ sz μ hS hR.1 hR.2.1 (by omega) (by omega) hW.rng) hS.1 rfl rfl (Nat.le_of_ble_eq_true rfl) (by decide) ⟨Nat.le_refl _, Nat.le_refl _⟩ (fun μ3 hμ3 => ?_)
      obtain ⟨k1, k2, f1⟩ := hμ3
      refine v_aload hx DX6_operation_56 1 rfl ?_
      refine v_iload hx DX6_operation_57 2 rfl ?_
      refine v_cVv hx DX6_operation_58 CVRX6_80 [iv c] (d_hold (W := (rel (rnk c) W C).1) l G Λ sz μ3 hS k2 (by omega)) hS.1 rfl rfl (Nat.le_of_ble_eq_true rfl) (by decide) ⟨Nat.le_refl _, Nat.le_refl _⟩ (fun μ5 hμ5 => ?_)
      obtain ⟨k3, f3⟩ := hμ5
      refine v_push hx DX6_operation_61 ?_
      exact v_ri hx hBD DX6_operation_62 (by have e : cch 4 c C W dp dg = (0, (rel (rnk c) W C).2, c :: (rel (rnk c) W C).1, dp, dg) := (by unfold cch; rw [if_neg h32, if_neg (by decide), if_neg (by decide), if_neg (by omega), if_neg (by omega), if_neg (by omega), if_neg (by omega)] <;> rfl); rw [e]; exact ⟨rfl, (show RDA _ r ((rel (rnk c) W C).2) (c :: (rel (rnk c) W C).1) (dp) (dg) from ⟨k1.frN f3 (by simp) (by simp), k3, ⟨(f3.2.1 7 (by simp)).trans ((f1.2.1 7 (by simp)).trans hR.2.2.1.1), hR.2.2.1.2⟩, ⟨(f3.2.1 8 (by simp)).trans ((f1.2.1 8 (by simp)).trans hR.2.2.2.1), hR.2.2.2.2⟩⟩), (f1.mono (by simp) (by simp)).trans (f3.mono (by simp) (by simp))⟩)
    · skip
      refine v_push hx DX6_operation_49 ?_
      exact v_ri hx hBD DX6_operation_50 (by have e : cch 4 c C W dp dg = (5, C, W, dp, dg) := (by unfold cch; rw [if_neg h32, if_neg (by decide), if_neg (by decide), if_neg (by omega), if_neg (by omega), if_neg (by omega), if_pos (by omega)] <;> rfl); rw [e]; exact ⟨rfl, (show RDA _ r (C) (W) (dp) (dg) from hR), FrN.rf⟩)
  · skip
    refine v_aload hx DX6_operation_6 0 rfl ?_
    refine v_get hx DX6_operation_7 FLRX6_31 hS.1 (fv_i rfl (hR.2.2.1.1) : _ = iv dp) ?_
    refine v_if_le hx DX6_operation_10 (by omega) (fun c10 => ?_) (fun c10 => ?_)
    · skip
      refine v_iload hx DX6_operation_40 1 rfl ?_
      refine v_cSp hx DX6_operation_41 CSRX6_83 [iv c] (d_rank l G Λ sz μ (by omega)) rfl rfl (Nat.le_of_ble_eq_true rfl) (by decide) ⟨Nat.le_refl _, Nat.le_refl _⟩ ?_
      refine v_istore hx DX6_operation_44 [(2, iv (rnk c)), (0, .ref r), (1, iv c)] rfl (by decide) ?_
      refine v_iload hx DX6_operation_45 0 rfl ?_
      refine v_if_ne hx DX6_operation_46 (by omega) (fun c46 => ?_) (fun c46 => ?_)
      · skip
        refine v_aload hx DX6_operation_51 1 rfl ?_
        refine v_iload hx DX6_operation_52 0 rfl ?_
        refine v_cVv hx DX6_operation_53 CVRX6_59 [iv (rnk c)] (d_release (q := rnk c) (C := C) (W := W) l G Λ sz μ hS hR.1 hR.2.1 (by omega) (by omega) hW.rng) hS.1 rfl rfl (Nat.le_of_ble_eq_true rfl) (by decide) ⟨Nat.le_refl _, Nat.le_refl _⟩ (fun μ9 hμ9 => ?_)
        obtain ⟨k1, k2, f1⟩ := hμ9
        refine v_aload hx DX6_operation_56 1 rfl ?_
        refine v_iload hx DX6_operation_57 2 rfl ?_
        refine v_cVv hx DX6_operation_58 CVRX6_80 [iv c] (d_hold (W := (rel (rnk c) W C).1) l G Λ sz μ9 hS k2 (by omega)) hS.1 rfl rfl (Nat.le_of_ble_eq_true rfl) (by decide) ⟨Nat.le_refl _, Nat.le_refl _⟩ (fun μ11 hμ11 => ?_)
        obtain ⟨k3, f3⟩ := hμ11
        refine v_push hx DX6_operation_61 ?_
        exact v_ri hx hBD DX6_operation_62 (by have e : cch 4 c C W dp dg = (0, (rel (rnk c) W C).2, c :: (rel (rnk c) W C).1, dp, dg) := (by unfold cch; rw [if_neg h32, if_neg (by decide), if_neg (by decide), if_neg (by omega), if_neg (by omega), if_neg (by omega), if_neg (by omega)] <;> rfl); rw [e]; exact ⟨rfl, (show RDA _ r ((rel (rnk c) W C).2) (c :: (rel (rnk c) W C).1) (dp) (dg) from ⟨k1.frN f3 (by simp) (by simp), k3, ⟨(f3.2.1 7 (by simp)).trans ((f1.2.1 7 (by simp)).trans hR.2.2.1.1), hR.2.2.1.2⟩, ⟨(f3.2.1 8 (by simp)).trans ((f1.2.1 8 (by simp)).trans hR.2.2.2.1), hR.2.2.2.2⟩⟩), (f1.mono (by simp) (by simp)).trans (f3.mono (by simp) (by simp))⟩)
      · skip
        refine v_push hx DX6_operation_49 ?_
        exact v_ri hx hBD DX6_operation_50 (by have e : cch 4 c C W dp dg = (5, C, W, dp, dg) := (by unfold cch; rw [if_neg h32, if_neg (by decide), if_neg (by decide), if_neg (by omega), if_neg (by omega), if_neg (by omega), if_pos (by omega)] <;> rfl); rw [e]; exact ⟨rfl, (show RDA _ r (C) (W) (dp) (dg) from hR), FrN.rf⟩)
    · skip
      refine v_aload hx DX6_operation_13 0 rfl ?_
      refine v_dup hx DX6_operation_14 rfl ?_
      refine v_get hx DX6_operation_15 FLRX6_31 hS.1 (fv_i rfl (hR.2.2.1.1) : _ = iv dp) ?_
      refine v_push hx DX6_operation_18 ?_
      refine v_isub hx DX6_operation_19 ?_
      refine v_pI hx DX6_operation_20 FPRX6_31 hS.1 rfl (ki := 7) rfl (fun μ13 eμ13 => ?_)
      refine v_aload hx DX6_operation_23 0 rfl ?_
      refine v_push hx DX6_operation_24 ?_
      refine v_cVv hx DX6_operation_25 CVRX6_59 [iv 1] (d_release (q := 1) (C := C) (W := W) l G Λ sz μ13 hS (hR.1.frN (FrN.mI0 eμ13) (by simp) (by simp)) (hR.2.1.frN (FrN.mI0 eμ13) (by simp) (by simp)) (by omega) (by omega) hW.rng) hS.1 rfl rfl (Nat.le_of_ble_eq_true rfl) (by decide) ⟨Nat.le_refl _, Nat.le_refl _⟩ (fun μ14 hμ14 => ?_)
      obtain ⟨k1, k2, f1⟩ := hμ14
      obtain ⟨Q, q1, q2, q3⟩ := rel_open W C hW.1 (by rw [hW.2]; omega)
      refine v_aload hx DX6_operation_28 0 rfl ?_
      refine v_dup hx DX6_operation_29 rfl ?_
      refine v_get hx DX6_operation_30 FLRX6_28 hS.1 (fv_i rfl (by rw [← q1]; exact k2.1) : _ = iv ((40 :: Q).length : Int)) ?_
      refine v_push hx DX6_operation_33 ?_
      refine v_isub hx DX6_operation_34 ?_
      refine v_pI hx DX6_operation_35 FPRX6_28 hS.1 rfl (ki := 6) rfl (fun μ16 eμ16 => ?_)
      refine v_push hx DX6_operation_38 ?_
      exact v_ri hx hBD DX6_operation_39 (by have e : cch 4 c C W dp dg = (2, (rel 1 W C).2, (rel 1 W C).1.tail, dp - 1, dg) := (by unfold cch; rw [if_neg h32, if_neg (by decide), if_neg (by decide), if_neg (by omega), if_neg (by omega), if_pos (by omega)] <;> rfl); rw [e]; exact ⟨rfl, (show RDA _ r ((rel 1 W C).2) ((rel 1 W C).1.tail) (dp - 1) (dg) from ⟨k1.frN (FrN.mI0 eμ16) (by simp) (by simp), by show WTA _ r (rel 1 W C).1.tail; rw [q1] at k2 ⊢; exact ⟨by rw [eμ16, mI_at, if_pos rfl, List.length_cons]; show _ = (Q.length : Int); omega, by rw [eμ16, mI_ne (by omega)]; exact k2.2.2⟩, ⟨by rw [eμ16, mI_at, if_neg (by decide)]; exact (f1.2.1 7 (by simp)).trans (by rw [eμ13, mI_at, if_pos rfl]), by omega⟩, ⟨by rw [eμ16, mI_at, if_neg (by decide)]; exact (f1.2.1 8 (by simp)).trans (((FrN.mI0 eμ13).2.1 8 (by simp)).trans hR.2.2.2.1), hR.2.2.2.2⟩⟩), (((FrN.mI0 eμ13).mono (by simp) (by simp)).trans (f1.mono (by simp) (by simp))).trans ((FrN.mI0 eμ16).mono (by simp) (by simp))⟩)
theorem d_step (l : Launch) (G : Gl) (Λ : Lay) (sz : Nat) (μ : Mem) {r κ : Nat} {C W : List Int} {st c dp dg : Int} (hS : rdK Λ r κ) (hR : RDA μ r C W dp dg) (hl : C.length + W.length < 90) (hc : 32 ≤ c ∧ c ≤ 126) (h32 : c ≠ 32) (hW : WK W dp) (hst : 0 ≤ st ∧ st ≤ 4) (h1 : st = 1 → C ≠ []) : Sp l G yX6_step cX6_step 3 (some FieldType.int) 3 [.ref r, iv st, iv c] Λ sz μ (pI (fun z μ' => CCH μ μ' r (cch st c C W dp dg) z)) := by
  refine Sp.intro (by decide) (Nat.le_of_ble_eq_true rfl) (fun x hx hBD => ?_)
  refine v_lv [(0, .ref r), (1, iv st), (2, iv c)] rfl ?_
  refine v_iload hx DX6_step_0 1 rfl ?_
  by_cases t1_0 : st = 0
  · skip
    refine v_tabIn hx DX6_step_1 (by omega) (by omega) (off := 31) (tgt := 32) (by rw [t1_0]; rfl) (by decide) ?_
    refine v_aload hx DX6_step_32 0 rfl ?_
    refine v_iload hx DX6_step_33 2 rfl ?_
    refine v_cVi hx DX6_step_34 CVRX6_63 [iv c] (d_operand l G Λ sz μ hS hR hl hc h32) hS.1 rfl rfl (Nat.le_of_ble_eq_true rfl) (by decide) ⟨Nat.le_refl _, Nat.le_refl _⟩ (fun z2 μ1 hμ1 => ?_)
    have hz := hμ1
    exact v_ri hx hBD DX6_step_37 (by have e : st = 0 := (by omega); rw [e]; exact hz)
  by_cases t1_1 : st = 1
  · skip
    refine v_tabIn hx DX6_step_1 (by omega) (by omega) (off := 65) (tgt := 66) (by rw [t1_1]; rfl) (by decide) ?_
    refine v_iload hx DX6_step_66 2 rfl ?_
    refine v_cSp hx DX6_step_67 CSRX6_70 [iv c] (d_isDigit l G Λ sz μ (by omega)) rfl rfl (Nat.le_of_ble_eq_true rfl) (by decide) ⟨Nat.le_refl _, Nat.le_refl _⟩ ?_
    have br67 := bz_rng (48 ≤ c ∧ c ≤ 57)
    refine v_if_eq hx DX6_step_70 (by omega) (fun c70 => ?_) (fun c70 => ?_)
    · skip
      have d70 := bzf c70
      refine v_iload hx DX6_step_79 2 rfl ?_
      refine v_push hx DX6_step_80 ?_
      refine v_icmp_ne hx DX6_step_82 (by omega) (by decide) (fun c82 => ?_) (fun c82 => ?_)
      · skip
        refine v_aload hx DX6_step_89 0 rfl ?_
        refine v_iload hx DX6_step_90 2 rfl ?_
        refine v_cVi hx DX6_step_91 CVRX6_77 [iv c] (d_operation l G Λ sz μ hS hR hl hc h32 hW) hS.1 rfl rfl (Nat.le_of_ble_eq_true rfl) (by decide) ⟨Nat.le_refl _, Nat.le_refl _⟩ (fun z6 μ5 hμ5 => ?_)
        have hz := hμ5
        exact v_ri hx hBD DX6_step_94 (by rw [cch_4 h32 (by omega) (by omega) (by omega) (by omega)]; exact hz)
      · skip
        refine v_push hx DX6_step_85 ?_
        refine v_goto hx DX6_step_86 ?_
        exact v_ri hx hBD DX6_step_94 (by have e : cch st c C W dp dg = (3, C, W, dp, dg) := (by unfold cch; rw [if_neg h32, if_neg (by omega), if_neg (by omega), if_neg (by omega), if_pos (by omega)] <;> rfl); rw [e]; exact ⟨rfl, (show RDA _ r (C) (W) (dp) (dg) from hR), FrN.rf⟩)
    · skip
      have d70 := bzt c70
      obtain ⟨h0, C0, hC0⟩ : ∃ h0 C0, C = h0 :: C0 := by
        cases hh : C with
        | nil => exact absurd hh (h1 (by omega))
        | cons a b => exact ⟨a, b, rfl⟩
      refine v_aload hx DX6_step_73 0 rfl ?_
      refine v_iload hx DX6_step_74 2 rfl ?_
      refine v_cVi hx DX6_step_75 CVRX6_74 [iv c] (d_nextDigit (h := h0) (C := C0) l G Λ sz μ hS (by rw [← hC0]; exact hR) (by rw [hC0, List.length_cons] at hl; omega) d70) hS.1 rfl rfl (Nat.le_of_ble_eq_true rfl) (by decide) ⟨Nat.le_refl _, Nat.le_refl _⟩ (fun z8 μ7 hμ7 => ?_)
      have hz := hμ7
      exact v_ri hx hBD DX6_step_78 (by have e : st = 1 := (by omega); rw [e, hC0]; exact hz)
  by_cases t1_2 : st = 2
  · skip
    refine v_tabIn hx DX6_step_1 (by omega) (by omega) (off := 94) (tgt := 95) (by rw [t1_2]; rfl) (by decide) ?_
    refine v_iload hx DX6_step_95 2 rfl ?_
    refine v_push hx DX6_step_96 ?_
    refine v_icmp_ne hx DX6_step_98 (by omega) (by decide) (fun c98 => ?_) (fun c98 => ?_)
    · skip
      refine v_aload hx DX6_step_105 0 rfl ?_
      refine v_iload hx DX6_step_106 2 rfl ?_
      refine v_cVi hx DX6_step_107 CVRX6_77 [iv c] (d_operation l G Λ sz μ hS hR hl hc h32 hW) hS.1 rfl rfl (Nat.le_of_ble_eq_true rfl) (by decide) ⟨Nat.le_refl _, Nat.le_refl _⟩ (fun z10 μ9 hμ9 => ?_)
      have hz := hμ9
      exact v_ri hx hBD DX6_step_110 (by rw [cch_4 h32 (by omega) (by omega) (by omega) (by omega)]; exact hz)
    · skip
      refine v_push hx DX6_step_101 ?_
      refine v_goto hx DX6_step_102 ?_
      exact v_ri hx hBD DX6_step_110 (by have e : cch st c C W dp dg = (3, C, W, dp, dg) := (by unfold cch; rw [if_neg h32, if_neg (by omega), if_neg (by omega), if_neg (by omega), if_pos (by omega)] <;> rfl); rw [e]; exact ⟨rfl, (show RDA _ r (C) (W) (dp) (dg) from hR), FrN.rf⟩)
  by_cases t1_3 : st = 3
  · skip
    refine v_tabIn hx DX6_step_1 (by omega) (by omega) (off := 37) (tgt := 38) (by rw [t1_3]; rfl) (by decide) ?_
    refine v_iload hx DX6_step_38 2 rfl ?_
    refine v_push hx DX6_step_39 ?_
    refine v_icmp_lt hx DX6_step_41 (by omega) (by decide) (fun c41 => ?_) (fun c41 => ?_)
    · skip
      refine v_push hx DX6_step_50 ?_
      exact v_ri hx hBD DX6_step_51 (by have e : cch st c C W dp dg = (5, C, W, dp, dg) := (by unfold cch; rw [if_neg h32, if_neg (by omega), if_pos (by omega), if_neg (by omega)] <;> rfl); rw [e]; exact ⟨rfl, (show RDA _ r (C) (W) (dp) (dg) from hR), FrN.rf⟩)
    · skip
      refine v_iload hx DX6_step_44 2 rfl ?_
      refine v_push hx DX6_step_45 ?_
      refine v_icmp_le hx DX6_step_47 (by omega) (by decide) (fun c47 => ?_) (fun c47 => ?_)
      · skip
        refine v_aload hx DX6_step_52 0 rfl ?_
        refine v_push hx DX6_step_53 ?_
        refine v_iload hx DX6_step_56 2 rfl ?_
        refine v_iadd hx DX6_step_57 ?_
        refine v_push hx DX6_step_58 ?_
        refine v_isub hx DX6_step_60 ?_
        refine v_cVv hx DX6_step_61 CVRX6_67 [iv ((2000 + c) - 48)] (d_emit (C := C) l G Λ sz μ hS hR.1 (by omega)) hS.1 rfl rfl (Nat.le_of_ble_eq_true rfl) (by decide) ⟨Nat.le_refl _, Nat.le_refl _⟩ (fun μ11 hμ11 => ?_)
        obtain ⟨k1, f1⟩ := hμ11
        refine v_push hx DX6_step_64 ?_
        exact v_ri hx hBD DX6_step_65 (by have e : cch st c C W dp dg = (4, (2000 + c - 48) :: C, W, dp, dg) := (by unfold cch; rw [if_neg h32, if_neg (by omega), if_pos (by omega), if_pos (by omega)] <;> rfl); rw [e]; exact ⟨rfl, (show RDA _ r ((2000 + c - 48) :: C) (W) (dp) (dg) from ⟨k1, hR.2.1.frN f1 (by simp) (by simp), ⟨(f1.2.1 7 (by simp)).trans hR.2.2.1.1, hR.2.2.1.2⟩, ⟨(f1.2.1 8 (by simp)).trans hR.2.2.2.1, hR.2.2.2.2⟩⟩), f1.mono (by simp) (by simp)⟩)
      · skip
        refine v_push hx DX6_step_50 ?_
        exact v_ri hx hBD DX6_step_51 (by have e : cch st c C W dp dg = (5, C, W, dp, dg) := (by unfold cch; rw [if_neg h32, if_neg (by omega), if_pos (by omega), if_neg (by omega)] <;> rfl); rw [e]; exact ⟨rfl, (show RDA _ r (C) (W) (dp) (dg) from hR), FrN.rf⟩)
  refine v_tabOut hx DX6_step_1 (by omega) (by omega) (tgt := 111) (by decide) ?_
  refine v_aload hx DX6_step_111 0 rfl ?_
  refine v_iload hx DX6_step_112 2 rfl ?_
  refine v_cVi hx DX6_step_113 CVRX6_77 [iv c] (d_operation l G Λ sz μ hS hR hl hc h32 hW) hS.1 rfl rfl (Nat.le_of_ble_eq_true rfl) (by decide) ⟨Nat.le_refl _, Nat.le_refl _⟩ (fun z14 μ13 hμ13 => ?_)
  have hz := hμ13
  exact v_ri hx hBD DX6_step_116 (by rw [cch_4 h32 (by omega) (by omega) (by omega) (by omega)]; exact hz)
