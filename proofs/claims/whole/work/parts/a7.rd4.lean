/-! ===== the class: reader, first part ===== -/
def vl15 (r : Nat) : List (Option Nat) := [some (r + 10), some (r + 15), some (r + 20), some (r + 25), some (r + 30), some (r + 35), some (r + 40), some (r + 45), some (r + 50), some (r + 55), some (r + 60), some (r + 65), some (r + 70), some (r + 75), some (r + 80)]
def rdK (Λ : Lay) (r κ : Nat) : Prop := Λ r = some (.inl (6, [some (.ref κ), some (.ref (r + 1)), none, some (.ref (r + 2)), none, some (.ref (r + 3)), none, none, none, some (.ref (r + 4)), none, some (.ref (r + 5))])) ∧
  Λ (r + 1) = some (.inr (0, 90, [])) ∧ Λ (r + 2) = some (.inr (0, 90, [])) ∧ Λ (r + 3) = some (.inr (0, 90, [])) ∧ Λ (r + 4) = some (.inr (4, 15, vl15 r)) ∧ fracK Λ (r + 5) ∧ (∀ k : Nat, k < 15 → fracK Λ (r + 10 + 5 * k))
/-- a row holds a list, the latest first -/
def lsA (w : Int → Int) : List Int → Prop
  | [] => True
  | c :: R => w (R.length : Int) = c ∧ lsA w R
theorem lsA.ext {w w' : Int → Int} : ∀ {C : List Int}, lsA w C → (∀ j : Int, 0 ≤ j → j < C.length → w' j = w j) → lsA w' C := by
  intro C
  induction C with
  | nil => intro _ _; exact True.intro
  | cons c R ih => intro h e; exact ⟨(e _ (by omega) (by rw [List.length_cons]; omega)).trans h.1, ih h.2 (fun j h0 h1 => e j h0 (by rw [List.length_cons]; omega))⟩
def CDA (μ : Mem) (r : Nat) (C : List Int) : Prop := μ.1 r 4 = (C.length : Int) ∧ lsA (μ.1 (r + 2)) C
def WTA (μ : Mem) (r : Nat) (W : List Int) : Prop := μ.1 r 6 = (W.length : Int) ∧ lsA (μ.1 (r + 3)) W
def RDA (μ : Mem) (r : Nat) (C W : List Int) (dp dg : Int) : Prop := CDA μ r C ∧ WTA μ r W ∧ (μ.1 r 7 = dp ∧ 0 ≤ dp ∧ dp ≤ 6) ∧ (μ.1 r 8 = dg ∧ 0 ≤ dg ∧ dg ≤ 3)
def TPA (μ : Mem) (r : Nat) (T : List Int) : Prop := T.length ≤ 90 ∧ μ.1 r 2 = (T.length : Int) ∧ (∀ i : Nat, i < T.length → μ.1 (r + 1) (i : Int) = T.getD i 0) ∧ ∀ c ∈ T, 32 ≤ c ∧ c ≤ 126
theorem CDA.frN {m m' : Mem} {r : Nat} {C : List Int} {S : List Nat} {J : List Int} (h : CDA m r C) (f : FrN r S J m m') (h1 : r + 2 ∉ S) (h2 : 4 ∉ J) : CDA m' r C := ⟨(f.2.1 4 h2).trans h.1, by rw [f.1 (r + 2) (by omega) h1]; exact h.2⟩
theorem WTA.frN {m m' : Mem} {r : Nat} {C : List Int} {S : List Nat} {J : List Int} (h : WTA m r C) (f : FrN r S J m m') (h1 : r + 3 ∉ S) (h2 : 6 ∉ J) : WTA m' r C := ⟨(f.2.1 6 h2).trans h.1, by rw [f.1 (r + 3) (by omega) h1]; exact h.2⟩
theorem TPA.frN {m m' : Mem} {r : Nat} {T : List Int} {S : List Nat} {J : List Int} (h : TPA m r T) (f : FrN r S J m m') (h1 : r + 1 ∉ S) (h2 : 2 ∉ J) : TPA m' r T := ⟨h.1, (f.2.1 2 h2).trans h.2.1, fun i hi => (congrFun (f.1 (r + 1) (by omega) h1) (i : Int)).trans (h.2.2.1 i hi), h.2.2.2⟩
theorem CDA.put {m m1 m2 : Mem} {r : Nat} {C : List Int} {c z : Int} (h : CDA m r C) (e1 : m1 = mI m (r + 2) (C.length : Int) c) (e2 : m2 = mI m1 r 4 z) (hz : z = (C.length : Int) + 1) : CDA m2 r (c :: C) ∧ FrN r [r + 2] [4] m m2 := by
  refine ⟨⟨by rw [e2, mI_at, if_pos rfl, hz, List.length_cons]; omega, ?_, ?_⟩, (by rw [e1]; exact FrN.wI (by simp) (by omega) : FrN r [r + 2] [4] m m1).trans (by rw [e2]; exact FrN.wJ (by simp))⟩
  · rw [e2, mI_ne (by omega), e1, mI_at, if_pos rfl]
  · refine h.2.ext (fun j h0 h1 => ?_)
    rw [e2, mI_ne (by omega), e1, mI_at, if_neg (by omega)]
theorem WTA.put {m m1 m2 : Mem} {r : Nat} {C : List Int} {c z : Int} (h : WTA m r C) (e1 : m1 = mI m (r + 3) (C.length : Int) c) (e2 : m2 = mI m1 r 6 z) (hz : z = (C.length : Int) + 1) : WTA m2 r (c :: C) ∧ FrN r [r + 3] [6] m m2 := by
  refine ⟨⟨by rw [e2, mI_at, if_pos rfl, hz, List.length_cons]; omega, ?_, ?_⟩, (by rw [e1]; exact FrN.wI (by simp) (by omega) : FrN r [r + 3] [6] m m1).trans (by rw [e2]; exact FrN.wJ (by simp))⟩
  · rw [e2, mI_ne (by omega), e1, mI_at, if_pos rfl]
  · refine h.2.ext (fun j h0 h1 => ?_)
    rw [e2, mI_ne (by omega), e1, mI_at, if_neg (by omega)]
theorem rnk_rng (c : Int) : 0 ≤ rnk c ∧ rnk c ≤ 2 := by
  unfold rnk
  split
  · omega
  · split <;> omega
theorem rel_len (r : Int) : ∀ W C : List Int, (rel r W C).1.length + (rel r W C).2.length = W.length + C.length := by
  intro W
  induction W with
  | nil => intro C; rfl
  | cons c R ih =>
    intro C
    rw [rel]
    split
    · rw [ih]; simp; omega
    · rfl
theorem d_emit (l : Launch) (G : Gl) (Λ : Lay) (sz : Nat) (μ : Mem) {r κ : Nat} {C : List Int} {c : Int} (hS : rdK Λ r κ) (hC : CDA μ r C) (hl : C.length < 90) : Sp l G yX6_emit cX6_emit 2 none 0 [.ref r, iv c] Λ sz μ (pV (fun μ' => CDA μ' r (c :: C) ∧ FrN r [r + 2] [4] μ μ')) := by
  refine Sp.intro (by decide) (Nat.le_of_ble_eq_true rfl) (fun x hx hBD => ?_)
  refine v_lv [(0, .ref r), (1, iv c)] rfl ?_
  refine v_aload hx DX6_emit_0 0 rfl ?_
  refine v_get hx DX6_emit_1 FLRX6_22 hS.1 (fv_i rfl hC.1 : _ = iv (C.length : Int)) ?_
  refine v_if_lt hx DX6_emit_4 (by omega) (fun c4 => ?_) (fun c4 => ?_)
  · exact absurd c4 (by omega)
  · skip
    refine v_aload hx DX6_emit_7 0 rfl ?_
    refine v_get hx DX6_emit_8 FLRX6_22 hS.1 (fv_i rfl hC.1 : _ = iv (C.length : Int)) ?_
    refine v_aload hx DX6_emit_11 0 rfl ?_
    refine v_get hx DX6_emit_12 FLRX6_19 hS.1 (v := .ref (r + 2)) rfl ?_
    refine v_alenI hx DX6_emit_15 hS.2.2.1 (by decide) (z := 90) rfl ?_
    refine v_icmp_ge hx DX6_emit_16 (by omega) (by decide) (fun c16 => ?_) (fun c16 => ?_)
    · exact absurd c16 (by omega)
    · skip
      refine v_aload hx DX6_emit_19 0 rfl ?_
      refine v_get hx DX6_emit_20 FLRX6_19 hS.1 (v := .ref (r + 2)) rfl ?_
      refine v_aload hx DX6_emit_23 0 rfl ?_
      refine v_get hx DX6_emit_24 FLRX6_22 hS.1 (fv_i rfl hC.1 : _ = iv (C.length : Int)) ?_
      refine v_iload hx DX6_emit_27 1 rfl ?_
      refine v_iastm hx DX6_emit_28 hS.2.2.1 (by omega) (by decide) (fun μ1 eμ1 => ?_)
      refine v_aload hx DX6_emit_29 0 rfl ?_
      refine v_dup hx DX6_emit_30 rfl ?_
      refine v_get hx DX6_emit_31 FLRX6_22 hS.1 (fv_i rfl (by rw [eμ1, mI_ne (by omega)]; exact hC.1) : _ = iv (C.length : Int)) ?_
      refine v_push hx DX6_emit_34 ?_
      refine v_iadd hx DX6_emit_35 ?_
      refine v_pI hx DX6_emit_36 FPRX6_22 hS.1 rfl (ki := 4) rfl (fun μ2 eμ2 => ?_)
      exact v_rv hx hBD DX6_emit_39 (hC.put eμ1 eμ2 rfl)
theorem d_hold (l : Launch) (G : Gl) (Λ : Lay) (sz : Nat) (μ : Mem) {r κ : Nat} {W : List Int} {c : Int} (hS : rdK Λ r κ) (hW : WTA μ r W) (hl : W.length < 90) : Sp l G yX6_hold cX6_hold 2 none 0 [.ref r, iv c] Λ sz μ (pV (fun μ' => WTA μ' r (c :: W) ∧ FrN r [r + 3] [6] μ μ')) := by
  refine Sp.intro (by decide) (Nat.le_of_ble_eq_true rfl) (fun x hx hBD => ?_)
  refine v_lv [(0, .ref r), (1, iv c)] rfl ?_
  refine v_aload hx DX6_hold_0 0 rfl ?_
  refine v_get hx DX6_hold_1 FLRX6_28 hS.1 (fv_i rfl hW.1 : _ = iv (W.length : Int)) ?_
  refine v_if_lt hx DX6_hold_4 (by omega) (fun c4 => ?_) (fun c4 => ?_)
  · exact absurd c4 (by omega)
  · skip
    refine v_aload hx DX6_hold_7 0 rfl ?_
    refine v_get hx DX6_hold_8 FLRX6_28 hS.1 (fv_i rfl hW.1 : _ = iv (W.length : Int)) ?_
    refine v_aload hx DX6_hold_11 0 rfl ?_
    refine v_get hx DX6_hold_12 FLRX6_25 hS.1 (v := .ref (r + 3)) rfl ?_
    refine v_alenI hx DX6_hold_15 hS.2.2.2.1 (by decide) (z := 90) rfl ?_
    refine v_icmp_ge hx DX6_hold_16 (by omega) (by decide) (fun c16 => ?_) (fun c16 => ?_)
    · exact absurd c16 (by omega)
    · skip
      refine v_aload hx DX6_hold_19 0 rfl ?_
      refine v_get hx DX6_hold_20 FLRX6_25 hS.1 (v := .ref (r + 3)) rfl ?_
      refine v_aload hx DX6_hold_23 0 rfl ?_
      refine v_get hx DX6_hold_24 FLRX6_28 hS.1 (fv_i rfl hW.1 : _ = iv (W.length : Int)) ?_
      refine v_iload hx DX6_hold_27 1 rfl ?_
      refine v_iastm hx DX6_hold_28 hS.2.2.2.1 (by omega) (by decide) (fun μ1 eμ1 => ?_)
      refine v_aload hx DX6_hold_29 0 rfl ?_
      refine v_dup hx DX6_hold_30 rfl ?_
      refine v_get hx DX6_hold_31 FLRX6_28 hS.1 (fv_i rfl (by rw [eμ1, mI_ne (by omega)]; exact hW.1) : _ = iv (W.length : Int)) ?_
      refine v_push hx DX6_hold_34 ?_
      refine v_iadd hx DX6_hold_35 ?_
      refine v_pI hx DX6_hold_36 FPRX6_28 hS.1 rfl (ki := 6) rfl (fun μ2 eμ2 => ?_)
      exact v_rv hx hBD DX6_hold_39 (hW.put eμ1 eμ2 rfl)
theorem d_rank (l : Launch) (G : Gl) (Λ : Lay) (sz : Nat) (μ : Mem) {c : Int} (hc : inR c) : Sp l G yX6_rank cX6_rank 1 (some FieldType.int) 0 [iv c] Λ sz μ (pP μ (rnk c)) := by
  refine Sp.intro (by decide) (Nat.le_of_ble_eq_true rfl) (fun x hx hBD => ?_)
  refine v_lv [(0, iv c)] rfl ?_
  refine v_iload hx DX6_rank_0 0 rfl ?_
  refine v_push hx DX6_rank_1 ?_
  refine v_icmp_eq hx DX6_rank_3 (by omega) (by decide) (fun c3 => ?_) (fun c3 => ?_)
  · skip
    refine v_push hx DX6_rank_12 ?_
    exact v_ri hx hBD DX6_rank_13 (⟨rfl, by unfold rnk; rw [if_pos (by omega)]⟩)
  · skip
    refine v_iload hx DX6_rank_6 0 rfl ?_
    refine v_push hx DX6_rank_7 ?_
    refine v_icmp_ne hx DX6_rank_9 (by omega) (by decide) (fun c9 => ?_) (fun c9 => ?_)
    · skip
      refine v_iload hx DX6_rank_14 0 rfl ?_
      refine v_push hx DX6_rank_15 ?_
      refine v_icmp_eq hx DX6_rank_17 (by omega) (by decide) (fun c17 => ?_) (fun c17 => ?_)
      · skip
        refine v_push hx DX6_rank_26 ?_
        refine v_goto hx DX6_rank_27 ?_
        exact v_ri hx hBD DX6_rank_31 (⟨rfl, by unfold rnk; rw [if_neg (by omega), if_pos (by omega)]⟩)
      · skip
        refine v_iload hx DX6_rank_20 0 rfl ?_
        refine v_push hx DX6_rank_21 ?_
        refine v_icmp_ne hx DX6_rank_23 (by omega) (by decide) (fun c23 => ?_) (fun c23 => ?_)
        · skip
          refine v_push hx DX6_rank_30 ?_
          exact v_ri hx hBD DX6_rank_31 (⟨rfl, by unfold rnk; rw [if_neg (by omega), if_neg (by omega)]⟩)
        · skip
          refine v_push hx DX6_rank_26 ?_
          refine v_goto hx DX6_rank_27 ?_
          exact v_ri hx hBD DX6_rank_31 (⟨rfl, by unfold rnk; rw [if_neg (by omega), if_pos (by omega)]⟩)
    · skip
      refine v_push hx DX6_rank_12 ?_
      exact v_ri hx hBD DX6_rank_13 (⟨rfl, by unfold rnk; rw [if_pos (by omega)]⟩)
theorem d_isDigit (l : Launch) (G : Gl) (Λ : Lay) (sz : Nat) (μ : Mem) {c : Int} (hc : inR c) : Sp l G yX6_isDigit cX6_isDigit 1 (some FieldType.boolean) 0 [iv c] Λ sz μ (pP μ (bz (48 ≤ c ∧ c ≤ 57))) := by
  refine Sp.intro (by decide) (Nat.le_of_ble_eq_true rfl) (fun x hx hBD => ?_)
  refine v_lv [(0, iv c)] rfl ?_
  refine v_iload hx DX6_isDigit_0 0 rfl ?_
  refine v_push hx DX6_isDigit_1 ?_
  refine v_icmp_lt hx DX6_isDigit_3 (by omega) (by decide) (fun c3 => ?_) (fun c3 => ?_)
  · skip
    have e0 : (0 : Int) = bz (48 ≤ c ∧ c ≤ 57) := (bz_neg (by omega)).symm
    refine v_push hx DX6_isDigit_16 ?_
    exact v_rz hx hBD (by omega) DX6_isDigit_17 (⟨rfl, e0⟩)
  · skip
    refine v_iload hx DX6_isDigit_6 0 rfl ?_
    refine v_push hx DX6_isDigit_7 ?_
    refine v_icmp_gt hx DX6_isDigit_9 (by omega) (by decide) (fun c9 => ?_) (fun c9 => ?_)
    · skip
      have e0 : (0 : Int) = bz (48 ≤ c ∧ c ≤ 57) := (bz_neg (by omega)).symm
      refine v_push hx DX6_isDigit_16 ?_
      exact v_rz hx hBD (by omega) DX6_isDigit_17 (⟨rfl, e0⟩)
    · skip
      have e0 : (1 : Int) = bz (48 ≤ c ∧ c ≤ 57) := (bz_pos (by omega)).symm
      refine v_push hx DX6_isDigit_12 ?_
      refine v_goto hx DX6_isDigit_13 ?_
      exact v_rz hx hBD (by omega) DX6_isDigit_17 (⟨rfl, e0⟩)
theorem d_release (l : Launch) (G : Gl) (Λ : Lay) (sz : Nat) (μ : Mem) {r κ : Nat} {C W : List Int} {q : Int} (hS : rdK Λ r κ) (hC : CDA μ r C) (hW : WTA μ r W) (hl : C.length + W.length ≤ 90) (hq : 0 ≤ q ∧ q ≤ 2) (hr : ∀ c ∈ W, 32 ≤ c ∧ c ≤ 126) : Sp l G yX6_release cX6_release 3 none 1 [.ref r, iv q] Λ sz μ (pV (fun μ' => CDA μ' r (rel q W C).2 ∧ WTA μ' r (rel q W C).1 ∧ FrN r [r + 2] [4, 6] μ μ')) := by
  refine Sp.intro (by decide) (Nat.le_of_ble_eq_true rfl) (fun x hx hBD => ?_)
  refine v_lv [(0, .ref r), (1, iv q)] rfl ?_
  have L7 : ∀ (nf : Nat) (k : Int) (D U : List Int) (m : Mem), (k + 1 < (nf : Int)) → (k = (U.length : Int) - 1) → (CDA m r D) → (WTA m r U) → (D.length + U.length ≤ 90) → (rel q U D = rel q W C) → (∀ c ∈ U, 32 ≤ c ∧ c ≤ 126) → (FrN r [r + 2] [4, 6] μ m) → V G x (0, 0) Λ sz m 7 [(2, iv k), (0, .ref r), (1, iv q)] [] := by
    intro nf
    induction nf with
    | zero => intro k D U m hm hk hD hU hl2 he hr2 hf; exact absurd hm (by omega)
    | succ nf ih =>
      intro k D U m hm hk hD hU hl2 he hr2 hf
      refine v_iload hx DX6_release_7 0 rfl ?_
      refine v_if_lt hx DX6_release_8 (by omega) (fun c8 => ?_) (fun c8 => ?_)
      · skip
        exact v_rv hx hBD DX6_release_58 (⟨by rw [← he, List.length_eq_zero_iff.mp (show U.length = 0 by omega)]; exact hD, by rw [← he, List.length_eq_zero_iff.mp (show U.length = 0 by omega)]; have t := hU; rw [List.length_eq_zero_iff.mp (show U.length = 0 by omega)] at t; exact t, hf⟩)
      · skip
        obtain ⟨c, U2, rfl⟩ : ∃ c U2, U = c :: U2 := by
          cases U with
          | nil => exact absurd hk (by simp; omega)
          | cons c U2 => exact ⟨c, U2, rfl⟩
        have vl : ((c :: U2).length : Int) = (U2.length : Int) + 1 := by rw [List.length_cons]; omega
        have crg := hr2 c (List.mem_cons_self ..)
        have rr := rnk_rng c
        have e1 : q ≤ rnk c → rel q (c :: U2) D = rel q U2 ((1000 + c) :: D) := fun t => if_pos t
        have e2 : ¬ q ≤ rnk c → rel q (c :: U2) D = (c :: U2, D) := fun t => if_neg t
        refine v_iload hx DX6_release_11 0 rfl ?_
        refine v_aload hx DX6_release_12 1 rfl ?_
        refine v_get hx DX6_release_13 FLRX6_25 hS.1 (v := .ref (r + 3)) rfl ?_
        refine v_alenI hx DX6_release_16 hS.2.2.2.1 (by decide) (z := 90) rfl ?_
        refine v_icmp_ge hx DX6_release_17 (by omega) (by decide) (fun c17 => ?_) (fun c17 => ?_)
        · exact absurd c17 (by omega)
        · skip
          refine v_aload hx DX6_release_20 1 rfl ?_
          refine v_get hx DX6_release_21 FLRX6_25 hS.1 (v := .ref (r + 3)) rfl ?_
          refine v_iload hx DX6_release_24 0 rfl ?_
          refine v_iald hx DX6_release_25 hS.2.2.2.1 (by omega) (by decide) (z := c) (by rw [show k = (U2.length : Int) by omega]; exact hU.2.1) ?_
          refine v_cSp hx DX6_release_26 CSRX6_83 [iv c] (d_rank l G Λ sz m (by omega)) rfl rfl (Nat.le_of_ble_eq_true rfl) (by decide) ⟨Nat.le_refl _, Nat.le_refl _⟩ ?_
          refine v_iload hx DX6_release_29 2 rfl ?_
          refine v_icmp_lt hx DX6_release_30 (by omega) (by omega) (fun c30 => ?_) (fun c30 => ?_)
          · skip
            exact v_rv hx hBD DX6_release_58 (⟨by rw [← he, e2 (by omega)]; exact hD, by rw [← he, e2 (by omega)]; exact hU, hf⟩)
          · skip
            refine v_aload hx DX6_release_33 1 rfl ?_
            refine v_push hx DX6_release_34 ?_
            refine v_aload hx DX6_release_37 1 rfl ?_
            refine v_get hx DX6_release_38 FLRX6_25 hS.1 (v := .ref (r + 3)) rfl ?_
            refine v_iload hx DX6_release_41 0 rfl ?_
            refine v_iald hx DX6_release_42 hS.2.2.2.1 (by omega) (by decide) (z := c) (by rw [show k = (U2.length : Int) by omega]; exact hU.2.1) ?_
            refine v_iadd hx DX6_release_43 ?_
            refine v_cVv hx DX6_release_44 CVRX6_67 [iv (1000 + c)] (d_emit (C := D) (c := 1000 + c) l G Λ sz m hS hD (by omega)) hS.1 rfl rfl (Nat.le_of_ble_eq_true rfl) (by decide) ⟨Nat.le_refl _, Nat.le_refl _⟩ (fun μ3 hμ3 => ?_)
            obtain ⟨d1, f1⟩ := hμ3
            have v1 := hU.frN f1 (by simp) (by simp)
            refine v_aload hx DX6_release_47 1 rfl ?_
            refine v_iload hx DX6_release_48 0 rfl ?_
            refine v_pI hx DX6_release_49 FPRX6_28 hS.1 rfl (ki := 6) rfl (fun μ5 eμ5 => ?_)
            refine v_iinc hx DX6_release_52 0 rfl [(2, iv (k + (-1))), (0, .ref r), (1, iv q)] rfl (by decide) ?_
            refine v_goto hx DX6_release_55 ?_
            exact v_sub [0, 1, 2] _ rfl (ih (k + (-1)) ((1000 + c) :: D) U2 μ5 (by omega) (by omega) (d1.frN (FrN.mI0 eμ5) (by simp) (by simp)) ⟨by rw [eμ5, mI_at, if_pos rfl]; omega, by rw [eμ5, mI_ne (by omega)]; exact v1.2.2⟩ (by rw [List.length_cons] at hl2 ⊢; omega) ((e1 (by omega)).symm.trans he) (fun x hx => hr2 x (List.mem_cons_of_mem _ hx)) ((hf.trans (f1.mono (by simp) (by simp))).trans ((FrN.mI0 eμ5).mono (by simp) (by simp))))
  refine v_aload hx DX6_release_0 0 rfl ?_
  refine v_get hx DX6_release_1 FLRX6_28 hS.1 (fv_i rfl hW.1 : _ = iv (W.length : Int)) ?_
  refine v_push hx DX6_release_4 ?_
  refine v_isub hx DX6_release_5 ?_
  refine v_istore hx DX6_release_6 [(2, iv ((W.length : Int) - 1)), (0, .ref r), (1, iv q)] rfl (by decide) ?_
  exact v_sub [0, 1, 2] _ rfl (L7 200 ((W.length : Int) - 1) C W μ (by omega) rfl hC hW hl rfl hr FrN.rf)
