/-! ===== the writer: signs ω + 1 (96), length ===== -/
def writK (Λ : Lay) (ω : Nat) : Prop := Λ ω = some (.inl (10, [some (.ref (ω + 1)), none])) ∧ Λ (ω + 1) = some (.inr (0, 96, []))
def WA (μ : Mem) (ω : Nat) (T : List Int) : Prop := T.length ≤ 96 ∧ μ.1 ω 1 = (T.length : Int) ∧ ∀ i : Nat, i < T.length → μ.1 (ω + 1) (i : Int) = T.getD i 0
abbrev FrW (ω : Nat) (μ μ' : Mem) : Prop := Fr [ω, ω + 1] μ μ'
theorem writK.pa {Λ : Lay} {ω t : Nat} {μ μ' : Mem} {p : PS} (h : writK Λ ω) (ht : polyK Λ t) (hf : FrW ω μ μ') (hp : PA μ t p) : PA μ' t p := by
  have c1 : t ≠ ω := fun q => by subst q; have := h.1.symm.trans ht.1; simp at this
  have c2 : t ≠ ω + 1 := fun q => by subst q; have := h.2.symm.trans ht.1; simp at this
  have c3 : ω ≠ t + 1 := fun q => by subst q; have := h.1.symm.trans ht.2; simp at this
  exact hp.kept hf (by simp; omega) (by simp; omega)
theorem writK.off {Λ : Lay} {ω : Nat} (h : writK Λ ω) : offP Λ ω (ω + 1) := by
  intro a h0 h1
  have : a = ω ∨ a = ω + 1 := by omega
  rcases this with rfl | rfl
  · rintro (q | ⟨b, rfl, q⟩)
    · have := h.1.symm.trans q.1; simp at this
    · have := h.1.symm.trans q.2; simp at this
  · rintro (q | ⟨b, e, q⟩)
    · have := h.2.symm.trans q.1; simp at this
    · have e2 : ω = b := by omega
      subst e2
      have := h.1.symm.trans q.1; simp at this
theorem WA.add {μ m m1 : Mem} {ω : Nat} {T : List Int} {s : Int} (h : WA μ ω T) (hl : T.length < 96) (e1 : m = mI μ (ω + 1) (T.length : Int) s) (e2 : m1 = mI m ω 1 ((T.length : Int) + 1)) : WA m1 ω (T ++ [s]) ∧ FrW ω μ m1 := by
  refine ⟨⟨by simp; omega, by rw [e2, mI_at2 rfl]; simp, fun i hi => ?_⟩, by rw [e2, e1]; exact (Fr.mI (by simp)).trans (Fr.mI (by simp))⟩
  rw [e2, mI_ne (by omega), e1, mI_at]
  simp at hi
  by_cases c : i = T.length
  · subst c
    rw [if_pos rfl]
    simp
  · rw [if_neg (by omega), h.2.2 i (by omega)]
    simp [List.getD, List.getElem?_append_left (show i < T.length by omega)]
def numT (v : Int) : List Int := (if 100 ≤ v then [48 + v / 100 % 10] else []) ++ (if 10 ≤ v then [48 + v / 10 % 10] else []) ++ [48 + v % 10]
def termT (c k : Int) : List Int := (if c ≠ 1 ∨ k = 0 then numT c ++ (if 0 < k then [42] else []) else []) ++ (if 0 < k then [120] else []) ++ (if 1 < k then 94 :: numT k else [])
def polyT (p : PS) (d : Int) : Nat → List Int
  | 0 => []
  | k + 1 => (if p k = 0 then [] else (if (k : Int) < d then [43] else []) ++ termT (cf p k) k) ++ polyT p d k
noncomputable def ptxt (p : PS) : List Int := if p.size = 0 then [48] else polyT p ((p.size : Int) - 1) p.size
noncomputable def ftxt (N D : PS) : List Int := if D.size = 1 then ptxt N else [40] ++ ptxt N ++ [41, 47, 40] ++ ptxt D ++ [41]
theorem numT_len (v : Int) : (numT v).length ≤ 3 ∧ (v < 10 → (numT v).length = 1) := by
  unfold numT
  constructor
  · split <;> split <;> simp
  · intro h
    rw [if_neg (by omega), if_neg (by omega)]; rfl
theorem termT_len {c k : Int} (h : k < 10) : (termT c k).length ≤ (if k ≤ 0 then 3 else if k = 1 then 5 else 7) := by
  have h1 := numT_len c
  have h2 := (numT_len k).2 h
  unfold termT
  simp only [List.length_append]
  by_cases c0 : k ≤ 0
  · rw [if_pos c0, if_neg (show ¬ 0 < k by omega), if_neg (show ¬ 0 < k by omega), if_neg (show ¬ 1 < k by omega)]
    split <;> simp <;> omega
  · rw [if_neg c0, if_pos (show 0 < k by omega), if_pos (show 0 < k by omega)]
    by_cases c1 : k = 1
    · rw [if_pos c1, if_neg (show ¬ 1 < k by omega)]
      split <;> simp <;> omega
    · rw [if_neg c1, if_pos (show 1 < k by omega)]
      split <;> simp <;> omega
def lb (k : Int) : Int := if k ≤ 0 then 0 else if k = 1 then 4 else 8 * k - 6
theorem lb_step {c k : Int} (h0 : 0 ≤ k) (h : k < 10) : ((termT c k).length : Int) + 1 + lb k ≤ lb (k + 1) := by
  have := termT_len (c := c) h
  unfold lb
  split at this
  · have : k = 0 := by omega
    subst this
    simp
    omega
  · split at this
    · rename_i c1
      subst c1
      simp
      omega
    · rw [if_neg (by omega), if_neg (by omega), if_neg (by omega), if_neg (by omega)]
      omega
theorem lb_pos (k : Int) : 0 ≤ lb k := by unfold lb; split <;> (try split) <;> omega
theorem lb_four {k : Int} (h : 0 ≤ k) : 4 ≤ lb (k + 1) := by unfold lb; split <;> (try split) <;> omega
theorem lb_le {k : Int} (h : k ≤ 7) : lb k ≤ 50 := by unfold lb; split <;> (try split) <;> omega
theorem lb_le5 {k : Int} (h : k ≤ 5) : lb k ≤ 34 := by unfold lb; split <;> (try split) <;> omega
theorem lb_mono (k : Int) : lb k ≤ lb (k + 1) := by
  unfold lb
  repeat' split
  all_goals omega
theorem polyT_len {p : PS} {d : Int} : ∀ k : Nat, k ≤ 10 → ((polyT p d k).length : Int) ≤ lb k := by
  intro k
  induction k with
  | zero => intro _; exact Int.le_refl _
  | succ k ih =>
    intro hk
    have h1 := ih (by omega)
    have h2 := lb_step (c := cf p k) (k := (k : Int)) (by omega) (by omega)
    have h3 := lb_mono (k : Int)
    rw [polyT]
    simp only [List.length_append]
    rw [show ((k + 1 : Nat) : Int) = (k : Int) + 1 by omega]
    split
    · simp only [List.length_nil]; omega
    · simp only [List.length_append]
      split
      · simp only [List.length_cons, List.length_nil]; omega
      · simp only [List.length_nil]; omega
theorem ptxt_len {p : PS} (h : p.size < 10) : ((ptxt p).length : Int) ≤ lb p.size + 1 := by
  unfold ptxt
  have := lb_pos p.size
  split
  · simp; omega
  · have := polyT_len (p := p) (d := (p.size : Int) - 1) p.size (by omega)
    omega
theorem w_add (l : Launch) (G : Gl) (Λ : Lay) (sz : Nat) (μ : Mem) {ω : Nat} {T : List Int} {s : Int} (hW : writK Λ ω) (hT : WA μ ω T) (hl : T.length < 96) : Sp l G yX10_add cX10_add 2 none 0 [.ref ω, iv s] Λ sz μ (pV (fun μ' => WA μ' ω (T ++ [s]) ∧ FrW ω μ μ')) := by
  refine Sp.intro (by decide) (Nat.le_of_ble_eq_true rfl) (fun x hx hBD => ?_)
  refine v_lv [(0, .ref ω), (1, iv s)] rfl ?_
  refine v_aload hx DX10_add_0 0 rfl ?_
  refine v_get hx DX10_add_1 FLRX10_15 hW.1 (fv_i rfl hT.2.1 : _ = iv (T.length : Int)) ?_
  refine v_if_lt hx DX10_add_4 (by omega) (fun c4 => ?_) (fun c4 => ?_)
  · exact absurd c4 (by omega)
  · skip
    refine v_aload hx DX10_add_7 0 rfl ?_
    refine v_get hx DX10_add_8 FLRX10_15 hW.1 (fv_i rfl hT.2.1 : _ = iv (T.length : Int)) ?_
    refine v_aload hx DX10_add_11 0 rfl ?_
    refine v_get hx DX10_add_12 FLRX10_9 hW.1 (v := .ref (ω + 1)) rfl ?_
    refine v_alenI hx DX10_add_15 hW.2 (by decide) (z := 96) rfl ?_
    refine v_icmp_ge hx DX10_add_16 (by omega) (by decide) (fun c16 => ?_) (fun c16 => ?_)
    · exact absurd c16 (by omega)
    · skip
      refine v_aload hx DX10_add_19 0 rfl ?_
      refine v_get hx DX10_add_20 FLRX10_9 hW.1 (v := .ref (ω + 1)) rfl ?_
      refine v_aload hx DX10_add_23 0 rfl ?_
      refine v_get hx DX10_add_24 FLRX10_15 hW.1 (fv_i rfl hT.2.1 : _ = iv (T.length : Int)) ?_
      refine v_iload hx DX10_add_27 1 rfl ?_
      refine v_iastm hx DX10_add_28 hW.2 (by omega) (by decide) (fun μ1 eμ1 => ?_)
      refine v_aload hx DX10_add_29 0 rfl ?_
      refine v_dup hx DX10_add_30 rfl ?_
      refine v_get hx DX10_add_31 FLRX10_15 hW.1 (fv_i rfl (by rw [eμ1, mI_ne (by omega)]; exact hT.2.1) : _ = iv (T.length : Int)) ?_
      refine v_push hx DX10_add_34 ?_
      refine v_iadd hx DX10_add_35 ?_
      refine v_pI hx DX10_add_36 FPRX10_15 hW.1 rfl (ki := 1) rfl (fun μ2 eμ2 => ?_)
      exact v_rv hx hBD DX10_add_39 (hT.add hl eμ1 eμ2)
theorem w_sign (l : Launch) (G : Gl) (Λ : Lay) (sz : Nat) (μ : Mem) {ω : Nat} {T : List Int} {k : Int} (hW : writK Λ ω) (hT : WA μ ω T) (hk : inR k) : Sp l G yX10_sign cX10_sign 2 (some FieldType.int) 0 [.ref ω, iv k] Λ sz μ (pP μ (if 0 ≤ k ∧ k < T.length then T.getD k.toNat 0 else -1)) := by
  refine Sp.intro (by decide) (Nat.le_of_ble_eq_true rfl) (fun x hx hBD => ?_)
  refine v_lv [(0, .ref ω), (1, iv k)] rfl ?_
  have hl := hT.1
  refine v_iload hx DX10_sign_0 1 rfl ?_
  refine v_if_lt hx DX10_sign_1 (by omega) (fun c1 => ?_) (fun c1 => ?_)
  · skip
    have e0 : (-1 : Int) = if 0 ≤ k ∧ k < T.length then T.getD k.toNat 0 else -1 := by rw [if_neg (by omega)]
    refine v_push hx DX10_sign_30 ?_
    exact v_ri hx hBD DX10_sign_31 (⟨rfl, e0⟩)
  · skip
    refine v_iload hx DX10_sign_4 1 rfl ?_
    refine v_aload hx DX10_sign_5 0 rfl ?_
    refine v_get hx DX10_sign_6 FLRX10_15 hW.1 (fv_i rfl hT.2.1 : _ = iv (T.length : Int)) ?_
    refine v_icmp_ge hx DX10_sign_9 (by omega) (by omega) (fun c9 => ?_) (fun c9 => ?_)
    · skip
      have e0 : (-1 : Int) = if 0 ≤ k ∧ k < T.length then T.getD k.toNat 0 else -1 := by rw [if_neg (by omega)]
      refine v_push hx DX10_sign_30 ?_
      exact v_ri hx hBD DX10_sign_31 (⟨rfl, e0⟩)
    · skip
      refine v_iload hx DX10_sign_12 1 rfl ?_
      refine v_aload hx DX10_sign_13 0 rfl ?_
      refine v_get hx DX10_sign_14 FLRX10_9 hW.1 (v := .ref (ω + 1)) rfl ?_
      refine v_alenI hx DX10_sign_17 hW.2 (by decide) (z := 96) rfl ?_
      refine v_icmp_ge hx DX10_sign_18 (by omega) (by decide) (fun c18 => ?_) (fun c18 => ?_)
      · exact absurd c18 (by omega)
      · skip
        have e0 : T.getD k.toNat 0 = if 0 ≤ k ∧ k < T.length then T.getD k.toNat 0 else -1 := by rw [if_pos (by omega)]
        refine v_aload hx DX10_sign_21 0 rfl ?_
        refine v_get hx DX10_sign_22 FLRX10_9 hW.1 (v := .ref (ω + 1)) rfl ?_
        refine v_iload hx DX10_sign_25 1 rfl ?_
        refine v_iald hx DX10_sign_26 hW.2 (by omega) (by decide) (z := T.getD k.toNat 0) (by have := hT.2.2 k.toNat (by omega); rwa [Int.toNat_of_nonneg (by omega)] at this) ?_
        refine v_goto hx DX10_sign_27 ?_
        exact v_ri hx hBD DX10_sign_31 (⟨rfl, e0⟩)
theorem w_number (l : Launch) (G : Gl) (Λ : Lay) (sz : Nat) (μ : Mem) {ω : Nat} {T : List Int} {v : Int} (hW : writK Λ ω) (hT : WA μ ω T) (hv : 0 ≤ v ∧ v ≤ 100) (hl : T.length + 3 ≤ 96) : Sp l G yX10_writeNumber cX10_writeNumber 2 none 1 [.ref ω, iv v] Λ sz μ (pV (fun μ' => WA μ' ω (T ++ numT v) ∧ FrW ω μ μ')) := by
  refine Sp.intro (by decide) (Nat.le_of_ble_eq_true rfl) (fun x hx hBD => ?_)
  refine v_lv [(0, .ref ω), (1, iv v)] rfl ?_
  have L40 : ∀ (C : List Int) (m : Mem), (C = T ++ (if 100 ≤ v then [48 + v / 100 % 10] else []) ++ (if 10 ≤ v then [48 + v / 10 % 10] else [])) → (WA m ω C ∧ FrW ω μ m) → V G x (0, 0) Λ sz m 40 [(0, .ref ω), (1, iv v)] [] := by
    intro C m hC hm
    have lC : C.length ≤ T.length + 2 := by rw [hC]; split <;> split <;> simp
    refine v_aload hx DX10_writeNumber_40 0 rfl ?_
    refine v_push hx DX10_writeNumber_41 ?_
    refine v_iload hx DX10_writeNumber_43 1 rfl ?_
    refine v_push hx DX10_writeNumber_44 ?_
    refine v_irem hx (by omega) (by decide) DX10_writeNumber_46 ?_
    refine v_iadd hx DX10_writeNumber_47 ?_
    refine v_cVv hx DX10_writeNumber_48 CVRX10_30 [iv (48 + (v % 10))] (w_add l G Λ sz m hW hm.1 (by omega)) hW.1 rfl rfl (Nat.le_of_ble_eq_true rfl) (by decide) ⟨Nat.le_refl _, Nat.le_refl _⟩ (fun μ1 hμ1 => ?_)
    exact v_rv hx hBD DX10_writeNumber_51 (⟨by have e : T ++ numT v = C ++ [48 + v % 10] := (by rw [hC]; unfold numT; simp); rw [e]; exact hμ1.1, hm.2.trans hμ1.2⟩)
  have L20 : ∀ (C : List Int) (m : Mem), (C = T ++ (if 100 ≤ v then [48 + v / 100 % 10] else [])) → (WA m ω C ∧ FrW ω μ m) → V G x (0, 0) Λ sz m 20 [(0, .ref ω), (1, iv v)] [] := by
    intro C m hC hm
    have lC : C.length ≤ T.length + 1 := by rw [hC]; split <;> simp
    refine v_iload hx DX10_writeNumber_20 1 rfl ?_
    refine v_push hx DX10_writeNumber_21 ?_
    refine v_icmp_lt hx DX10_writeNumber_23 (by omega) (by decide) (fun c23 => ?_) (fun c23 => ?_)
    · skip
      exact v_sub [0, 1] _ rfl (L40 C m (by rw [hC, if_neg (show ¬ 10 ≤ v by omega)]; simp) hm)
    · skip
      refine v_aload hx DX10_writeNumber_26 0 rfl ?_
      refine v_push hx DX10_writeNumber_27 ?_
      refine v_iload hx DX10_writeNumber_29 1 rfl ?_
      refine v_push hx DX10_writeNumber_30 ?_
      refine v_idiv hx (by omega) (by decide) DX10_writeNumber_32 ?_
      refine v_push hx DX10_writeNumber_33 ?_
      refine v_irem hx (by omega) (by decide) DX10_writeNumber_35 ?_
      refine v_iadd hx DX10_writeNumber_36 ?_
      refine v_cVv hx DX10_writeNumber_37 CVRX10_30 [iv (48 + ((v / 10) % 10))] (w_add l G Λ sz m hW hm.1 (by omega)) hW.1 rfl rfl (Nat.le_of_ble_eq_true rfl) (by decide) ⟨Nat.le_refl _, Nat.le_refl _⟩ (fun μ3 hμ3 => ?_)
      exact v_sub [0, 1] _ rfl (L40 (C ++ [48 + v / 10 % 10]) μ3 (by rw [hC, if_pos (show 10 ≤ v by omega)]) ⟨hμ3.1, hm.2.trans hμ3.2⟩)
  refine v_iload hx DX10_writeNumber_0 1 rfl ?_
  refine v_push hx DX10_writeNumber_1 ?_
  refine v_icmp_lt hx DX10_writeNumber_3 (by omega) (by decide) (fun c3 => ?_) (fun c3 => ?_)
  · skip
    exact v_sub [0, 1] _ rfl (L20 T μ (by rw [if_neg (by omega)]; simp) ⟨hT, Fr.rf⟩)
  · skip
    refine v_aload hx DX10_writeNumber_6 0 rfl ?_
    refine v_push hx DX10_writeNumber_7 ?_
    refine v_iload hx DX10_writeNumber_9 1 rfl ?_
    refine v_push hx DX10_writeNumber_10 ?_
    refine v_idiv hx (by omega) (by decide) DX10_writeNumber_12 ?_
    refine v_push hx DX10_writeNumber_13 ?_
    refine v_irem hx (by omega) (by decide) DX10_writeNumber_15 ?_
    refine v_iadd hx DX10_writeNumber_16 ?_
    refine v_cVv hx DX10_writeNumber_17 CVRX10_30 [iv (48 + ((v / 100) % 10))] (w_add l G Λ sz μ hW hT (by omega)) hW.1 rfl rfl (Nat.le_of_ble_eq_true rfl) (by decide) ⟨Nat.le_refl _, Nat.le_refl _⟩ (fun μ5 hμ5 => ?_)
    exact v_sub [0, 1] _ rfl (L20 (T ++ [48 + v / 100 % 10]) μ5 (by rw [if_pos (by omega)]) hμ5)
theorem w_term (l : Launch) (G : Gl) (Λ : Lay) (sz : Nat) (μ : Mem) {ω : Nat} {T : List Int} {c k : Int} (hW : writK Λ ω) (hT : WA μ ω T) (hc : 0 ≤ c ∧ c ≤ 100) (hk : 0 ≤ k ∧ k < 10) (hl : T.length + 9 ≤ 96) : Sp l G yX10_writeTerm cX10_writeTerm 3 none 2 [.ref ω, iv c, iv k] Λ sz μ (pV (fun μ' => WA μ' ω (T ++ termT c k) ∧ FrW ω μ μ')) := by
  refine Sp.intro (by decide) (Nat.le_of_ble_eq_true rfl) (fun x hx hBD => ?_)
  refine v_lv [(0, .ref ω), (1, iv c), (2, iv k)] rfl ?_
  have nc := (numT_len c).1
  have nk := (numT_len k).2 hk.2
  have L34 : ∀ (C : List Int) (m : Mem), (C = T ++ (if c ≠ 1 ∨ k = 0 then numT c ++ (if 0 < k then [42] else []) else []) ++ (if 0 < k then [120] else [])) → (C.length ≤ T.length + 5) → (WA m ω C ∧ FrW ω μ m) → V G x (0, 0) Λ sz m 34 [(0, .ref ω), (1, iv c), (2, iv k)] [] := by
    intro C m hC lC hm
    refine v_iload hx DX10_writeTerm_34 2 rfl ?_
    refine v_push hx DX10_writeTerm_35 ?_
    refine v_icmp_le hx DX10_writeTerm_36 (by omega) (by decide) (fun c36 => ?_) (fun c36 => ?_)
    · skip
      exact v_rv hx hBD DX10_writeTerm_50 (⟨by have e : T ++ termT c k = C := (by rw [hC]; unfold termT; rw [if_neg (show ¬ 1 < k by omega)]; simp); rw [e]; exact hm.1, hm.2⟩)
    · skip
      refine v_aload hx DX10_writeTerm_39 0 rfl ?_
      refine v_push hx DX10_writeTerm_40 ?_
      refine v_cVv hx DX10_writeTerm_42 CVRX10_30 [iv 94] (w_add l G Λ sz m hW hm.1 (by omega)) hW.1 rfl rfl (Nat.le_of_ble_eq_true rfl) (by decide) ⟨Nat.le_refl _, Nat.le_refl _⟩ (fun μ1 hμ1 => ?_)
      have h42 := hμ1
      refine v_aload hx DX10_writeTerm_45 0 rfl ?_
      refine v_iload hx DX10_writeTerm_46 2 rfl ?_
      refine v_cVv hx DX10_writeTerm_47 CVRX10_49 [iv k] (w_number l G Λ sz μ1 hW h42.1 (by omega) (by simp; omega)) hW.1 rfl rfl (Nat.le_of_ble_eq_true rfl) (by decide) ⟨Nat.le_refl _, Nat.le_refl _⟩ (fun μ3 hμ3 => ?_)
      exact v_rv hx hBD DX10_writeTerm_50 (⟨by have e : T ++ termT c k = C ++ [94] ++ numT k := (by rw [hC]; unfold termT; rw [if_pos (show 1 < k by omega)]; simp); rw [e]; exact hμ3.1, (hm.2.trans h42.2).trans hμ3.2⟩)
  have L24 : ∀ (C : List Int) (m : Mem), (C = T ++ (if c ≠ 1 ∨ k = 0 then numT c ++ (if 0 < k then [42] else []) else [])) → (WA m ω C ∧ FrW ω μ m) → V G x (0, 0) Λ sz m 24 [(0, .ref ω), (1, iv c), (2, iv k)] [] := by
    intro C m hC hm
    have lC : C.length ≤ T.length + 4 := by
      rw [hC]; split
      · split <;> simp <;> omega
      · simp
    refine v_iload hx DX10_writeTerm_24 2 rfl ?_
    refine v_if_le hx DX10_writeTerm_25 (by omega) (fun c25 => ?_) (fun c25 => ?_)
    · skip
      exact v_sub [0, 1, 2] _ rfl (L34 C m (by rw [hC, if_neg (show ¬ 0 < k by omega), if_neg (show ¬ 0 < k by omega)]; simp) (by omega) hm)
    · skip
      refine v_aload hx DX10_writeTerm_28 0 rfl ?_
      refine v_push hx DX10_writeTerm_29 ?_
      refine v_cVv hx DX10_writeTerm_31 CVRX10_30 [iv 120] (w_add l G Λ sz m hW hm.1 (by omega)) hW.1 rfl rfl (Nat.le_of_ble_eq_true rfl) (by decide) ⟨Nat.le_refl _, Nat.le_refl _⟩ (fun μ5 hμ5 => ?_)
      exact v_sub [0, 1, 2] _ rfl (L34 (C ++ [120]) μ5 (by rw [hC, if_pos (show 0 < k by omega), if_pos (show 0 < k by omega)]) (by simp; omega) ⟨hμ5.1, hm.2.trans hμ5.2⟩)
  have L9 : (c ≠ 1 ∨ k = 0) → V G x (0, 0) Λ sz μ 9 [(0, .ref ω), (1, iv c), (2, iv k)] [] := by
    intro h9
    refine v_aload hx DX10_writeTerm_9 0 rfl ?_
    refine v_iload hx DX10_writeTerm_10 1 rfl ?_
    refine v_cVv hx DX10_writeTerm_11 CVRX10_49 [iv c] (w_number l G Λ sz μ hW hT hc (by omega)) hW.1 rfl rfl (Nat.le_of_ble_eq_true rfl) (by decide) ⟨Nat.le_refl _, Nat.le_refl _⟩ (fun μ7 hμ7 => ?_)
    have h11 := hμ7
    refine v_iload hx DX10_writeTerm_14 2 rfl ?_
    refine v_if_le hx DX10_writeTerm_15 (by omega) (fun c15 => ?_) (fun c15 => ?_)
    · skip
      exact v_sub [0, 1, 2] _ rfl (L24 (T ++ numT c) μ7 (by rw [if_pos h9, if_neg (by omega)]; simp) hμ7)
    · skip
      refine v_aload hx DX10_writeTerm_18 0 rfl ?_
      refine v_push hx DX10_writeTerm_19 ?_
      refine v_cVv hx DX10_writeTerm_21 CVRX10_30 [iv 42] (w_add l G Λ sz μ7 hW h11.1 (by simp; omega)) hW.1 rfl rfl (Nat.le_of_ble_eq_true rfl) (by decide) ⟨Nat.le_refl _, Nat.le_refl _⟩ (fun μ9 hμ9 => ?_)
      exact v_sub [0, 1, 2] _ rfl (L24 (T ++ numT c ++ [42]) μ9 (by rw [if_pos h9, if_pos (by omega)]; simp) ⟨hμ9.1, h11.2.trans hμ9.2⟩)
  refine v_iload hx DX10_writeTerm_0 1 rfl ?_
  refine v_push hx DX10_writeTerm_1 ?_
  refine v_icmp_ne hx DX10_writeTerm_2 (by omega) (by decide) (fun c2 => ?_) (fun c2 => ?_)
  · skip
    exact v_sub [0, 1, 2] _ rfl (L9  (Or.inl c2))
  · skip
    refine v_iload hx DX10_writeTerm_5 2 rfl ?_
    refine v_if_ne hx DX10_writeTerm_6 (by omega) (fun c6 => ?_) (fun c6 => ?_)
    · skip
      exact v_sub [0, 1, 2] _ rfl (L24 T μ (by rw [if_neg (by omega)]; simp) ⟨hT, Fr.rf⟩)
    · skip
      exact v_sub [0, 1, 2] _ rfl (L9  (Or.inr (by omega)))
theorem w_poly (l : Launch) (G : Gl) (Λ : Lay) (sz : Nat) (μ : Mem) {ω : Nat} {T : List Int} {t : Nat} {p : PS} (hW : writK Λ ω) (hT : WA μ ω T) (hkp : polyK Λ t) (hP : PA μ t p) (hp : p.size < 10) (hl : (T.length : Int) + lb p.size + 7 ≤ 96) : Sp l G yX10_writePoly cX10_writePoly 4 none 3 [.ref ω, .ref t] Λ sz μ (pV (fun μ' => WA μ' ω (T ++ ptxt p) ∧ FrW ω μ μ')) := by
  refine Sp.intro (by decide) (Nat.le_of_ble_eq_true rfl) (fun x hx hBD => ?_)
  refine v_lv [(0, .ref ω), (1, .ref t)] rfl ?_
  have hlp := lb_pos p.size
  have l0 : lb 0 = 0 := rfl
  have L18 : ∀ (nf : Nat) (k : Int) (C : List Int) (m : Mem), (k + 1 < (nf : Int)) → (-1 ≤ k ∧ k < p.size) → (C ++ polyT p ((p.size : Int) - 1) (k + 1).toNat = T ++ ptxt p) → ((C.length : Int) + lb (k + 1) + 6 ≤ 96) → (WA m ω C ∧ FrW ω μ m) → V G x (0, 0) Λ sz m 18 [(2, iv k), (0, .ref ω), (1, .ref t)] [] := by
    intro nf
    induction nf with
    | zero => intro k C m hm hk hC hl2 hm; exact absurd hm (by omega)
    | succ nf ih =>
      intro k C m hm hk hC hl2 hm
      have hPm := hW.pa hkp hm.2 hP
      have hcr := ca_rng p k
      have hlk := lb_pos k
      refine v_iload hx DX10_writePoly_18 0 rfl ?_
      refine v_if_lt hx DX10_writePoly_19 (by omega) (fun c19 => ?_) (fun c19 => ?_)
      · skip
        exact v_rv hx hBD DX10_writePoly_58 (⟨by rw [← hC, show (k + 1).toNat = 0 by omega]; simp [polyT]; exact hm.1, hm.2⟩)
      · skip
        have hl4 := lb_four (k := k) (by omega)
        have hp1 : polyT p ((p.size : Int) - 1) (k + 1).toNat = (if p k.toNat = 0 then [] else (if k < (p.size : Int) - 1 then [43] else []) ++ termT (cf p k) k) ++ polyT p ((p.size : Int) - 1) k.toNat := by
          rw [show (k + 1).toNat = k.toNat + 1 by omega, polyT, Int.toNat_of_nonneg (by omega)]
        have hls := lb_step (c := ca p k) (k := k) (by omega) (by omega)
        refine v_aload hx DX10_writePoly_22 2 rfl ?_
        refine v_iload hx DX10_writePoly_23 0 rfl ?_
        refine v_cVp hx DX10_writePoly_24 CVRX10_41 [iv k] (s_at l G Λ sz m hkp hPm (by omega)) hkp.1 rfl rfl (Nat.le_of_ble_eq_true rfl) (by decide) ⟨Nat.le_refl _, Nat.le_refl _⟩ ?_
        refine v_istore hx DX10_writePoly_27 [(3, iv (ca p k)), (2, iv k), (0, .ref ω), (1, .ref t)] rfl (by decide) ?_
        refine v_iload hx DX10_writePoly_28 0 rfl ?_
        refine v_if_eq hx DX10_writePoly_29 (by omega) (fun c29 => ?_) (fun c29 => ?_)
        · skip
          have hz0 : p k.toNat = 0 := by rw [ca_of (by omega), cf_zero] at c29; exact c29
          refine v_iinc hx DX10_writePoly_52 1 rfl [(2, iv (k + (-1))), (3, iv (ca p k)), (0, .ref ω), (1, .ref t)] rfl (by decide) ?_
          refine v_goto hx DX10_writePoly_55 ?_
          exact v_sub [0, 2, 3] _ rfl (ih (k + (-1)) C m (by omega) (by omega) (by rw [show (k + (-1) + 1).toNat = k.toNat by omega, ← hC, hp1, if_pos hz0]; rfl) (by have := lb_mono k; rw [show k + (-1) + 1 = k by omega]; omega) hm)
        · skip
          have hz0 : ¬ p k.toNat = 0 := fun q => c29 (by rw [ca_of (by omega), cf_zero]; exact q)
          refine v_iload hx DX10_writePoly_32 1 rfl ?_
          refine v_aload hx DX10_writePoly_33 3 rfl ?_
          refine v_get hx DX10_writePoly_34 FLRX10_25 hkp.1 (fv_i rfl hPm.2 : _ = iv ((p.size : Int) - 1)) ?_
          refine v_icmp_ge hx DX10_writePoly_37 (by omega) (by omega) (fun c37 => ?_) (fun c37 => ?_)
          · skip
            refine v_aload hx DX10_writePoly_46 2 rfl ?_
            refine v_iload hx DX10_writePoly_47 0 rfl ?_
            refine v_iload hx DX10_writePoly_48 1 rfl ?_
            refine v_cVv hx DX10_writePoly_49 CVRX10_45 [iv (ca p k), iv k] (w_term l G Λ sz m hW hm.1 (by omega) (by omega) (by first | omega | (simp only [List.length_append, List.length_cons, List.length_nil]; omega))) hW.1 rfl rfl (Nat.le_of_ble_eq_true rfl) (by decide) ⟨Nat.le_refl _, Nat.le_refl _⟩ (fun μ3 hμ3 => ?_)
            refine v_iinc hx DX10_writePoly_52 1 rfl [(2, iv (k + (-1))), (3, iv (ca p k)), (0, .ref ω), (1, .ref t)] rfl (by decide) ?_
            refine v_goto hx DX10_writePoly_55 ?_
            exact v_sub [0, 2, 3] _ rfl (ih (k + (-1)) (C ++ termT (ca p k) k) μ3 (by omega) (by omega) (by rw [show (k + (-1) + 1).toNat = k.toNat by omega, ← hC, hp1, if_neg hz0, if_neg (show ¬ k < (p.size : Int) - 1 by omega), ca_of (by omega)]; simp) (by rw [show k + (-1) + 1 = k by omega]; simp only [List.length_append]; omega) ⟨hμ3.1, hm.2.trans hμ3.2⟩)
          · skip
            refine v_aload hx DX10_writePoly_40 2 rfl ?_
            refine v_push hx DX10_writePoly_41 ?_
            refine v_cVv hx DX10_writePoly_43 CVRX10_30 [iv 43] (w_add l G Λ sz m hW hm.1 (by omega)) hW.1 rfl rfl (Nat.le_of_ble_eq_true rfl) (by decide) ⟨Nat.le_refl _, Nat.le_refl _⟩ (fun μ5 hμ5 => ?_)
            have h43 := hμ5
            refine v_aload hx DX10_writePoly_46 2 rfl ?_
            refine v_iload hx DX10_writePoly_47 0 rfl ?_
            refine v_iload hx DX10_writePoly_48 1 rfl ?_
            refine v_cVv hx DX10_writePoly_49 CVRX10_45 [iv (ca p k), iv k] (w_term l G Λ sz μ5 hW h43.1 (by omega) (by omega) (by first | omega | (simp only [List.length_append, List.length_cons, List.length_nil]; omega))) hW.1 rfl rfl (Nat.le_of_ble_eq_true rfl) (by decide) ⟨Nat.le_refl _, Nat.le_refl _⟩ (fun μ7 hμ7 => ?_)
            refine v_iinc hx DX10_writePoly_52 1 rfl [(2, iv (k + (-1))), (3, iv (ca p k)), (0, .ref ω), (1, .ref t)] rfl (by decide) ?_
            refine v_goto hx DX10_writePoly_55 ?_
            exact v_sub [0, 2, 3] _ rfl (ih (k + (-1)) (C ++ [43] ++ termT (ca p k) k) μ7 (by omega) (by omega) (by rw [show (k + (-1) + 1).toNat = k.toNat by omega, ← hC, hp1, if_neg hz0, if_pos (show k < (p.size : Int) - 1 by omega), ca_of (by omega)]; simp) (by rw [show k + (-1) + 1 = k by omega]; simp only [List.length_append, List.length_cons, List.length_nil]; omega) ⟨hμ7.1, (hm.2.trans h43.2).trans hμ7.2⟩)
  have L13 : ∀ (C : List Int) (m : Mem), ((p.size = 0 ∧ C = T ++ [48]) ∨ (p.size ≠ 0 ∧ C = T)) → (WA m ω C ∧ FrW ω μ m) → V G x (0, 0) Λ sz m 13 [(0, .ref ω), (1, .ref t)] [] := by
    intro C m hC hm
    have hPm := hW.pa hkp hm.2 hP
    have hE : C ++ polyT p ((p.size : Int) - 1) p.size = T ++ ptxt p := by
      unfold ptxt
      rcases hC with ⟨e, e2⟩ | ⟨e, e2⟩
      · rw [if_pos e, e2, e, polyT, List.append_nil]
      · rw [if_neg e, e2]
    have hE2 : (C.length : Int) + lb p.size + 6 ≤ 96 := by
      rcases hC with ⟨e, e2⟩ | ⟨e, e2⟩
      · rw [e2]; simp only [List.length_append, List.length_cons, List.length_nil]; omega
      · rw [e2]; omega
    refine v_aload hx DX10_writePoly_13 1 rfl ?_
    refine v_get hx DX10_writePoly_14 FLRX10_25 hkp.1 (fv_i rfl hPm.2 : _ = iv ((p.size : Int) - 1)) ?_
    refine v_istore hx DX10_writePoly_17 [(2, iv ((p.size : Int) - 1)), (0, .ref ω), (1, .ref t)] rfl (by decide) ?_
    exact v_sub [0, 1, 2] _ rfl (L18 100 ((p.size : Int) - 1) C m (by omega) (by omega) (by rw [show ((p.size : Int) - 1 + 1).toNat = p.size by omega]; exact hE) (by rw [show (p.size : Int) - 1 + 1 = p.size by omega]; exact hE2) hm)
  refine v_aload hx DX10_writePoly_0 1 rfl ?_
  refine v_get hx DX10_writePoly_1 FLRX10_25 hkp.1 (fv_i rfl hP.2 : _ = iv ((p.size : Int) - 1)) ?_
  refine v_if_ge hx DX10_writePoly_4 (by omega) (fun c4 => ?_) (fun c4 => ?_)
  · skip
    exact v_sub [0, 1] _ rfl (L13 T μ (Or.inr ⟨by omega, rfl⟩) ⟨hT, Fr.rf⟩)
  · skip
    refine v_aload hx DX10_writePoly_7 0 rfl ?_
    refine v_push hx DX10_writePoly_8 ?_
    refine v_cVv hx DX10_writePoly_10 CVRX10_30 [iv 48] (w_add l G Λ sz μ hW hT (by omega)) hW.1 rfl rfl (Nat.le_of_ble_eq_true rfl) (by decide) ⟨Nat.le_refl _, Nat.le_refl _⟩ (fun μ9 hμ9 => ?_)
    exact v_sub [0, 1] _ rfl (L13 (T ++ [48]) μ9 (Or.inl ⟨by omega, rfl⟩) hμ9)
theorem w_frac (l : Launch) (G : Gl) (Λ : Lay) (sz : Nat) (μ : Mem) {ω f : Nat} {T : List Int} {N D : PS} (hW : writK Λ ω) (hT : WA μ ω T) (hF : fracK Λ f) (hN : PA μ (f + 1) N) (hD : PA μ (f + 3) D) (sN : N.size ≤ 7) (sD : D.size ≤ 5) : Sp l G yX10_writeFraction cX10_writeFraction 3 none 4 [.ref ω, .ref f] Λ sz μ (pV (fun μ' => WA μ' ω (ftxt N D) ∧ FrW ω μ μ')) := by
  refine Sp.intro (by decide) (Nat.le_of_ble_eq_true rfl) (fun x hx hBD => ?_)
  refine v_lv [(0, .ref ω), (1, .ref f)] rfl ?_
  have lN : lb N.size ≤ 50 := lb_le (by omega)
  have lD : lb D.size ≤ 34 := lb_le5 (by omega)
  have tN := ptxt_len (p := N) (by omega)
  have tD := ptxt_len (p := D) (by omega)
  refine v_aload hx DX10_writeFraction_0 0 rfl ?_
  refine v_push hx DX10_writeFraction_1 ?_
  refine v_pI hx DX10_writeFraction_2 FPRX10_15 hW.1 rfl (ki := 1) rfl (fun μ1 eμ1 => ?_)
  have h0 : WA μ1 ω [] ∧ FrW ω μ μ1 := ⟨⟨by simp, by rw [eμ1, mI_at2 rfl]; rfl, fun i hi => by simp at hi⟩, by rw [eμ1]; exact Fr.mI (by simp)⟩
  have hN0 := hW.pa hF.2.1 h0.2 hN
  have hD0 := hW.pa hF.2.2 h0.2 hD
  refine v_aload hx DX10_writeFraction_5 1 rfl ?_
  refine v_get hx DX10_writeFraction_6 FLRX10_19 hF.1 (v := .ref (f + 3)) rfl ?_
  refine v_get hx DX10_writeFraction_9 FLRX10_25 hF.2.2.1 (fv_i rfl hD0.2 : _ = iv ((D.size : Int) - 1)) ?_
  refine v_if_ne hx DX10_writeFraction_12 (by omega) (fun c12 => ?_) (fun c12 => ?_)
  · skip
    refine v_push hx DX10_writeFraction_19 ?_
    refine v_istore hx DX10_writeFraction_20 [(2, iv 0), (0, .ref ω), (1, .ref f)] rfl (by decide) ?_
    refine v_iload hx DX10_writeFraction_21 0 rfl ?_
    refine v_if_ne hx DX10_writeFraction_22 (by decide) (fun c22 => ?_) (fun c22 => ?_)
    · exact absurd c22 (by decide)
    · skip
      refine v_aload hx DX10_writeFraction_25 1 rfl ?_
      refine v_push hx DX10_writeFraction_26 ?_
      refine v_cVv hx DX10_writeFraction_28 CVRX10_30 [iv 40] (w_add l G Λ sz μ1 hW h0.1 (by decide)) hW.1 rfl rfl (Nat.le_of_ble_eq_true rfl) (by decide) ⟨Nat.le_refl _, Nat.le_refl _⟩ (fun μ2 hμ2 => ?_)
      have h28 := hμ2
      have hN1 := hW.pa hF.2.1 h28.2 hN0
      refine v_aload hx DX10_writeFraction_31 1 rfl ?_
      refine v_aload hx DX10_writeFraction_32 2 rfl ?_
      refine v_get hx DX10_writeFraction_33 FLRX10_34 hF.1 (v := .ref (f + 1)) rfl ?_
      refine v_cVv hx DX10_writeFraction_36 CVRX10_37 [.ref (f + 1)] (w_poly l G Λ sz μ2 hW h28.1 hF.2.1 hN1 (by omega) (by simp; omega)) hW.1 rfl rfl (Nat.le_of_ble_eq_true rfl) (by decide) ⟨Nat.le_refl _, Nat.le_refl _⟩ (fun μ4 hμ4 => ?_)
      have h36 := hμ4
      refine v_iload hx DX10_writeFraction_39 0 rfl ?_
      refine v_if_ne hx DX10_writeFraction_40 (by decide) (fun c40 => ?_) (fun c40 => ?_)
      · exact absurd c40 (by decide)
      · skip
        refine v_aload hx DX10_writeFraction_43 1 rfl ?_
        refine v_push hx DX10_writeFraction_44 ?_
        refine v_cVv hx DX10_writeFraction_46 CVRX10_30 [iv 41] (w_add l G Λ sz μ4 hW h36.1 (by simp; omega)) hW.1 rfl rfl (Nat.le_of_ble_eq_true rfl) (by decide) ⟨Nat.le_refl _, Nat.le_refl _⟩ (fun μ6 hμ6 => ?_)
        have h46 := hμ6
        refine v_aload hx DX10_writeFraction_49 1 rfl ?_
        refine v_push hx DX10_writeFraction_50 ?_
        refine v_cVv hx DX10_writeFraction_52 CVRX10_30 [iv 47] (w_add l G Λ sz μ6 hW h46.1 (by simp; omega)) hW.1 rfl rfl (Nat.le_of_ble_eq_true rfl) (by decide) ⟨Nat.le_refl _, Nat.le_refl _⟩ (fun μ8 hμ8 => ?_)
        have h52 := hμ8
        refine v_aload hx DX10_writeFraction_55 1 rfl ?_
        refine v_push hx DX10_writeFraction_56 ?_
        refine v_cVv hx DX10_writeFraction_58 CVRX10_30 [iv 40] (w_add l G Λ sz μ8 hW h52.1 (by simp; omega)) hW.1 rfl rfl (Nat.le_of_ble_eq_true rfl) (by decide) ⟨Nat.le_refl _, Nat.le_refl _⟩ (fun μ10 hμ10 => ?_)
        have h58 := hμ10
        have hD5 := hW.pa hF.2.2 h58.2 (hW.pa hF.2.2 h52.2 (hW.pa hF.2.2 h46.2 (hW.pa hF.2.2 h36.2 (hW.pa hF.2.2 h28.2 hD0))))
        refine v_aload hx DX10_writeFraction_61 1 rfl ?_
        refine v_aload hx DX10_writeFraction_62 2 rfl ?_
        refine v_get hx DX10_writeFraction_63 FLRX10_19 hF.1 (v := .ref (f + 3)) rfl ?_
        refine v_cVv hx DX10_writeFraction_66 CVRX10_37 [.ref (f + 3)] (w_poly l G Λ sz μ10 hW h58.1 hF.2.2 hD5 (by omega) (by simp; omega)) hW.1 rfl rfl (Nat.le_of_ble_eq_true rfl) (by decide) ⟨Nat.le_refl _, Nat.le_refl _⟩ (fun μ12 hμ12 => ?_)
        have h66 := hμ12
        refine v_aload hx DX10_writeFraction_69 1 rfl ?_
        refine v_push hx DX10_writeFraction_70 ?_
        refine v_cVv hx DX10_writeFraction_72 CVRX10_30 [iv 41] (w_add l G Λ sz μ12 hW h66.1 (by simp; omega)) hW.1 rfl rfl (Nat.le_of_ble_eq_true rfl) (by decide) ⟨Nat.le_refl _, Nat.le_refl _⟩ (fun μ14 hμ14 => ?_)
        exact v_rv hx hBD DX10_writeFraction_75 (⟨by have e : ftxt N D = [] ++ [40] ++ ptxt N ++ [41] ++ [47] ++ [40] ++ ptxt D ++ [41] := (by unfold ftxt; rw [if_neg (by omega)]; simp); rw [e]; exact hμ14.1, ((((((h0.2.trans h28.2).trans h36.2).trans h46.2).trans h52.2).trans h58.2).trans h66.2).trans hμ14.2⟩)
  · skip
    refine v_push hx DX10_writeFraction_15 ?_
    refine v_goto hx DX10_writeFraction_16 ?_
    refine v_istore hx DX10_writeFraction_20 [(2, iv 1), (0, .ref ω), (1, .ref f)] rfl (by decide) ?_
    refine v_iload hx DX10_writeFraction_21 0 rfl ?_
    refine v_if_ne hx DX10_writeFraction_22 (by decide) (fun c22 => ?_) (fun c22 => ?_)
    · skip
      refine v_aload hx DX10_writeFraction_31 1 rfl ?_
      refine v_aload hx DX10_writeFraction_32 2 rfl ?_
      refine v_get hx DX10_writeFraction_33 FLRX10_34 hF.1 (v := .ref (f + 1)) rfl ?_
      refine v_cVv hx DX10_writeFraction_36 CVRX10_37 [.ref (f + 1)] (w_poly l G Λ sz μ1 hW h0.1 hF.2.1 hN0 (by omega) (by simp; omega)) hW.1 rfl rfl (Nat.le_of_ble_eq_true rfl) (by decide) ⟨Nat.le_refl _, Nat.le_refl _⟩ (fun μ16 hμ16 => ?_)
      refine v_iload hx DX10_writeFraction_39 0 rfl ?_
      refine v_if_ne hx DX10_writeFraction_40 (by decide) (fun c40 => ?_) (fun c40 => ?_)
      · skip
        exact v_rv hx hBD DX10_writeFraction_75 (⟨by have e : ftxt N D = [] ++ ptxt N := (by unfold ftxt; rw [if_pos (by omega)]; rfl); rw [e]; exact hμ16.1, h0.2.trans hμ16.2⟩)
      · exact absurd c40 (by decide)
    · exact absurd c22 (by decide)
