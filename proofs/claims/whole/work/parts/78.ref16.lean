/-! ===== the reference's history and image ===== -/
def RHx (μ : Mem) (a ν : Nat) (fm fa : Int) (h : Hs) : Prop := ∃ (B : Nat → Bd) (nx : Nat), nx < 6 ∧ h.1 ≤ 6 ∧ μ.1 ν fm = (h.1 : Int) ∧ μ.1 ν fa = (nx : Int) ∧ (∀ k : Nat, k < 6 → RwA μ a (192 * (k : Int)) (B k)) ∧ ∀ i, i < h.1 → h.2 i = B ((nx + 5 - i) % 6)
abbrev RH (μ : Mem) (ν : Nat) (h : Hs) : Prop := RHx μ (ν + 4) ν 5 6 h
def RI (μ : Mem) (ν : Nat) (g : Option (Bd × Hs)) : Prop := match g with
  | none => μ.1 ν 8 = 0
  | some (b, h) => μ.1 ν 8 = 1 ∧ RwA μ (ν + 5) 1152 b ∧ RHx μ (ν + 5) ν 9 10 h
theorem RHx.fr {μ μ' : Mem} {a ν : Nat} {fm fa : Int} {h : Hs} (hh : RHx μ a ν fm fa h) (e : ∀ j : Int, 0 ≤ j → j < 1152 → μ'.1 a j = μ.1 a j) (e1 : μ'.1 ν fm = μ.1 ν fm) (e2 : μ'.1 ν fa = μ.1 ν fa) : RHx μ' a ν fm fa h := by
  obtain ⟨B, nx, h1, h2, h3, h4, h5, h6⟩ := hh
  exact ⟨B, nx, h1, h2, by rw [e1]; exact h3, by rw [e2]; exact h4, fun k hk => (h5 k hk).fr (fun j g0 g1 => e j (by omega) (by omega)), h6⟩
theorem RH.frN {μ μ' : Mem} {ν : Nat} {h : Hs} {S : List Nat} {J : List Int} (hh : RH μ ν h) (f : FrN ν S J μ μ') (h1 : ν + 4 ∉ S) (h2 : 5 ∉ J) (h3 : 6 ∉ J) : RH μ' ν h := hh.fr (fun j _ _ => by rw [f.1 _ (by omega) h1]) (f.2.1 _ h2) (f.2.1 _ h3)
theorem RI.frN {μ μ' : Mem} {ν : Nat} {g : Option (Bd × Hs)} {S : List Nat} {J : List Int} (hh : RI μ ν g) (f : FrN ν S J μ μ') (h1 : ν + 5 ∉ S) (h2 : 8 ∉ J) (h3 : 9 ∉ J) (h4 : 10 ∉ J) : RI μ' ν g := by
  unfold RI at hh ⊢
  split at hh
  · show μ'.1 ν 8 = 0
    rw [f.2.1 _ h2]; exact hh
  · refine ⟨by rw [f.2.1 _ h2]; exact hh.1, hh.2.1.fr (fun j _ _ => by rw [f.1 _ (by omega) h1]), hh.2.2.fr (fun j _ _ => by rw [f.1 _ (by omega) h1]) (f.2.1 _ h3) (f.2.1 _ h4)⟩
theorem RA.frN {μ μ' : Mem} {ν : Nat} {ρ : Nat → PS} {b : Bd} {S : List Nat} {J : List Int} (hh : RA μ ν ρ b) (f : FrN ν S J μ μ') (h1 : ν + 1 ∉ S) (h2 : ν + 3 ∉ S) (h3 : 2 ∉ J) (h4 : 4 ∉ J) : RA μ' ν ρ b :=
  ⟨hh.1.fr (f.1 _ (by omega) h1), hh.2.1, hh.2.2.1, fun j g0 g1 => by rw [f.1 _ (by omega) h2]; exact hh.2.2.2.1 j g0 g1, by rw [f.2.1 _ h3]; exact hh.2.2.2.2.1, by rw [f.2.1 _ h4]; exact hh.2.2.2.2.2⟩
theorem FrA.n {ν a : Nat} {o e : Int} {S : List Nat} {J : List Int} {μ m : Mem} (h : FrA a o e μ m) (h1 : a ∈ S) (h2 : a ≠ ν) : FrN ν S J μ m := ⟨fun b _ q => h.1 b (fun z => q (z ▸ h1)), fun j _ => by rw [h.1 ν (Ne.symm h2)], h.2.2⟩
theorem rh_push {μ m m1 m2 : Mem} {ν : Nat} {h : Hs} {b : Bd} {B : Nat → Bd} {nx : Nat} (q1 : nx < 6) (q2 : h.1 ≤ 6) (q5 : ∀ k : Nat, k < 6 → RwA μ (ν + 4) (192 * (k : Int)) (B k)) (q6 : ∀ i, i < h.1 → h.2 i = B ((nx + 5 - i) % 6))
    (hb : RwA m (ν + 4) (192 * (nx : Int)) b) (hf : FrA (ν + 4) (192 * (nx : Int)) (192 * (nx : Int) + 186) μ m) (e1 : m1 = mI m ν 6 (((nx : Int) + 1) % 6)) (e2 : m2 = mI m1 ν 5 (min ((h.1 : Int) + 1) 6)) : RH m2 ν (h.push b) ∧ FrN ν [ν + 4] [5, 6] μ m2 := by
  have f2 : FrN ν [ν + 4] [5, 6] m m2 := by rw [e2, e1]; exact (FrN.wJ (by simp)).trans (FrN.wJ (by simp))
  have f3 : m2.1 (ν + 4) = m.1 (ν + 4) := by rw [e2, mI_ne (by omega), e1, mI_ne (by omega)]
  refine ⟨⟨fun k => if k = nx then b else B k, (nx + 1) % 6, by omega, by show min (h.1 + 1) 6 ≤ 6; omega, ?_, ?_, fun k hk => ?_, fun i hi => ?_⟩, (hf.n (by simp) (by omega)).trans f2⟩
  · rw [e2, mI_at, if_pos rfl]
    show min ((h.1 : Int) + 1) 6 = ((min (h.1 + 1) 6 : Nat) : Int)
    omega
  · rw [e2, mI_at, if_neg (by omega), e1, mI_at, if_pos rfl]; omega
  · by_cases c : k = nx
    · subst c
      show RwA m2 _ _ (if k = k then b else B k)
      rw [if_pos rfl]
      exact hb.fr (fun j _ _ => by rw [f3])
    · show RwA m2 _ _ (if k = nx then b else B k)
      rw [if_neg c]
      exact (q5 k hk).fr (fun j g0 g1 => by rw [f3, hf.2.1 j (by omega)])
  · have hi2 : i < min (h.1 + 1) 6 := hi
    show (if i = 0 then b else h.2 (i - 1)) = if ((nx + 1) % 6 + 5 - i) % 6 = nx then b else B (((nx + 1) % 6 + 5 - i) % 6)
    by_cases c : i = 0
    · rw [if_pos c, if_pos (by omega)]
    · rw [if_neg c, if_neg (by omega), q6 (i - 1) (by omega)]
      congr 1
      omega
theorem r_remembers (l : Launch) (G : Gl) (Λ : Lay) (sz : Nat) (μ : Mem) {ν : Nat} {ρ : Nat → PS} {b : Bd} {h : Hs} (hR : refK Λ ν) (ha : RA μ ν ρ b) (hh : RH μ ν h) : Sp l G yX12_remembers cX12_remembers 1 none 2 [.ref ν] Λ sz μ (pV (fun μ' => RH μ' ν (h.push b) ∧ FrN ν [ν + 4] [5, 6] μ μ')) := by
  refine Sp.intro (by decide) (Nat.le_of_ble_eq_true rfl) (fun x hx hBD => ?_)
  refine v_lv [(0, .ref ν)] rfl ?_
  obtain ⟨B, nx, q1, q2, q3, q4, q5, q6⟩ := hh
  refine v_aload hx DX12_remembers_0 0 rfl ?_
  refine v_aload hx DX12_remembers_1 0 rfl ?_
  refine v_get hx DX12_remembers_2 FLRX12_75 hR.o (v := .ref (ν + 4)) rfl ?_
  refine v_push hx DX12_remembers_5 ?_
  refine v_aload hx DX12_remembers_8 0 rfl ?_
  refine v_get hx DX12_remembers_9 FLRX12_128 hR.o (fv_i rfl q4 : _ = iv (nx : Int)) ?_
  refine v_imul hx DX12_remembers_12 ?_
  refine v_cVv hx DX12_remembers_13 CVRX12_131 [.ref (ν + 4), iv (192 * (nx : Int))] (r_laysRow (a := ν + 4) (c := 1152) (o := 192 * (nx : Int)) l G Λ sz μ hR ha hR.undos (by omega) (by omega)) hR.o rfl rfl (Nat.le_of_ble_eq_true rfl) (by decide) ⟨Nat.le_refl _, Nat.le_refl _⟩ (fun μ1 hμ1 => ?_)
  have h13 := hμ1
  refine v_aload hx DX12_remembers_16 0 rfl ?_
  refine v_aload hx DX12_remembers_17 0 rfl ?_
  refine v_get hx DX12_remembers_18 FLRX12_128 hR.o (fv_i rfl ((congrFun (h13.2.1 ν (by omega)) 6).trans q4) : _ = iv (nx : Int)) ?_
  refine v_push hx DX12_remembers_21 ?_
  refine v_iadd hx DX12_remembers_22 ?_
  refine v_push hx DX12_remembers_23 ?_
  refine v_irem hx (by omega) (by decide) DX12_remembers_25 ?_
  refine v_pI hx DX12_remembers_26 FPRX12_128 hR.o rfl (ki := 6) rfl (fun μ3 eμ3 => ?_)
  refine v_aload hx DX12_remembers_29 0 rfl ?_
  refine v_dup hx DX12_remembers_30 rfl ?_
  refine v_get hx DX12_remembers_31 FLRX12_135 hR.o (fv_i rfl (by rw [eμ3, mI_at, if_neg (by omega)]; exact (congrFun (h13.2.1 ν (by omega)) 5).trans q3) : _ = iv (h.1 : Int)) ?_
  refine v_aload hx DX12_remembers_34 0 rfl ?_
  refine v_get hx DX12_remembers_35 FLRX12_135 hR.o (fv_i rfl (by rw [eμ3, mI_at, if_neg (by omega)]; exact (congrFun (h13.2.1 ν (by omega)) 5).trans q3) : _ = iv (h.1 : Int)) ?_
  refine v_push hx DX12_remembers_38 ?_
  refine v_icmp_ge hx DX12_remembers_40 (by omega) (by decide) (fun c40 => ?_) (fun c40 => ?_)
  · skip
    refine v_push hx DX12_remembers_47 ?_
    refine v_iadd hx DX12_remembers_48 ?_
    refine v_pI hx DX12_remembers_49 FPRX12_135 hR.o rfl (ki := 5) rfl (fun μ4 eμ4 => ?_)
    exact v_rv hx hBD DX12_remembers_52 (rh_push q1 q2 q5 q6 h13.1 h13.2 eμ3 (by rw [eμ4]; congr 1; omega))
  · skip
    refine v_push hx DX12_remembers_43 ?_
    refine v_goto hx DX12_remembers_44 ?_
    refine v_iadd hx DX12_remembers_48 ?_
    refine v_pI hx DX12_remembers_49 FPRX12_135 hR.o rfl (ki := 5) rfl (fun μ5 eμ5 => ?_)
    exact v_rv hx hBD DX12_remembers_52 (rh_push q1 q2 q5 q6 h13.1 h13.2 eμ3 (by rw [eμ5]; congr 1; omega))
theorem r_undo (l : Launch) (G : Gl) (Λ : Lay) (sz : Nat) (μ : Mem) {ν : Nat} {ρ : Nat → PS} {b : Bd} {h : Hs} (hR : refK Λ ν) (ha : RA μ ν ρ b) (hh : RH μ ν h) : Sp l G yX12_undo cX12_undo 1 (some FieldType.int) 4 [.ref ν] Λ sz μ (pI (fun z μ' => (z = -4 ∧ h.1 = 0 ∧ μ' = μ) ∨ (z = (h.1 : Int) - 1 ∧ h.1 ≠ 0 ∧ RH μ' ν h.pop ∧ (∃ σ, RA μ' ν σ (h.2 0)) ∧ FrN ν [ν + 1, ν + 3] [2, 4, 5, 6] μ μ'))) := by
  refine Sp.intro (by decide) (Nat.le_of_ble_eq_true rfl) (fun x hx hBD => ?_)
  refine v_lv [(0, .ref ν)] rfl ?_
  obtain ⟨B, nx, q1, q2, q3, q4, q5, q6⟩ := hh
  refine v_aload hx DX12_undo_0 0 rfl ?_
  refine v_get hx DX12_undo_1 FLRX12_135 hR.o (fv_i rfl q3 : _ = iv (h.1 : Int)) ?_
  refine v_if_ne hx DX12_undo_4 (by omega) (fun c4 => ?_) (fun c4 => ?_)
  · skip
    refine v_aload hx DX12_undo_10 0 rfl ?_
    refine v_aload hx DX12_undo_11 0 rfl ?_
    refine v_get hx DX12_undo_12 FLRX12_128 hR.o (fv_i rfl q4 : _ = iv (nx : Int)) ?_
    refine v_push hx DX12_undo_15 ?_
    refine v_iadd hx DX12_undo_17 ?_
    refine v_push hx DX12_undo_18 ?_
    refine v_isub hx DX12_undo_19 ?_
    refine v_push hx DX12_undo_20 ?_
    refine v_irem hx (by omega) (by decide) DX12_undo_22 ?_
    refine v_pI hx DX12_undo_23 FPRX12_128 hR.o rfl (ki := 6) rfl (fun μ1 eμ1 => ?_)
    refine v_aload hx DX12_undo_26 0 rfl ?_
    refine v_dup hx DX12_undo_27 rfl ?_
    refine v_get hx DX12_undo_28 FLRX12_135 hR.o (fv_i rfl (by rw [eμ1, mI_at, if_neg (by omega)]; exact q3) : _ = iv (h.1 : Int)) ?_
    refine v_push hx DX12_undo_31 ?_
    refine v_isub hx DX12_undo_32 ?_
    refine v_pI hx DX12_undo_33 FPRX12_135 hR.o rfl (ki := 5) rfl (fun μ2 eμ2 => ?_)
    refine v_aload hx DX12_undo_36 0 rfl ?_
    refine v_aload hx DX12_undo_37 0 rfl ?_
    refine v_get hx DX12_undo_38 FLRX12_75 hR.o (v := .ref (ν + 4)) rfl ?_
    refine v_push hx DX12_undo_41 ?_
    refine v_aload hx DX12_undo_44 0 rfl ?_
    refine v_get hx DX12_undo_45 FLRX12_128 hR.o (fv_i rfl (by rw [eμ2, mI_at, if_neg (by omega), eμ1, mI_at, if_pos (by omega)]) : _ = iv (((nx : Int) + 6 - 1) % 6)) ?_
    refine v_imul hx DX12_undo_48 ?_
    refine v_cVv hx DX12_undo_49 CVRX12_138 [.ref (ν + 4), iv (192 * (((nx : Int) + 6 - 1) % 6))] (r_fromRow (a := ν + 4) (c := 1152) (o := 192 * (((nx : Int) + 6 - 1) % 6)) (b := h.2 0) l G Λ sz μ2 hR (ha.1.fr (by rw [eμ2, mI_ne (by omega), eμ1, mI_ne (by omega)])) (by rw [q6 0 (by omega), show ((nx : Int) + 6 - 1) % 6 = (((nx + 5 - 0) % 6 : Nat) : Int) by omega]; exact (q5 _ (by omega)).fr (fun j _ _ => by rw [eμ2, mI_ne (by omega), eμ1, mI_ne (by omega)])) hR.undos (by omega) (by omega)) hR.o rfl rfl (Nat.le_of_ble_eq_true rfl) (by decide) ⟨Nat.le_refl _, Nat.le_refl _⟩ (fun μ3 hμ3 => ?_)
    have h49 := hμ3
    refine v_aload hx DX12_undo_52 0 rfl ?_
    refine v_get hx DX12_undo_53 FLRX12_135 hR.o (fv_i rfl (by obtain ⟨σ, hs1, hs2, hs3⟩ := h49; exact (hs3.2.1 5 (by simp)).trans (by rw [eμ2, mI_at, if_pos (by omega)])) : _ = iv ((h.1 : Int) - 1)) ?_
    exact v_ri hx hBD DX12_undo_56 (by obtain ⟨σ, hs1, hs2, hs3⟩ := h49; exact Or.inr ⟨rfl, by omega, ⟨B, (nx + 5) % 6, by omega, by show h.1 - 1 ≤ 6; omega, by rw [hs3.2.1 5 (by simp), eμ2, mI_at, if_pos (by omega)]; show _ = ((h.1 - 1 : Nat) : Int); omega, by rw [hs3.2.1 6 (by simp), eμ2, mI_at, if_neg (by omega), eμ1, mI_at, if_pos (by omega)]; omega, fun k hk => (q5 k hk).fr (fun j _ _ => by rw [hs3.1 _ (by omega) (by simp), eμ2, mI_ne (by omega), eμ1, mI_ne (by omega)]), fun i hi => by have hi2 : i < h.1 - 1 := hi; show h.2 (i + 1) = _; rw [q6 (i + 1) (by omega)]; congr 1; omega⟩, ⟨σ, hs1⟩, ((show FrN ν [ν + 1, ν + 3] [2, 4, 5, 6] μ μ2 by rw [eμ2, eμ1]; exact (FrN.wJ (by simp)).trans (FrN.wJ (by simp))).trans (hs3.mono (by simp) (by simp)))⟩)
  · skip
    refine v_push hx DX12_undo_7 ?_
    exact v_ri hx hBD DX12_undo_9 (Or.inl ⟨rfl, by omega, rfl⟩)
theorem r_image (l : Launch) (G : Gl) (Λ : Lay) (sz : Nat) (μ : Mem) {ν : Nat} {ρ : Nat → PS} {b : Bd} {h : Hs} (hR : refK Λ ν) (ha : RA μ ν ρ b) (hh : RH μ ν h) : Sp l G yX12_image cX12_image 2 (some FieldType.int) 2 [.ref ν] Λ sz μ (pI (fun z μ' => z = 1 ∧ RI μ' ν (some (b, h)) ∧ FrN ν [ν + 5] [8, 9, 10] μ μ')) := by
  refine Sp.intro (by decide) (Nat.le_of_ble_eq_true rfl) (fun x hx hBD => ?_)
  refine v_lv [(0, .ref ν)] rfl ?_
  obtain ⟨B, nx, q1, q2, q3, q4, q5, q6⟩ := hh
  have L18 : ∀ (nf : Nat) (k : Int) (m : Mem), (1152 - k < (nf : Int)) → (0 ≤ k ∧ k ≤ 1152) → (∀ j : Int, 0 ≤ j → j < k → m.1 (ν + 5) j = μ.1 (ν + 4) j) → (RwA m (ν + 5) 1152 b) → (m.1 ν 8 = 1) → (FrN ν [ν + 5] [8, 9, 10] μ m) → (m.1 ν 5 = (h.1 : Int)) → (m.1 ν 6 = (nx : Int)) → V G x (0, 0) Λ sz m 18 [(1, iv k), (0, .ref ν)] [] := by
    intro nf
    induction nf with
    | zero => intro k m hm hk hi hb h8 hf h5 h6; exact absurd hm (by omega)
    | succ nf ih =>
      intro k m hm hk hi hb h8 hf h5 h6
      refine v_iload hx DX12_image_18 0 rfl ?_
      refine v_push hx DX12_image_19 ?_
      refine v_icmp_ge hx DX12_image_22 (by omega) (by decide) (fun c22 => ?_) (fun c22 => ?_)
      · skip
        refine v_aload hx DX12_image_43 1 rfl ?_
        refine v_aload hx DX12_image_44 1 rfl ?_
        refine v_get hx DX12_image_45 FLRX12_135 hR.o (fv_i rfl h5 : _ = iv (h.1 : Int)) ?_
        refine v_pI hx DX12_image_48 FPRX12_145 hR.o rfl (ki := 9) rfl (fun μ1 eμ1 => ?_)
        refine v_aload hx DX12_image_51 1 rfl ?_
        refine v_aload hx DX12_image_52 1 rfl ?_
        refine v_get hx DX12_image_53 FLRX12_128 hR.o (fv_i rfl (by rw [eμ1, mI_at, if_neg (by omega)]; exact h6) : _ = iv (nx : Int)) ?_
        refine v_pI hx DX12_image_56 FPRX12_148 hR.o rfl (ki := 10) rfl (fun μ2 eμ2 => ?_)
        refine v_push hx DX12_image_59 ?_
        exact v_ri hx hBD DX12_image_60 (⟨rfl, ⟨by rw [eμ2, mI_at, if_neg (by omega), eμ1, mI_at, if_neg (by omega)]; exact h8, hb.fr (fun j _ _ => by rw [eμ2, mI_ne (by omega), eμ1, mI_ne (by omega)]), ⟨B, nx, q1, q2, by rw [eμ2, mI_at, if_neg (by omega), eμ1, mI_at, if_pos (by omega)], by rw [eμ2, mI_at, if_pos (by omega)], fun k2 hk2 => ⟨(q5 k2 hk2).1, fun j g0 g1 => by rw [eμ2, mI_ne (by omega), eμ1, mI_ne (by omega), hi _ (by omega) (by omega)]; exact (q5 k2 hk2).2.1 j g0 g1, by rw [eμ2, mI_ne (by omega), eμ1, mI_ne (by omega), hi _ (by omega) (by omega)]; exact (q5 k2 hk2).2.2.1, fun j g0 g1 => by rw [eμ2, mI_ne (by omega), eμ1, mI_ne (by omega), hi _ (by omega) (by omega)]; exact (q5 k2 hk2).2.2.2.1 j g0 g1, by rw [eμ2, mI_ne (by omega), eμ1, mI_ne (by omega), hi _ (by omega) (by omega)]; exact (q5 k2 hk2).2.2.2.2⟩, q6⟩⟩, hf.trans (by rw [eμ2, eμ1]; exact (FrN.wJ (by simp)).trans (FrN.wJ (by simp)))⟩)
      · skip
        refine v_aload hx DX12_image_25 1 rfl ?_
        refine v_get hx DX12_image_26 FLRX12_78 hR.o (v := .ref (ν + 5)) rfl ?_
        refine v_iload hx DX12_image_29 0 rfl ?_
        refine v_aload hx DX12_image_30 1 rfl ?_
        refine v_get hx DX12_image_31 FLRX12_75 hR.o (v := .ref (ν + 4)) rfl ?_
        refine v_iload hx DX12_image_34 0 rfl ?_
        refine v_iald hx DX12_image_35 hR.undos (by omega) (by decide) (z := μ.1 (ν + 4) k) (congrFun (hf.1 _ (by omega) (by simp)) k) ?_
        refine v_iastm hx DX12_image_36 hR.image (by omega) (by decide) (fun μ3 eμ3 => ?_)
        refine v_iinc hx DX12_image_37 0 rfl [(1, iv (k + 1)), (0, .ref ν)] rfl (by decide) ?_
        refine v_goto hx DX12_image_40 ?_
        exact v_sub [0, 1] _ rfl (ih (k + 1) μ3 (by omega) (by omega) (fun j h0 h1 => by rw [eμ3, mI_at]; exact (Classical.em (j = k)).elim (fun q => by rw [if_pos (by omega), q]) (fun q => by rw [if_neg (by omega)]; exact hi j h0 (by omega))) (hb.fr (fun j g0 g1 => by rw [eμ3, mI_at, if_neg (by omega)])) (by rw [eμ3, mI_ne (by omega)]; exact h8) (hf.trans (by rw [eμ3]; exact FrN.wI (by simp) (by omega))) (by rw [eμ3, mI_ne (by omega)]; exact h5) (by rw [eμ3, mI_ne (by omega)]; exact h6))
  refine v_aload hx DX12_image_0 0 rfl ?_
  refine v_push hx DX12_image_1 ?_
  refine v_pZ hx DX12_image_2 FPRX12_141 hR.o rfl (ki := 8) rfl (by omega) (fun μ4 eμ4 => ?_)
  refine v_aload hx DX12_image_5 0 rfl ?_
  refine v_aload hx DX12_image_6 0 rfl ?_
  refine v_get hx DX12_image_7 FLRX12_78 hR.o (v := .ref (ν + 5)) rfl ?_
  refine v_push hx DX12_image_10 ?_
  refine v_cVv hx DX12_image_13 CVRX12_131 [.ref (ν + 5), iv 1152] (r_laysRow (a := ν + 5) (c := 1344) (o := 1152) l G Λ sz μ4 hR (ha.frN (S := [ν + 5]) (J := [8, 9, 10]) (by rw [eμ4]; exact FrN.wJ (by simp)) (by simp) (by simp) (by simp) (by simp)) hR.image (by omega) (by omega)) hR.o rfl rfl (Nat.le_of_ble_eq_true rfl) (by decide) ⟨Nat.le_refl _, Nat.le_refl _⟩ (fun μ5 hμ5 => ?_)
  have h13 := hμ5
  refine v_push hx DX12_image_16 ?_
  refine v_istore hx DX12_image_17 [(1, iv 0), (0, .ref ν)] rfl (by decide) ?_
  exact v_sub [0, 1] _ rfl (L18 1200 0 μ5 (by omega) (by omega) (fun j h0 h1 => by omega) h13.1 (by rw [h13.2.1 ν (by omega), eμ4, mI_at, if_pos (by omega)]) ((show FrN ν [ν + 5] [8, 9, 10] μ μ4 by rw [eμ4]; exact FrN.wJ (by simp)).trans (h13.2.n (by simp) (by omega))) (by rw [h13.2.1 ν (by omega), eμ4, mI_at, if_neg (by omega)]; exact q3) (by rw [h13.2.1 ν (by omega), eμ4, mI_at, if_neg (by omega)]; exact q4))
theorem r_restore (l : Launch) (G : Gl) (Λ : Lay) (sz : Nat) (μ : Mem) {ν : Nat} {ρ : Nat → PS} {b : Bd} {h : Hs} {g : Option (Bd × Hs)} (hR : refK Λ ν) (ha : RA μ ν ρ b) (hh : RI μ ν g) : Sp l G yX12_restore cX12_restore 2 (some FieldType.int) 4 [.ref ν] Λ sz μ (pI (fun z μ' => (z = -4 ∧ g = none ∧ μ' = μ) ∨ (z = 1 ∧ ∃ c k, g = some (c, k) ∧ (∃ σ, RA μ' ν σ c) ∧ RH μ' ν k ∧ FrN ν [ν + 1, ν + 3, ν + 4] [2, 4, 5, 6] μ μ'))) := by
  refine Sp.intro (by decide) (Nat.le_of_ble_eq_true rfl) (fun x hx hBD => ?_)
  refine v_lv [(0, .ref ν)] rfl ?_
  obtain ⟨v8, e8, r8, hg⟩ : ∃ v8 : Int, μ.1 ν 8 = v8 ∧ (v8 = 0 ∨ v8 = 1) ∧ ((v8 = 0 ∧ g = none) ∨ (v8 = 1 ∧ ∃ c k, g = some (c, k) ∧ RwA μ (ν + 5) 1152 c ∧ RHx μ (ν + 5) ν 9 10 k)) := by
    unfold RI at hh
    split at hh
    · exact ⟨0, hh, Or.inl rfl, Or.inl ⟨rfl, rfl⟩⟩
    · rename_i c k
      exact ⟨1, hh.1, Or.inr rfl, Or.inr ⟨rfl, c, k, rfl, hh.2.1, hh.2.2⟩⟩
  have L23 : ∀ (nf : Nat) (k : Int) (m : Mem) (c : Bd) (hs : Hs) (B : Nat → Bd) (nx : Nat), (1152 - k < (nf : Int)) → (0 ≤ k ∧ k ≤ 1152) → (g = some (c, hs)) → (nx < 6) → (hs.1 ≤ 6) → (m.1 ν 9 = (hs.1 : Int)) → (m.1 ν 10 = (nx : Int)) → (∀ k : Nat, k < 6 → RwA m (ν + 5) (192 * (k : Int)) (B k)) → (∀ i, i < hs.1 → hs.2 i = B ((nx + 5 - i) % 6)) → (∀ j : Int, 0 ≤ j → j < k → m.1 (ν + 4) j = m.1 (ν + 5) j) → (∃ σ, RA m ν σ c) → (FrN ν [ν + 1, ν + 3, ν + 4] [2, 4, 5, 6] μ m) → V G x (0, 0) Λ sz m 23 [(1, iv k), (0, .ref ν)] [] := by
    intro nf
    induction nf with
    | zero => intro k m c hs B nx hm hk hg2 q1 q2 q3 q4 q5 q6 hi hσ hf; exact absurd hm (by omega)
    | succ nf ih =>
      intro k m c hs B nx hm hk hg2 q1 q2 q3 q4 q5 q6 hi hσ hf
      refine v_iload hx DX12_restore_23 0 rfl ?_
      refine v_push hx DX12_restore_24 ?_
      refine v_icmp_ge hx DX12_restore_27 (by omega) (by decide) (fun c27 => ?_) (fun c27 => ?_)
      · skip
        refine v_aload hx DX12_restore_48 1 rfl ?_
        refine v_aload hx DX12_restore_49 1 rfl ?_
        refine v_get hx DX12_restore_50 FLRX12_145 hR.o (fv_i rfl q3 : _ = iv (hs.1 : Int)) ?_
        refine v_pI hx DX12_restore_53 FPRX12_135 hR.o rfl (ki := 5) rfl (fun μ1 eμ1 => ?_)
        refine v_aload hx DX12_restore_56 1 rfl ?_
        refine v_aload hx DX12_restore_57 1 rfl ?_
        refine v_get hx DX12_restore_58 FLRX12_148 hR.o (fv_i rfl (by rw [eμ1, mI_at, if_neg (by omega)]; exact q4) : _ = iv (nx : Int)) ?_
        refine v_pI hx DX12_restore_61 FPRX12_128 hR.o rfl (ki := 6) rfl (fun μ2 eμ2 => ?_)
        refine v_push hx DX12_restore_64 ?_
        exact v_ri hx hBD DX12_restore_65 (Or.inr ⟨rfl, c, hs, hg2, hσ.elim (fun σ h => ⟨σ, h.frN (S := []) (J := [5, 6]) (by rw [eμ2, eμ1]; exact (FrN.wJ (by simp)).trans (FrN.wJ (by simp))) (by simp) (by simp) (by simp) (by simp)⟩), ⟨B, nx, q1, q2, by rw [eμ2, mI_at, if_neg (by omega), eμ1, mI_at, if_pos (by omega)], by rw [eμ2, mI_at, if_pos (by omega)], fun k2 hk2 => ⟨(q5 k2 hk2).1, fun j g0 g1 => by rw [eμ2, mI_ne (by omega), eμ1, mI_ne (by omega), hi _ (by omega) (by omega)]; exact (q5 k2 hk2).2.1 j g0 g1, by rw [eμ2, mI_ne (by omega), eμ1, mI_ne (by omega), hi _ (by omega) (by omega)]; exact (q5 k2 hk2).2.2.1, fun j g0 g1 => by rw [eμ2, mI_ne (by omega), eμ1, mI_ne (by omega), hi _ (by omega) (by omega)]; exact (q5 k2 hk2).2.2.2.1 j g0 g1, by rw [eμ2, mI_ne (by omega), eμ1, mI_ne (by omega), hi _ (by omega) (by omega)]; exact (q5 k2 hk2).2.2.2.2⟩, q6⟩, hf.trans (by rw [eμ2, eμ1]; exact (FrN.wJ (by simp)).trans (FrN.wJ (by simp)))⟩)
      · skip
        refine v_aload hx DX12_restore_30 1 rfl ?_
        refine v_get hx DX12_restore_31 FLRX12_75 hR.o (v := .ref (ν + 4)) rfl ?_
        refine v_iload hx DX12_restore_34 0 rfl ?_
        refine v_aload hx DX12_restore_35 1 rfl ?_
        refine v_get hx DX12_restore_36 FLRX12_78 hR.o (v := .ref (ν + 5)) rfl ?_
        refine v_iload hx DX12_restore_39 0 rfl ?_
        refine v_iald hx DX12_restore_40 hR.image (by omega) (by decide) (z := m.1 (ν + 5) k) rfl ?_
        refine v_iastm hx DX12_restore_41 hR.undos (by omega) (by decide) (fun μ3 eμ3 => ?_)
        refine v_iinc hx DX12_restore_42 0 rfl [(1, iv (k + 1)), (0, .ref ν)] rfl (by decide) ?_
        refine v_goto hx DX12_restore_45 ?_
        exact v_sub [0, 1] _ rfl (ih (k + 1) μ3 c hs B nx (by omega) (by omega) hg2 q1 q2 (by rw [eμ3, mI_ne (by omega)]; exact q3) (by rw [eμ3, mI_ne (by omega)]; exact q4) (fun k hk => (q5 k hk).fr (fun j _ _ => by rw [eμ3, mI_ne (by omega)])) q6 (fun j h0 h1 => by rw [eμ3, mI_at, mI_ne (show ν + 5 ≠ ν + 4 by omega)]; exact (Classical.em (j = k)).elim (fun q => by rw [if_pos (by omega), q]) (fun q => by rw [if_neg (by omega)]; exact hi j h0 (by omega))) (hσ.elim (fun σ h => ⟨σ, h.frN (S := [ν + 4]) (J := []) (by rw [eμ3]; exact FrN.wI (by simp) (by omega)) (by simp) (by simp) (by simp) (by simp)⟩)) (hf.trans (by rw [eμ3]; exact FrN.wI (by simp) (by omega))))
  refine v_aload hx DX12_restore_0 0 rfl ?_
  refine v_get hx DX12_restore_1 FLRX12_141 hR.o (fv_i rfl e8 : _ = iv v8) ?_
  refine v_if_ne hx DX12_restore_4 (by omega) (fun c4 => ?_) (fun c4 => ?_)
  · skip
    obtain ⟨c, hs, g1, g2, g3⟩ := hg.elim (fun q => absurd q.1 c4) (fun q => q.2)
    obtain ⟨B, nx, q1, q2, q3, q4, q5, q6⟩ := g3
    refine v_aload hx DX12_restore_10 0 rfl ?_
    refine v_aload hx DX12_restore_11 0 rfl ?_
    refine v_get hx DX12_restore_12 FLRX12_78 hR.o (v := .ref (ν + 5)) rfl ?_
    refine v_push hx DX12_restore_15 ?_
    refine v_cVv hx DX12_restore_18 CVRX12_138 [.ref (ν + 5), iv 1152] (r_fromRow (a := ν + 5) (c := 1344) (o := 1152) l G Λ sz μ hR ha.1 g2 hR.image (by omega) (by omega)) hR.o rfl rfl (Nat.le_of_ble_eq_true rfl) (by decide) ⟨Nat.le_refl _, Nat.le_refl _⟩ (fun μ4 hμ4 => ?_)
    obtain ⟨σ, s1, s0, s2⟩ := hμ4
    refine v_push hx DX12_restore_21 ?_
    refine v_istore hx DX12_restore_22 [(1, iv 0), (0, .ref ν)] rfl (by decide) ?_
    exact v_sub [0, 1] _ rfl (L23 1200 0 μ4 c hs B nx (by omega) (by omega) g1 q1 q2 (by rw [s2.2.1 9 (by simp)]; exact q3) (by rw [s2.2.1 10 (by simp)]; exact q4) (fun k hk => (q5 k hk).fr (fun j _ _ => by rw [s2.1 _ (by omega) (by simp)])) q6 (fun j h0 h1 => by omega) ⟨σ, s1⟩ (s2.mono (by simp) (by simp)))
  · skip
    refine v_push hx DX12_restore_7 ?_
    exact v_ri hx hBD DX12_restore_9 (Or.inl ⟨rfl, hg.elim (fun q => q.2) (fun q => absurd q.1 (by omega)), rfl⟩)
theorem r_seed (l : Launch) (G : Gl) (Λ : Lay) (sz : Nat) (μ : Mem) {ν : Nat} {ρ : Nat → PS} {b : Bd} {v : Int} (hR : refK Λ ν) (ha : RA μ ν ρ b) (hv : inR v) : Sp l G yX12_seed cX12_seed 3 (some FieldType.int) 0 [.ref ν, iv v] Λ sz μ (pI (fun z μ' => (z = -1 ∧ v < 0 ∧ μ' = μ) ∨ (z = b.2.2.2 ∧ 0 ≤ v ∧ RA μ' ν ρ (b.1, b.2.1, b.2.2.1, v) ∧ FrN ν [] [4] μ μ'))) := by
  refine Sp.intro (by decide) (Nat.le_of_ble_eq_true rfl) (fun x hx hBD => ?_)
  refine v_lv [(0, .ref ν), (1, iv v)] rfl ?_
  refine v_iload hx DX12_seed_0 1 rfl ?_
  refine v_if_ge hx DX12_seed_1 (by omega) (fun c1 => ?_) (fun c1 => ?_)
  · skip
    refine v_aload hx DX12_seed_6 0 rfl ?_
    refine v_get hx DX12_seed_7 FLRX12_71 hR.o (fv_i rfl ha.2.2.2.2.2 : _ = iv b.2.2.2) ?_
    refine v_istore hx DX12_seed_10 [(2, iv b.2.2.2), (0, .ref ν), (1, iv v)] rfl (by decide) ?_
    refine v_aload hx DX12_seed_11 1 rfl ?_
    refine v_iload hx DX12_seed_12 2 rfl ?_
    refine v_pI hx DX12_seed_13 FPRX12_71 hR.o rfl (ki := 4) rfl (fun μ1 eμ1 => ?_)
    refine v_iload hx DX12_seed_16 0 rfl ?_
    exact v_ri hx hBD DX12_seed_17 (Or.inr ⟨rfl, by omega, ⟨ha.1.fr (by rw [eμ1, mI_ne (by omega)]), ⟨ha.2.1.1, ha.2.1.2.1, ha.2.1.2.2.1, by show 0 ≤ v ∧ v ≤ 2147483647; omega⟩, ha.2.2.1, fun j g0 g1 => by rw [eμ1, mI_ne (by omega)]; exact ha.2.2.2.1 j g0 g1, by rw [eμ1, mI_at, if_neg (by omega)]; exact ha.2.2.2.2.1, by rw [eμ1, mI_at, if_pos (by omega)]⟩, by rw [eμ1]; exact FrN.wJ (by simp)⟩)
  · skip
    refine v_push hx DX12_seed_4 ?_
    exact v_ri hx hBD DX12_seed_5 (Or.inl ⟨rfl, by omega, rfl⟩)
