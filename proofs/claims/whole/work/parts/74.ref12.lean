/-! ===== the reference's letters ===== -/
def LA (μ : Mem) (ν : Nat) (T : List Int) : Prop := T.length ≤ 256 ∧ μ.1 ν 13 = (T.length : Int) ∧ ∀ i : Nat, i < T.length → μ.1 (ν + 6) (i : Int) = T.getD i 0
/-- nothing changed but the arrays S and the fields J of the reference itself -/
def FrN (ν : Nat) (S : List Nat) (J : List Int) (μ μ' : Mem) : Prop := (∀ a, a ≠ ν → a ∉ S → μ'.1 a = μ.1 a) ∧ (∀ j : Int, j ∉ J → μ'.1 ν j = μ.1 ν j) ∧ μ'.2 = μ.2
theorem FrN.rf {ν : Nat} {S : List Nat} {J : List Int} {μ : Mem} : FrN ν S J μ μ := ⟨fun _ _ _ => rfl, fun _ _ => rfl, rfl⟩
theorem FrN.trans {ν : Nat} {S : List Nat} {J : List Int} {μ m m1 : Mem} (h : FrN ν S J μ m) (h1 : FrN ν S J m m1) : FrN ν S J μ m1 := ⟨fun a h2 h3 => (h1.1 a h2 h3).trans (h.1 a h2 h3), fun j hj => (h1.2.1 j hj).trans (h.2.1 j hj), h1.2.2.trans h.2.2⟩
theorem FrN.mono {ν : Nat} {S S' : List Nat} {J J' : List Int} {μ m : Mem} (h : FrN ν S J μ m) (h1 : ∀ a ∈ S, a ∈ S') (h2 : ∀ j ∈ J, j ∈ J') : FrN ν S' J' μ m := ⟨fun a q1 q2 => h.1 a q1 (fun q => q2 (h1 a q)), fun j q => h.2.1 j (fun z => q (h2 j z)), h.2.2⟩
theorem FrN.wI {ν a : Nat} {S : List Nat} {J : List Int} {μ : Mem} {i z : Int} (h : a ∈ S) (hn : a ≠ ν) : FrN ν S J μ (mI μ a i z) := ⟨fun b _ h2 => mI_ne (fun q => h2 (q ▸ h)), fun j _ => by rw [mI_ne (Ne.symm hn)], rfl⟩
theorem FrN.wJ {ν : Nat} {S : List Nat} {J : List Int} {μ : Mem} {i z : Int} (h : i ∈ J) : FrN ν S J μ (mI μ ν i z) := ⟨fun b h1 _ => mI_ne h1, fun j hj => by rw [mI_at, if_neg (fun (q : j = i) => hj (q ▸ h))], rfl⟩
theorem FrN.of {ν : Nat} {S : List Nat} {J : List Int} {μ m : Mem} (h : Fr S μ m) (hn : ν ∉ S) : FrN ν S J μ m := ⟨fun a _ h2 => h.1 a h2, fun j _ => by rw [h.1 ν hn], h.2⟩
abbrev FrT (ν : Nat) (μ μ' : Mem) : Prop := FrN ν [ν + 6] [13] μ μ'
theorem LA.add {μ m m1 : Mem} {ν : Nat} {T : List Int} {s : Int} (h : LA μ ν T) (hl : T.length < 256) (e1 : m = mI μ (ν + 6) (T.length : Int) s) (e2 : m1 = mI m ν 13 ((T.length : Int) + 1)) : LA m1 ν (T ++ [s]) ∧ FrT ν μ m1 := by
  refine ⟨⟨by simp; omega, by rw [e2, mI_at2 rfl]; simp, fun i hi => ?_⟩, by rw [e2, e1]; exact (FrN.wI (by simp) (by omega)).trans (FrN.wJ (by simp))⟩
  rw [e2, mI_ne (by omega), e1, mI_at]
  simp at hi
  by_cases c : i = T.length
  · subst c
    rw [if_pos rfl]
    simp
  · rw [if_neg (by omega), h.2.2 i (by omega)]
    simp [List.getD, List.getElem?_append_left (show i < T.length by omega)]
theorem r_says (l : Launch) (G : Gl) (Λ : Lay) (sz : Nat) (μ : Mem) {ν : Nat} {T : List Int} {s : Int} (hR : refK Λ ν) (hT : LA μ ν T) (hl : T.length < 256) : Sp l G yX12_says cX12_says 2 none 0 [.ref ν, iv s] Λ sz μ (pV (fun μ' => LA μ' ν (T ++ [s]) ∧ FrT ν μ μ')) := by
  refine Sp.intro (by decide) (Nat.le_of_ble_eq_true rfl) (fun x hx hBD => ?_)
  refine v_lv [(0, .ref ν), (1, iv s)] rfl ?_
  refine v_aload hx DX12_says_0 0 rfl ?_
  refine v_get hx DX12_says_1 FLRX12_81 hR.o (v := .ref (ν + 6)) rfl ?_
  refine v_aload hx DX12_says_4 0 rfl ?_
  refine v_get hx DX12_says_5 FLRX12_162 hR.o (fv_i rfl hT.2.1 : _ = iv (T.length : Int)) ?_
  refine v_iload hx DX12_says_8 1 rfl ?_
  refine v_iastm hx DX12_says_9 hR.letters (by omega) (by decide) (fun μ1 eμ1 => ?_)
  refine v_aload hx DX12_says_10 0 rfl ?_
  refine v_dup hx DX12_says_11 rfl ?_
  refine v_get hx DX12_says_12 FLRX12_162 hR.o (fv_i rfl (by rw [eμ1, mI_ne (by omega)]; exact hT.2.1) : _ = iv (T.length : Int)) ?_
  refine v_push hx DX12_says_15 ?_
  refine v_iadd hx DX12_says_16 ?_
  refine v_pI hx DX12_says_17 FPRX12_162 hR.o rfl (ki := 13) rfl (fun μ2 eμ2 => ?_)
  exact v_rv hx hBD DX12_says_20 (hT.add hl eμ1 eμ2)
theorem r_figures (l : Launch) (G : Gl) (Λ : Lay) (sz : Nat) (μ : Mem) {ν : Nat} {T : List Int} {v : Int} (hR : refK Λ ν) (hT : LA μ ν T) (hv : 0 ≤ v ∧ v ≤ 100) (hl : T.length + 3 ≤ 256) : Sp l G yX12_figures cX12_figures 2 none 1 [.ref ν, iv v] Λ sz μ (pV (fun μ' => LA μ' ν (T ++ numT v) ∧ FrT ν μ μ')) := by
  refine Sp.intro (by decide) (Nat.le_of_ble_eq_true rfl) (fun x hx hBD => ?_)
  refine v_lv [(0, .ref ν), (1, iv v)] rfl ?_
  have L37 : ∀ (C : List Int) (m : Mem), (C = T ++ (if 100 ≤ v then [48 + v / 100 % 10] else []) ++ (if 10 ≤ v then [48 + v / 10 % 10] else [])) → (LA m ν C ∧ FrT ν μ m) → V G x (0, 0) Λ sz m 37 [(0, .ref ν), (1, iv v)] [] := by
    intro C m hC hm
    have lC : C.length ≤ T.length + 2 := by rw [hC]; split <;> split <;> simp
    refine v_aload hx DX12_figures_37 0 rfl ?_
    refine v_push hx DX12_figures_38 ?_
    refine v_iload hx DX12_figures_40 1 rfl ?_
    refine v_push hx DX12_figures_41 ?_
    refine v_irem hx (by omega) (by decide) DX12_figures_43 ?_
    refine v_iadd hx DX12_figures_44 ?_
    refine v_cVv hx DX12_figures_45 CVRX12_165 [iv (48 + (v % 10))] (r_says l G Λ sz m hR hm.1 (by omega)) hR.o rfl rfl (Nat.le_of_ble_eq_true rfl) (by decide) ⟨Nat.le_refl _, Nat.le_refl _⟩ (fun μ1 hμ1 => ?_)
    exact v_rv hx hBD DX12_figures_48 (⟨by have e : T ++ numT v = C ++ [48 + v % 10] := (by rw [hC]; unfold numT; simp); rw [e]; exact hμ1.1, hm.2.trans hμ1.2⟩)
  have L17 : ∀ (C : List Int) (m : Mem), (C = T ++ (if 100 ≤ v then [48 + v / 100 % 10] else [])) → (LA m ν C ∧ FrT ν μ m) → V G x (0, 0) Λ sz m 17 [(0, .ref ν), (1, iv v)] [] := by
    intro C m hC hm
    have lC : C.length ≤ T.length + 1 := by rw [hC]; split <;> simp
    refine v_iload hx DX12_figures_17 1 rfl ?_
    refine v_push hx DX12_figures_18 ?_
    refine v_icmp_lt hx DX12_figures_20 (by omega) (by decide) (fun c20 => ?_) (fun c20 => ?_)
    · skip
      exact v_sub [0, 1] _ rfl (L37 C m (by rw [hC, if_neg (show ¬ 10 ≤ v by omega)]; simp) hm)
    · skip
      refine v_aload hx DX12_figures_23 0 rfl ?_
      refine v_push hx DX12_figures_24 ?_
      refine v_iload hx DX12_figures_26 1 rfl ?_
      refine v_push hx DX12_figures_27 ?_
      refine v_idiv hx (by omega) (by decide) DX12_figures_29 ?_
      refine v_push hx DX12_figures_30 ?_
      refine v_irem hx (by omega) (by decide) DX12_figures_32 ?_
      refine v_iadd hx DX12_figures_33 ?_
      refine v_cVv hx DX12_figures_34 CVRX12_165 [iv (48 + ((v / 10) % 10))] (r_says l G Λ sz m hR hm.1 (by omega)) hR.o rfl rfl (Nat.le_of_ble_eq_true rfl) (by decide) ⟨Nat.le_refl _, Nat.le_refl _⟩ (fun μ3 hμ3 => ?_)
      exact v_sub [0, 1] _ rfl (L37 (C ++ [48 + v / 10 % 10]) μ3 (by rw [hC, if_pos (show 10 ≤ v by omega)]) ⟨hμ3.1, hm.2.trans hμ3.2⟩)
  refine v_iload hx DX12_figures_0 1 rfl ?_
  refine v_push hx DX12_figures_1 ?_
  refine v_icmp_lt hx DX12_figures_3 (by omega) (by decide) (fun c3 => ?_) (fun c3 => ?_)
  · skip
    exact v_sub [0, 1] _ rfl (L17 T μ (by rw [if_neg (by omega)]; simp) ⟨hT, FrN.rf⟩)
  · skip
    refine v_aload hx DX12_figures_6 0 rfl ?_
    refine v_push hx DX12_figures_7 ?_
    refine v_iload hx DX12_figures_9 1 rfl ?_
    refine v_push hx DX12_figures_10 ?_
    refine v_idiv hx (by omega) (by decide) DX12_figures_12 ?_
    refine v_iadd hx DX12_figures_13 ?_
    refine v_cVv hx DX12_figures_14 CVRX12_165 [iv (48 + (v / 100))] (r_says l G Λ sz μ hR hT (by omega)) hR.o rfl rfl (Nat.le_of_ble_eq_true rfl) (by decide) ⟨Nat.le_refl _, Nat.le_refl _⟩ (fun μ5 hμ5 => ?_)
    exact v_sub [0, 1] _ rfl (L17 (T ++ [48 + v / 100]) μ5 (by rw [if_pos (by omega), show v / 100 % 10 = v / 100 by omega]) hμ5)
