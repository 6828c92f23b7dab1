theorem partK.off {Λ : Lay} {p κ σ : Nat} (h : partK Λ p κ σ) : ¬ polyC Λ p := by
  rintro (q | ⟨b, rfl, q⟩)
  · have := h.1.symm.trans q.1; simp at this
  · have := h.1.symm.trans q.2; simp at this
theorem AB.mI {Λ : Lay} {μ : Mem} {π : Nat → PS} {a : Nat} {i z : Int} (h : AB Λ μ π) (ho : ¬ polyC Λ a) : AB Λ (mI μ a i z) π := by
  intro t ht
  have n1 : t ≠ a := fun q => ho (q ▸ Or.inl ht)
  have n2 : t + 1 ≠ a := fun q => ho (q ▸ Or.inr ⟨t, rfl, ht⟩)
  have hp := h t ht
  exact ⟨⟨hp.1.1, fun j h0 h1 => by rw [mI_ne n2]; exact hp.1.2 j h0 h1⟩, by rw [mI_ne n1]; exact hp.2⟩
theorem c_prepare (l : Launch) (G : Gl) (Λ : Lay) (sz : Nat) (μ : Mem) {π : Nat → PS} {p κ σ β : Nat} {b : Bd} (hA : AB Λ μ π) (hP : partK Λ p κ σ) (hB : boardK Λ β) (hb : BA μ β b) (hne : β + 2 < p ∨ p < β) : Sp l G yX4_prepare cX4_prepare 2 none 3 [.ref p, .ref β] Λ sz μ (pV (fun μ' => ∃ π', Chg Λ (fun c => c = p + 13 ∨ c = p + 15) (mI μ p 13 b.2.2.1) μ' π π' ∧ π' (p + 13) = b.uP ∧ π' (p + 15) = b.uP.der)) := by
  refine Sp.intro (by decide) (Nat.le_of_ble_eq_true rfl) (fun x hx hBD => ?_)
  refine v_lv [(0, .ref p), (1, .ref β)] rfl ?_
  refine v_aload hx DX4_prepare_0 0 rfl ?_
  refine v_aload hx DX4_prepare_1 1 rfl ?_
  refine v_get hx DX4_prepare_2 FLRX4_73 hB.1 (fv_i rfl hb.2.2.2.1 : _ = iv b.2.2.1) ?_
  refine v_pI hx DX4_prepare_5 FPRX4_54 hP.1 rfl (ki := 13) rfl (fun μ1 eμ1 => ?_)
  have hA1 : AB Λ μ1 π := by rw [eμ1]; exact hA.mI hP.off
  have hb1 : BA μ1 β b := by rw [eμ1]; exact hb.i (FrI.mI (lo := p) (hi := p) (by omega)) (by omega)
  refine v_aload hx DX4_prepare_8 1 rfl ?_
  refine v_aload hx DX4_prepare_9 0 rfl ?_
  refine v_get hx DX4_prepare_10 FLRX4_31 hP.1 (v := .ref (p + 13)) rfl ?_
  refine v_cVv hx DX4_prepare_13 CVRX4_76 [.ref (p + 13)] (b_loadU l G Λ sz μ1 hA1 hB hb1 hP.2.2.2.2.2.1.1) hB.1 rfl rfl (Nat.le_of_ble_eq_true rfl) (by decide) ⟨Nat.le_refl _, Nat.le_refl _⟩ (fun μ2 hμ2 => ?_)
  obtain ⟨π1, c1, u1⟩ := hμ2
  refine v_aload hx DX4_prepare_16 0 rfl ?_
  refine v_get hx DX4_prepare_17 FLRX4_35 hP.1 (v := .ref (p + 15)) rfl ?_
  refine v_aload hx DX4_prepare_20 0 rfl ?_
  refine v_get hx DX4_prepare_21 FLRX4_31 hP.1 (v := .ref (p + 13)) rfl ?_
  refine v_cVv hx DX4_prepare_24 CVRX4_80 [.ref (p + 13)] (s_slope l G Λ sz μ2 hP.2.2.2.2.2.1.2.1 hP.2.2.2.2.2.1.1 (by omega) (c1.1 _ hP.2.2.2.2.2.1.2.1) (c1.1 _ hP.2.2.2.2.2.1.1)) hP.2.2.2.2.2.1.2.1.1 rfl rfl (Nat.le_of_ble_eq_true rfl) (by decide) ⟨Nat.le_refl _, Nat.le_refl _⟩ (fun μ4 hμ4 => ?_)
  obtain ⟨π2, c2, u2, o2⟩ := Chg.one (S := fun c => c = p + 13 ∨ c = p + 15) (R := (π1 (p + 13)).der) c1.1 hP.2.2.2.2.2.1.2.1 (Or.inr rfl) hμ4
  exact v_rv hx hBD DX4_prepare_27 (⟨π2, by rw [← eμ1]; exact (c1.mono (fun c hc => Or.inl hc)).trans c2, (o2 _ (by omega)).trans u1, by rw [u2, u1]⟩)
