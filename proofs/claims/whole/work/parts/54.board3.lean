theorem num_out {b : Bd} {t : Int} (h : ¬ (0 ≤ t ∧ t < 15)) : b.num t = PS.zero := PS.ext fun n => by
  show (if n < 7 then fi (b.cell t n) else 0) = 0
  have e : b.cell t n = 0 := by unfold Bd.cell; rw [if_neg (fun q => h ⟨q.1, q.2.1⟩)]
  rw [e, fi_0]
  split <;> rfl
theorem den_out {b : Bd} {t : Int} (h : ¬ (0 ≤ t ∧ t < 15)) : b.den t = PS.one := PS.ext fun n => by
  unfold Bd.den
  rw [if_neg h]
theorem draw_put {μ : Mem} {β : Nat} {b : Bd} (h : BA μ β b) : BA (mI μ β 3 (rnx b.2.2.2)) β (b.1, b.2.1, b.2.2.1, rnx b.2.2.2) := by
  refine ⟨⟨h.1.1, h.1.2.1, h.1.2.2.1, rnx_rng _⟩, fun j h0 h1 => ?_, fun j h0 h1 => ?_, ?_, ?_⟩
  · rw [mI_ne (by omega)]; exact h.2.1 j h0 h1
  · rw [mI_ne (by omega)]; exact h.2.2.1 j h0 h1
  · rw [mI_at, if_neg (by omega)]; exact h.2.2.2.1
  · rw [mI_at, if_pos rfl]
theorem tower_put {μ : Mem} {β : Nat} {b : Bd} {κ a0 a1 a2 a3 : Int} (h : BA μ β b) (h0 : 0 ≤ κ ∧ κ ≤ 2) (h1 : 0 ≤ a0 ∧ a0 ≤ 100) (h2 : 0 ≤ a1 ∧ a1 ≤ 100) (h3 : 0 ≤ a2 ∧ a2 ≤ 100) (h4 : 0 ≤ a3 ∧ a3 ≤ 100) :
    BA (mI (mI (mI (mI (mI μ β 2 κ) (β + 2) 0 a0) (β + 2) 1 a1) (β + 2) 2 a2) (β + 2) 3 a3) β (b.1, tw4 a0 a1 a2 a3, κ, b.2.2.2) ∧ FrB β μ (mI (mI (mI (mI (mI μ β 2 κ) (β + 2) 0 a0) (β + 2) 1 a1) (β + 2) 2 a2) (β + 2) 3 a3) := by
  have q1 : β ≠ β + 2 := by omega
  have q2 : β + 1 ≠ β + 2 := by omega
  have q3 : β + 1 ≠ β := by omega
  refine ⟨⟨⟨h.1.1, fun j => ?_, h0, h.1.2.2.2⟩, fun j g0 g1 => ?_, fun j g0 g1 => ?_, ?_, ?_⟩, ?_⟩
  · show 0 ≤ tw4 a0 a1 a2 a3 j ∧ tw4 a0 a1 a2 a3 j ≤ 100
    unfold tw4
    repeat' split
    all_goals omega
  · rw [mI_ne q2, mI_ne q2, mI_ne q2, mI_ne q2, mI_ne q3]; exact h.2.1 j g0 g1
  · rw [mI_at, mI_at, mI_at, mI_at]
    show _ = tw4 a0 a1 a2 a3 j
    have : j = 0 ∨ j = 1 ∨ j = 2 ∨ j = 3 := by omega
    rcases this with rfl | rfl | rfl | rfl <;> rfl
  · rw [mI_ne q1, mI_ne q1, mI_ne q1, mI_ne q1, mI_at, if_pos rfl]
  · rw [mI_ne q1, mI_ne q1, mI_ne q1, mI_ne q1, mI_at, if_neg (by omega)]; exact h.2.2.2.2
  · exact ((((Fr.mI (by simp)).trans (Fr.mI (by simp))).trans (Fr.mI (by simp))).trans (Fr.mI (by simp))).trans (Fr.mI (by simp))
theorem become_put {μ : Mem} {β α : Nat} {b c : Bd} (h : BA μ β b) (hc : BA μ α c) (ap : (¬ α = β ∧ ¬ α = β + 1 ∧ ¬ α = β + 2) ∧ (¬ α + 1 = β ∧ ¬ α + 1 = β + 1 ∧ ¬ α + 1 = β + 2) ∧ (¬ α + 2 = β ∧ ¬ α + 2 = β + 1 ∧ ¬ α + 2 = β + 2)) (ap2 : (¬ β = α ∧ ¬ β = α + 1 ∧ ¬ β = α + 2) ∧ (¬ β + 1 = α ∧ ¬ β + 1 = α + 1 ∧ ¬ β + 1 = α + 2) ∧ (¬ β + 2 = α ∧ ¬ β + 2 = α + 1 ∧ ¬ β + 2 = α + 2)) :
    BA (mI (mI (mC (mC μ (α + 1) 0 (β + 1) 0 180) (α + 2) 0 (β + 2) 0 4) β 2 c.2.2.1) β 3 c.2.2.2) β c ∧ FrB β μ (mI (mI (mC (mC μ (α + 1) 0 (β + 1) 0 180) (α + 2) 0 (β + 2) 0 4) β 2 c.2.2.1) β 3 c.2.2.2) := by
  refine ⟨⟨hc.1, fun j g0 g1 => ?_, fun j g0 g1 => ?_, ?_, ?_⟩, ?_⟩
  · rw [mI_ne (by omega), mI_ne (by omega), mC_ne (by omega), mC_at (by omega), show (0 : Int) + (j - 0) = j by omega]; exact hc.2.1 j g0 g1
  · rw [mI_ne (by omega), mI_ne (by omega), mC_at (by omega), show (0 : Int) + (j - 0) = j by omega, mC_ne (by omega)]; exact hc.2.2.1 j g0 g1
  · rw [mI_at, if_neg (by omega), mI_at, if_pos rfl]
  · rw [mI_at, if_pos rfl]
  · exact (((Fr.mC (by simp)).trans (Fr.mC (by simp))).trans (Fr.mI (by simp))).trans (Fr.mI (by simp))
theorem b_setTower (l : Launch) (G : Gl) (Λ : Lay) (sz : Nat) (μ : Mem) {β : Nat} {b : Bd} {κ a0 a1 a2 a3 : Int} (hK : boardK Λ β) (hb : BA μ β b) (h0 : 0 ≤ κ ∧ κ ≤ 2) (h1 : 0 ≤ a0 ∧ a0 ≤ 100) (h2 : 0 ≤ a1 ∧ a1 ≤ 100) (h3 : 0 ≤ a2 ∧ a2 ≤ 100) (h4 : 0 ≤ a3 ∧ a3 ≤ 100) : Sp l G yX0_setTower cX0_setTower 6 none 0 [.ref β, iv κ, iv a0, iv a1, iv a2, iv a3] Λ sz μ (pV (fun μ' => BA μ' β (b.1, tw4 a0 a1 a2 a3, κ, b.2.2.2) ∧ FrB β μ μ')) := by
  refine Sp.intro (by decide) (Nat.le_of_ble_eq_true rfl) (fun x hx hBD => ?_)
  refine v_lv [(0, .ref β), (1, iv κ), (2, iv a0), (3, iv a1), (4, iv a2), (5, iv a3)] rfl ?_
  refine v_aload hx DX0_setTower_0 0 rfl ?_
  refine v_iload hx DX0_setTower_1 1 rfl ?_
  refine v_pI hx DX0_setTower_2 FPRX0_18 hK.1 rfl (ki := 2) rfl (fun μ1 eμ1 => ?_)
  refine v_aload hx DX0_setTower_5 0 rfl ?_
  refine v_get hx DX0_setTower_6 FLRX0_15 hK.1 (v := .ref (β + 2)) rfl ?_
  refine v_push hx DX0_setTower_9 ?_
  refine v_iload hx DX0_setTower_10 2 rfl ?_
  refine v_iastm hx DX0_setTower_11 hK.2.2 (by omega) (by decide) (fun μ2 eμ2 => ?_)
  refine v_aload hx DX0_setTower_12 0 rfl ?_
  refine v_get hx DX0_setTower_13 FLRX0_15 hK.1 (v := .ref (β + 2)) rfl ?_
  refine v_push hx DX0_setTower_16 ?_
  refine v_iload hx DX0_setTower_17 3 rfl ?_
  refine v_iastm hx DX0_setTower_18 hK.2.2 (by omega) (by decide) (fun μ3 eμ3 => ?_)
  refine v_aload hx DX0_setTower_19 0 rfl ?_
  refine v_get hx DX0_setTower_20 FLRX0_15 hK.1 (v := .ref (β + 2)) rfl ?_
  refine v_push hx DX0_setTower_23 ?_
  refine v_iload hx DX0_setTower_24 4 rfl ?_
  refine v_iastm hx DX0_setTower_26 hK.2.2 (by omega) (by decide) (fun μ4 eμ4 => ?_)
  refine v_aload hx DX0_setTower_27 0 rfl ?_
  refine v_get hx DX0_setTower_28 FLRX0_15 hK.1 (v := .ref (β + 2)) rfl ?_
  refine v_push hx DX0_setTower_31 ?_
  refine v_iload hx DX0_setTower_32 5 rfl ?_
  refine v_iastm hx DX0_setTower_34 hK.2.2 (by omega) (by decide) (fun μ5 eμ5 => ?_)
  exact v_rv hx hBD DX0_setTower_35 (by rw [eμ5, eμ4, eμ3, eμ2, eμ1]; exact tower_put hb h0 h1 h2 h3 h4)
theorem b_draw (l : Launch) (G : Gl) (Λ : Lay) (sz : Nat) (μ : Mem) {β : Nat} {b : Bd} (hK : boardK Λ β) (hb : BA μ β b) : Sp l G yX0_draw cX0_draw 1 (some FieldType.int) 0 [.ref β] Λ sz μ (pI (fun z μ' => z = rnx b.2.2.2 / 65536 ∧ BA μ' β (b.1, b.2.1, b.2.2.1, rnx b.2.2.2) ∧ FrB β μ μ')) := by
  refine Sp.intro (by decide) (Nat.le_of_ble_eq_true rfl) (fun x hx hBD => ?_)
  refine v_lv [(0, .ref β)] rfl ?_
  have ur := hb.1.2.2.2
  have ux := rnx_rng b.2.2.2
  refine v_aload hx DX0_draw_0 0 rfl ?_
  refine v_aload hx DX0_draw_1 0 rfl ?_
  refine v_get hx DX0_draw_2 FLRX0_22 hK.1 (fv_i rfl hb.2.2.2.2 : _ = iv b.2.2.2) ?_
  refine v_i2l hx DX0_draw_5 (w := (Int32.ofInt b.2.2.2).toInt64) rfl ?_
  refine v_ldc2 hx DX0_draw_6 cnRX0_83 ?_
  refine v_lmul hx DX0_draw_9 ?_
  refine v_ldc2 hx DX0_draw_10 cnRX0_85 ?_
  refine v_ladd hx DX0_draw_13 ?_
  refine v_ldc2 hx DX0_draw_14 cnRX0_87 ?_
  refine v_land hx DX0_draw_17 ?_
  refine v_l2i hx DX0_draw_18 (a := rnx b.2.2.2) (rnx_l ur) ?_
  refine v_pI hx DX0_draw_19 FPRX0_22 hK.1 rfl (ki := 3) rfl (fun μ1 eμ1 => ?_)
  refine v_aload hx DX0_draw_22 0 rfl ?_
  refine v_get hx DX0_draw_23 FLRX0_22 hK.1 (fv_i rfl (by rw [eμ1, mI_at]; rfl) : _ = iv (rnx b.2.2.2)) ?_
  refine v_ldc hx DX0_draw_26 cnRX0_89 (z := 65536) rfl ?_
  refine v_idiv hx (by omega) (by decide) DX0_draw_28 ?_
  exact v_ri hx hBD DX0_draw_29 (⟨rfl, by rw [eμ1]; exact draw_put hb, by rw [eμ1]; exact Fr.mI (by simp)⟩)
theorem b_become (l : Launch) (G : Gl) (Λ : Lay) (sz : Nat) (μ : Mem) {β α : Nat} {b c : Bd} (hK : boardK Λ β) (hb : BA μ β b) (hK2 : boardK Λ α) (hc : BA μ α c) (hne : α ≠ β) : Sp l G yX0_become cX0_become 2 none 1 [.ref β, .ref α] Λ sz μ (pV (fun μ' => BA μ' β c ∧ FrB β μ μ')) := by
  refine Sp.intro (by decide) (Nat.le_of_ble_eq_true rfl) (fun x hx hBD => ?_)
  refine v_lv [(0, .ref β), (1, .ref α)] rfl ?_
  have ap := hK.apart hK2 hne
  have ap2 := hK2.apart hK (fun q => hne q.symm)
  simp only [List.mem_cons, List.not_mem_nil, or_false, not_or] at ap ap2
  have n1 : α ≠ β + 1 := by omega
  have n2 : α ≠ β + 2 := by omega
  refine v_aload hx DX0_become_0 1 rfl ?_
  refine v_get hx DX0_become_1 FLRX0_9 hK2.1 (v := .ref (α + 1)) rfl ?_
  refine v_push hx DX0_become_4 ?_
  refine v_aload hx DX0_become_5 0 rfl ?_
  refine v_get hx DX0_become_6 FLRX0_9 hK.1 (v := .ref (β + 1)) rfl ?_
  refine v_push hx DX0_become_9 ?_
  refine v_aload hx DX0_become_10 0 rfl ?_
  refine v_get hx DX0_become_11 FLRX0_9 hK.1 (v := .ref (β + 1)) rfl ?_
  refine v_alenI hx DX0_become_14 hK.2.1 (by decide) (z := 180) rfl ?_
  refine v_acpy hx DX0_become_15 mlRX0_25 hK2.2.1 hK.2.1 (by decide) (by decide) (by omega) (by decide) (by decide) (fun μ1 eμ1 => ?_)
  refine v_aload hx DX0_become_18 1 rfl ?_
  refine v_get hx DX0_become_19 FLRX0_15 hK2.1 (v := .ref (α + 2)) rfl ?_
  refine v_push hx DX0_become_22 ?_
  refine v_aload hx DX0_become_23 0 rfl ?_
  refine v_get hx DX0_become_24 FLRX0_15 hK.1 (v := .ref (β + 2)) rfl ?_
  refine v_push hx DX0_become_27 ?_
  refine v_aload hx DX0_become_28 0 rfl ?_
  refine v_get hx DX0_become_29 FLRX0_15 hK.1 (v := .ref (β + 2)) rfl ?_
  refine v_alenI hx DX0_become_32 hK.2.2 (by decide) (z := 4) rfl ?_
  refine v_acpy hx DX0_become_33 mlRX0_25 hK2.2.2 hK.2.2 (by decide) (by decide) (by omega) (by decide) (by decide) (fun μ2 eμ2 => ?_)
  refine v_aload hx DX0_become_36 0 rfl ?_
  refine v_aload hx DX0_become_37 1 rfl ?_
  refine v_get hx DX0_become_38 FLRX0_18 hK2.1 (fv_i rfl (by rw [eμ2, mC_ne n2, eμ1, mC_ne n1]; exact hc.2.2.2.1) : _ = iv c.2.2.1) ?_
  refine v_pI hx DX0_become_41 FPRX0_18 hK.1 rfl (ki := 2) rfl (fun μ3 eμ3 => ?_)
  refine v_aload hx DX0_become_44 0 rfl ?_
  refine v_aload hx DX0_become_45 1 rfl ?_
  refine v_get hx DX0_become_46 FLRX0_22 hK2.1 (fv_i rfl (by rw [eμ3, mI_ne hne, eμ2, mC_ne n2, eμ1, mC_ne n1]; exact hc.2.2.2.2) : _ = iv c.2.2.2) ?_
  refine v_pI hx DX0_become_49 FPRX0_22 hK.1 rfl (ki := 3) rfl (fun μ4 eμ4 => ?_)
  exact v_rv hx hBD DX0_become_52 (by rw [eμ4, eμ3, eμ2, eμ1]; exact become_put hb hc ap ap2)
theorem b_store (l : Launch) (G : Gl) (Λ : Lay) (sz : Nat) (μ : Mem) {β f : Nat} {b : Bd} {t : Int} {N D : PS} (hK : boardK Λ β) (hb : BA μ β b) (hF : fracK Λ f) (hN : PA μ (f + 1) N) (hD : PA μ (f + 3) D) (ht : 0 ≤ t ∧ t < 15) : Sp l G yX0_store cX0_store 4 none 1 [.ref β, iv t, .ref f] Λ sz μ (pV (fun μ' => BA μ' β (b.sto t N D) ∧ FrB β μ μ')) := by
  refine Sp.intro (by decide) (Nat.le_of_ble_eq_true rfl) (fun x hx hBD => ?_)
  refine v_lv [(0, .ref β), (1, iv t), (2, .ref f)] rfl ?_
  have o := hK.off
  have p1 : ¬ (f + 1 = β + 1) := fun q => o.2.1 (q ▸ Or.inl hF.2.1)
  have p2 : ¬ (f + 1 + 1 = β + 1) := fun q => o.2.1 (Or.inr ⟨f + 1, q.symm, hF.2.1⟩)
  have p3 : ¬ (f + 3 = β + 1) := fun q => o.2.1 (q ▸ Or.inl hF.2.2)
  have p4 : ¬ (f + 3 + 1 = β + 1) := fun q => o.2.1 (Or.inr ⟨f + 3, q.symm, hF.2.2⟩)
  have L12 : ∀ (nf : Nat) (k : Int) (m : Mem), (12 - k < (nf : Int)) → (0 ≤ k ∧ k ≤ 12) → (Fr [β + 1] μ m) → (∀ j : Int, 0 ≤ j → j < 180 → m.1 (β + 1) j = b.stk t N D k j) → V G x (0, 0) Λ sz m 12 [(3, iv k), (0, .ref β), (1, iv t), (2, .ref f)] [] := by
    intro nf
    induction nf with
    | zero => intro k m hm hk hm1 hm2; exact absurd hm (by omega)
    | succ nf ih =>
      intro k m hm hk hm1 hm2
      have hN2 : PA m (f + 1) N := hN.kept hm1 (by simpa using p1) (by simpa using p2)
      have hD2 : PA m (f + 3) D := hD.kept hm1 (by simpa using p3) (by simpa using p4)
      refine v_iload hx DX0_store_12 0 rfl ?_
      refine v_push hx DX0_store_13 ?_
      refine v_icmp_ge hx DX0_store_15 (by omega) (by decide) (fun c15 => ?_) (fun c15 => ?_)
      · skip
        exact v_rv hx hBD DX0_store_65 (⟨⟨Bd.sto_ok hb.1 t N D, fun j h0 h1 => by rw [hm2 j h0 h1, show k = 12 by omega]; rfl, fun j h0 h1 => by rw [hm1.1 _ (by simp)]; exact hb.2.2.1 j h0 h1, by rw [hm1.1 _ (by simp)]; exact hb.2.2.2.1, by rw [hm1.1 _ (by simp)]; exact hb.2.2.2.2⟩, hm1.mono (fun a ha => by simp at ha ⊢; omega)⟩)
      · skip
        refine v_aload hx DX0_store_18 1 rfl ?_
        refine v_get hx DX0_store_19 FLRX0_9 hK.1 (v := .ref (β + 1)) rfl ?_
        refine v_iload hx DX0_store_22 2 rfl ?_
        refine v_push hx DX0_store_23 ?_
        refine v_imul hx DX0_store_25 ?_
        refine v_iload hx DX0_store_26 0 rfl ?_
        refine v_iadd hx DX0_store_27 ?_
        refine v_iload hx DX0_store_28 0 rfl ?_
        refine v_push hx DX0_store_29 ?_
        refine v_icmp_gt hx DX0_store_31 (by omega) (by decide) (fun c31 => ?_) (fun c31 => ?_)
        · skip
          refine v_aload hx DX0_store_45 3 rfl ?_
          refine v_get hx DX0_store_46 FLRX0_55 hF.1 (v := .ref (f + 3)) rfl ?_
          refine v_iload hx DX0_store_49 0 rfl ?_
          refine v_push hx DX0_store_50 ?_
          refine v_isub hx DX0_store_52 ?_
          refine v_push hx DX0_store_53 ?_
          refine v_isub hx DX0_store_54 ?_
          refine v_cVp hx DX0_store_55 CVRX0_58 [iv ((k - 6) - 1)] (s_at l G Λ sz m hF.2.2 hD2 (by omega)) hF.2.2.1 rfl rfl (Nat.le_of_ble_eq_true rfl) (by decide) ⟨Nat.le_refl _, Nat.le_refl _⟩ ?_
          obtain ⟨zz, ezz⟩ : ∃ zz, zz = ca D (k - 6 - 1) := ⟨_, rfl⟩
          have hzz : zz = if k ≤ 6 then cf N k else cf D (k - 7) := by rw [if_neg (by omega), ezz, ca_of (by omega), show k - 6 - 1 = k - 7 by omega]
          rw [← ezz]
          refine v_iastm hx DX0_store_58 hK.2.1 (by omega) (by decide) (fun μ3 eμ3 => ?_)
          have hmm : μ3 = mI m (β + 1) (t * 12 + k) zz := eμ3
          refine v_iinc hx DX0_store_59 0 rfl [(3, iv (k + 1)), (0, .ref β), (1, iv t), (2, .ref f)] rfl (by decide) ?_
          refine v_goto hx DX0_store_62 ?_
          exact v_sub [0, 1, 2, 3] _ rfl (ih (k + 1) μ3 (by omega) (by omega) (hm1.trans (hmm ▸ Fr.mI (by simp))) (fun j h0 h1 => by rw [hmm, mI_at, ← Bd.stk_next (z := zz) (by omega) hzz, hm2 j h0 h1]))
        · skip
          refine v_aload hx DX0_store_34 3 rfl ?_
          refine v_get hx DX0_store_35 FLRX0_41 hF.1 (v := .ref (f + 1)) rfl ?_
          refine v_iload hx DX0_store_38 0 rfl ?_
          refine v_cVp hx DX0_store_39 CVRX0_58 [iv k] (s_at l G Λ sz m hF.2.1 hN2 (by omega)) hF.2.1.1 rfl rfl (Nat.le_of_ble_eq_true rfl) (by decide) ⟨Nat.le_refl _, Nat.le_refl _⟩ ?_
          obtain ⟨zz, ezz⟩ : ∃ zz, zz = ca N k := ⟨_, rfl⟩
          have hzz : zz = if k ≤ 6 then cf N k else cf D (k - 7) := by rw [if_pos (by omega), ezz, ca_of (by omega)]
          rw [← ezz]
          refine v_goto hx DX0_store_42 ?_
          refine v_iastm hx DX0_store_58 hK.2.1 (by omega) (by decide) (fun μ6 eμ6 => ?_)
          have hmm : μ6 = mI m (β + 1) (t * 12 + k) zz := eμ6
          refine v_iinc hx DX0_store_59 0 rfl [(3, iv (k + 1)), (0, .ref β), (1, iv t), (2, .ref f)] rfl (by decide) ?_
          refine v_goto hx DX0_store_62 ?_
          exact v_sub [0, 1, 2, 3] _ rfl (ih (k + 1) μ6 (by omega) (by omega) (hm1.trans (hmm ▸ Fr.mI (by simp))) (fun j h0 h1 => by rw [hmm, mI_at, ← Bd.stk_next (z := zz) (by omega) hzz, hm2 j h0 h1]))
  refine v_iload hx DX0_store_0 1 rfl ?_
  refine v_push hx DX0_store_1 ?_
  refine v_cSp hx DX0_store_3 CSRX0_31 [iv t, iv 11] (b_hasCell l G Λ sz μ (by omega) (by omega)) rfl rfl (Nat.le_of_ble_eq_true rfl) (by decide) ⟨Nat.le_refl _, Nat.le_refl _⟩ ?_
  have hcc : hasC t 11 = 1 := by unfold hasC; rw [if_pos (by omega)]
  refine v_if_ne hx DX0_store_6 (by omega) (fun c6 => ?_) (fun c6 => ?_)
  · skip
    refine v_push hx DX0_store_10 ?_
    refine v_istore hx DX0_store_11 [(3, iv 0), (0, .ref β), (1, iv t), (2, .ref f)] rfl (by decide) ?_
    exact v_sub [0, 1, 2, 3] _ rfl (L12 100 0 μ (by omega) (by omega) Fr.rf (fun j h0 h1 => by rw [hb.2.1 j h0 h1]; unfold Bd.stk; rw [if_neg (by omega)]))
  · exact absurd c6 (by omega)
theorem b_load (l : Launch) (G : Gl) (Λ : Lay) (sz : Nat) (μ : Mem) {π : Nat → PS} {β f : Nat} {b : Bd} {t : Int} (hA : AB Λ μ π) (hK : boardK Λ β) (hb : BA μ β b) (hF : fracK Λ f) (ht : inR t) : Sp l G yX0_load cX0_load 4 none 3 [.ref β, iv t, .ref f] Λ sz μ (pV (fun μ' => ∃ π', Chg Λ (fun c => c = f + 1 ∨ c = f + 3) μ μ' π π' ∧ π' (f + 1) = b.num t ∧ π' (f + 3) = b.den t)) := by
  refine Sp.intro (by decide) (Nat.le_of_ble_eq_true rfl) (fun x hx hBD => ?_)
  refine v_lv [(0, .ref β), (1, iv t), (2, .ref f)] rfl ?_
  have hcc : (hasC t 0 = 0 ∧ ¬ (0 ≤ t ∧ t < 15)) ∨ (hasC t 0 = 1 ∧ (0 ≤ t ∧ t < 15)) := by
    unfold hasC; split
    · exact Or.inr ⟨rfl, by omega⟩
    · exact Or.inl ⟨rfl, by omega⟩
  have hch0 : Chg Λ (fun c => c = f + 1 ∨ c = f + 3) μ μ π π := Chg.rf hA
  have L44 : ∀ (nf : Nat) (k : Int) (m : Mem) (πk : Nat → PS), (5 - k < (nf : Int)) → (Chg Λ (fun c => c = f + 1 ∨ c = f + 3) μ m π πk) → (πk (f + 1) = b.num t) → (πk (f + 3) = PS.one.mix (b.den t) k.toNat) → (0 ≤ k ∧ k ≤ 5) → (0 ≤ t ∧ t < 15) → V G x (0, 0) Λ sz m 44 [(3, iv k), (0, .ref β), (1, iv t), (2, .ref f)] [] := by
    intro nf
    induction nf with
    | zero => intro k m πk hm hchπk vπk_0 vπk_1 hk ht2; exact absurd hm (by omega)
    | succ nf ih =>
      intro k m πk hm hchπk vπk_0 vπk_1 hk ht2
      have hAπk := hchπk.1
      refine v_iload hx DX0_load_44 0 rfl ?_
      refine v_push hx DX0_load_45 ?_
      refine v_icmp_gt hx DX0_load_46 (by omega) (by decide) (fun c46 => ?_) (fun c46 => ?_)
      · skip
        exact v_rv hx hBD DX0_load_72 (⟨πk, hchπk, vπk_0, vπk_1.trans (by rw [show k.toNat = 5 by omega]; exact PS.mix_end0 (PS.lt_mono (PS.C_lt 1) (by omega)) (b.den_lt t))⟩)
      · skip
        refine v_aload hx DX0_load_49 3 rfl ?_
        refine v_get hx DX0_load_50 FLRX0_55 hF.1 (v := .ref (f + 3)) rfl ?_
        refine v_iload hx DX0_load_53 0 rfl ?_
        refine v_aload hx DX0_load_54 1 rfl ?_
        refine v_iload hx DX0_load_55 2 rfl ?_
        refine v_push hx DX0_load_56 ?_
        refine v_iload hx DX0_load_58 0 rfl ?_
        refine v_iadd hx DX0_load_59 ?_
        refine v_cVp hx DX0_load_60 CVRX0_45 [iv t, iv (7 + k)] (b_cell l G Λ sz m hK (hb.oth hK hchπk.2.2) (by omega) (by omega)) hK.1 rfl rfl (Nat.le_of_ble_eq_true rfl) (by decide) ⟨Nat.le_refl _, Nat.le_refl _⟩ ?_
        have hcr := Bd.cell_rng hb.1 t (7 + k)
        refine v_cVv hx DX0_load_63 CVRX0_49 [iv k, iv (b.cell t (7 + k))] (s_put l G Λ sz m hF.2.2 (AB.get (A := PS.one.mix (b.den t) k.toNat) hAπk hF.2.2 vπk_1) (by omega) (by omega)) hF.2.2.1 rfl rfl (Nat.le_of_ble_eq_true rfl) (by decide) ⟨Nat.le_refl _, Nat.le_refl _⟩ (fun μ3 hμ3 => ?_)
        obtain ⟨π3, hc3, he3, ho3⟩ := Chg.one (S := fun c => c = f + 1 ∨ c = f + 3) (R := PS.putc (PS.one.mix (b.den t) k.toNat) k (fi (b.cell t (7 + k)))) hAπk hF.2.2 (by first | omega | (dsimp only; omega)) hμ3
        have hA3 := hc3.1
        have hch3 := hchπk.trans hc3
        have v3_0 : π3 (f + 1) = b.num t := (ho3 (f + 1) (by omega)).trans vπk_0
        have w4 : π3 (f + 3) = PS.one.mix (b.den t) (k + 1).toNat := he3.trans (by unfold PS.putc; rw [if_neg (by omega), ← Bd.den_cf hb.1 ht2 hk.1 (by omega), fi_cf, PS.mix_set, show (k + 1).toNat = k.toNat + 1 by omega])
        refine v_iinc hx DX0_load_66 0 rfl [(3, iv (k + 1)), (0, .ref β), (1, iv t), (2, .ref f)] rfl (by decide) ?_
        refine v_goto hx DX0_load_69 ?_
        exact v_sub [0, 1, 2, 3] _ rfl (ih (k + 1) μ3 π3 (by omega) hch3 v3_0 w4 (by omega) ht2)
  have L16 : ∀ (nf : Nat) (k : Int) (m : Mem) (πk : Nat → PS), (7 - k < (nf : Int)) → (Chg Λ (fun c => c = f + 1 ∨ c = f + 3) μ m π πk) → (πk (f + 1) = (b.num t).tr k.toNat) → (πk (f + 3) = PS.one) → (0 ≤ k ∧ k ≤ 7) → (0 ≤ t ∧ t < 15) → V G x (0, 0) Λ sz m 16 [(3, iv k), (0, .ref β), (1, iv t), (2, .ref f)] [] := by
    intro nf
    induction nf with
    | zero => intro k m πk hm hchπk vπk_0 vπk_1 hk ht2; exact absurd hm (by omega)
    | succ nf ih =>
      intro k m πk hm hchπk vπk_0 vπk_1 hk ht2
      have hAπk := hchπk.1
      refine v_iload hx DX0_load_16 0 rfl ?_
      refine v_push hx DX0_load_17 ?_
      refine v_icmp_gt hx DX0_load_19 (by omega) (by decide) (fun c19 => ?_) (fun c19 => ?_)
      · skip
        refine v_push hx DX0_load_42 ?_
        refine v_istore hx DX0_load_43 [(3, iv 0), (0, .ref β), (1, iv t), (2, .ref f)] rfl (by decide) ?_
        exact v_sub [0, 1, 2, 3] _ rfl (L44 100 0 m πk (by omega) hchπk (vπk_0.trans (by rw [show k.toNat = 7 by omega]; exact PS.tr_end (b.num_lt t))) (vπk_1.trans ((PS.mix0 _ _).symm)) (by omega) ht2)
      · skip
        refine v_aload hx DX0_load_22 3 rfl ?_
        refine v_get hx DX0_load_23 FLRX0_41 hF.1 (v := .ref (f + 1)) rfl ?_
        refine v_iload hx DX0_load_26 0 rfl ?_
        refine v_aload hx DX0_load_27 1 rfl ?_
        refine v_iload hx DX0_load_28 2 rfl ?_
        refine v_iload hx DX0_load_29 0 rfl ?_
        refine v_cVp hx DX0_load_30 CVRX0_45 [iv t, iv k] (b_cell l G Λ sz m hK (hb.oth hK hchπk.2.2) (by omega) (by omega)) hK.1 rfl rfl (Nat.le_of_ble_eq_true rfl) (by decide) ⟨Nat.le_refl _, Nat.le_refl _⟩ ?_
        have hcr := Bd.cell_rng hb.1 t k
        refine v_cVv hx DX0_load_33 CVRX0_49 [iv k, iv (b.cell t k)] (s_put l G Λ sz m hF.2.1 (AB.get (A := (b.num t).tr k.toNat) hAπk hF.2.1 vπk_0) (by omega) (by omega)) hF.2.1.1 rfl rfl (Nat.le_of_ble_eq_true rfl) (by decide) ⟨Nat.le_refl _, Nat.le_refl _⟩ (fun μ7 hμ7 => ?_)
        obtain ⟨π7, hc7, he7, ho7⟩ := Chg.one (S := fun c => c = f + 1 ∨ c = f + 3) (R := PS.putc ((b.num t).tr k.toNat) k (fi (b.cell t k))) hAπk hF.2.1 (by first | omega | (dsimp only; omega)) hμ7
        have hA7 := hc7.1
        have hch7 := hchπk.trans hc7
        have v7_1 : π7 (f + 3) = PS.one := (ho7 (f + 3) (by omega)).trans vπk_1
        have w8 : π7 (f + 1) = (b.num t).tr (k + 1).toNat := he7.trans (by unfold PS.putc; rw [if_neg (by omega), ← Bd.num_cf hb.1 hk.1 (by omega), fi_cf, PS.tr_set, show (k + 1).toNat = k.toNat + 1 by omega])
        refine v_iinc hx DX0_load_36 0 rfl [(3, iv (k + 1)), (0, .ref β), (1, iv t), (2, .ref f)] rfl (by decide) ?_
        refine v_goto hx DX0_load_39 ?_
        exact v_sub [0, 1, 2, 3] _ rfl (ih (k + 1) μ7 π7 (by omega) hch7 w8 v7_1 (by omega) ht2)
  refine v_aload hx DX0_load_0 2 rfl ?_
  refine v_push hx DX0_load_1 ?_
  refine v_cVv hx DX0_load_2 CVRX0_35 [iv 0] (q_fset l G Λ sz μ hA hF (by omega)) hF.1 rfl rfl (Nat.le_of_ble_eq_true rfl) (by decide) ⟨Nat.le_refl _, Nat.le_refl _⟩ (fun μ9 hμ9 => ?_)
  obtain ⟨π9, hc9, he9_0, he9_1⟩ := hμ9
  have hA9 := hc9.1
  have hch9 := hch0.trans (hc9.mono (fun c hc => by first | omega | (dsimp only at hc ⊢; omega)))
  have g9_0 : π9 (f + 1) = PS.zero := he9_0.trans PS.C0
  refine v_iload hx DX0_load_5 1 rfl ?_
  refine v_push hx DX0_load_6 ?_
  refine v_cSp hx DX0_load_7 CSRX0_31 [iv t, iv 0] (b_hasCell l G Λ sz μ9 (by omega) (by omega)) rfl rfl (Nat.le_of_ble_eq_true rfl) (by decide) ⟨Nat.le_refl _, Nat.le_refl _⟩ ?_
  refine v_if_ne hx DX0_load_10 (by omega) (fun c10 => ?_) (fun c10 => ?_)
  · skip
    refine v_push hx DX0_load_14 ?_
    refine v_istore hx DX0_load_15 [(3, iv 0), (0, .ref β), (1, iv t), (2, .ref f)] rfl (by decide) ?_
    exact v_sub [0, 1, 2, 3] _ rfl (L16 100 0 μ9 π9 (by omega) hch9 (g9_0.trans ((PS.tr_zero _).symm)) he9_1 (by omega) (by omega))
  · skip
    exact v_rv hx hBD DX0_load_13 (⟨π9, hch9, g9_0.trans (num_out (by omega)).symm, he9_1.trans (den_out (by omega)).symm⟩)
theorem b_loadU (l : Launch) (G : Gl) (Λ : Lay) (sz : Nat) (μ : Mem) {π : Nat → PS} {β p : Nat} {b : Bd} (hA : AB Λ μ π) (hK : boardK Λ β) (hb : BA μ β b) (hkp : polyK Λ p) : Sp l G yX0_loadU cX0_loadU 3 none 2 [.ref β, .ref p] Λ sz μ (pV (fun μ' => ∃ π', Chg Λ (fun c => c = p) μ μ' π π' ∧ π' p = b.uP)) := by
  refine Sp.intro (by decide) (Nat.le_of_ble_eq_true rfl) (fun x hx hBD => ?_)
  refine v_lv [(0, .ref β), (1, .ref p)] rfl ?_
  have hch0 : Chg Λ (fun c => c = p) μ μ π π := Chg.rf hA
  have L6 : ∀ (nf : Nat) (k : Int) (m : Mem) (πk : Nat → PS), (4 - k < (nf : Int)) → (Chg Λ (fun c => c = p) μ m π πk) → (πk p = b.uP.tr k.toNat) → (0 ≤ k ∧ k ≤ 4) → V G x (0, 0) Λ sz m 6 [(2, iv k), (0, .ref β), (1, .ref p)] [] := by
    intro nf
    induction nf with
    | zero => intro k m πk hm hchπk vπk_0 hk; exact absurd hm (by omega)
    | succ nf ih =>
      intro k m πk hm hchπk vπk_0 hk
      have hAπk := hchπk.1
      refine v_iload hx DX0_loadU_6 0 rfl ?_
      refine v_aload hx DX0_loadU_7 1 rfl ?_
      refine v_get hx DX0_loadU_8 FLRX0_15 hK.1 (v := .ref (β + 2)) rfl ?_
      refine v_alenI hx DX0_loadU_11 hK.2.2 (by decide) (z := 4) rfl ?_
      refine v_icmp_ge hx DX0_loadU_12 (by omega) (by decide) (fun c12 => ?_) (fun c12 => ?_)
      · skip
        exact v_rv hx hBD DX0_loadU_32 (⟨πk, hchπk, vπk_0.trans (by rw [show k.toNat = 4 by omega]; exact PS.tr_end b.uP_lt)⟩)
      · skip
        refine v_aload hx DX0_loadU_15 2 rfl ?_
        refine v_iload hx DX0_loadU_16 0 rfl ?_
        refine v_aload hx DX0_loadU_17 1 rfl ?_
        refine v_get hx DX0_loadU_18 FLRX0_15 hK.1 (v := .ref (β + 2)) rfl ?_
        refine v_iload hx DX0_loadU_21 0 rfl ?_
        refine v_iald hx DX0_loadU_22 hK.2.2 (by omega) (by decide) (z := b.2.1 k) ((hb.oth hK hchπk.2.2).2.2.1 k (by omega) (by omega)) ?_
        refine v_cVv hx DX0_loadU_23 CVRX0_49 [iv k, iv (b.2.1 k)] (s_put l G Λ sz m hkp (AB.get (A := b.uP.tr k.toNat) hAπk hkp vπk_0) (by omega) (by have := hb.1.2.1 k; omega)) hkp.1 rfl rfl (Nat.le_of_ble_eq_true rfl) (by decide) ⟨Nat.le_refl _, Nat.le_refl _⟩ (fun μ1 hμ1 => ?_)
        obtain ⟨π1, hc1, he1, ho1⟩ := Chg.one (S := fun c => c = p) (R := PS.putc (b.uP.tr k.toNat) k (fi (b.2.1 k))) hAπk hkp (by first | omega | (dsimp only; omega)) hμ1
        have hA1 := hc1.1
        have hch1 := hchπk.trans hc1
        have w2 : π1 p = b.uP.tr (k + 1).toNat := he1.trans (by unfold PS.putc; rw [if_neg (by omega), show fi (b.2.1 k) = b.uP k.toNat from (by unfold Bd.uP; rw [if_pos (by omega), Int.toNat_of_nonneg hk.1]), PS.tr_set, show (k + 1).toNat = k.toNat + 1 by omega])
        refine v_iinc hx DX0_loadU_26 0 rfl [(2, iv (k + 1)), (0, .ref β), (1, .ref p)] rfl (by decide) ?_
        refine v_goto hx DX0_loadU_29 ?_
        exact v_sub [0, 1, 2] _ rfl (ih (k + 1) μ1 π1 (by omega) hch1 w2 (by omega))
  refine v_aload hx DX0_loadU_0 1 rfl ?_
  refine v_cVv hx DX0_loadU_1 CVRX0_80 [] (s_clear l G Λ sz μ hkp (AB.get (A := π p) hA hkp rfl)) hkp.1 rfl rfl (Nat.le_of_ble_eq_true rfl) (by decide) ⟨Nat.le_refl _, Nat.le_refl _⟩ (fun μ3 hμ3 => ?_)
  obtain ⟨π3, hc3, he3, ho3⟩ := Chg.one (S := fun c => c = p) (R := PS.zero) hA hkp (by first | omega | (dsimp only; omega)) hμ3
  have hA3 := hc3.1
  have hch3 := hch0.trans hc3
  refine v_push hx DX0_loadU_4 ?_
  refine v_istore hx DX0_loadU_5 [(2, iv 0), (0, .ref β), (1, .ref p)] rfl (by decide) ?_
  exact v_sub [0, 1, 2] _ rfl (L6 100 0 μ3 π3 (by omega) hch3 (he3.trans ((PS.tr_zero _).symm)) (by omega))
