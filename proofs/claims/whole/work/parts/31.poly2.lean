theorem s_put (l : Launch) (G : Gl) (Λ : Lay) (sz : Nat) (μ : Mem) {t : Nat} {k v : Int} {p : PS} (hT : polyK Λ t) (hP : PA μ t p) (hk : -1 ≤ k ∧ k < 48) (hv : 0 ≤ v ∧ v ≤ 2147483647) : Sp l G yX5_put cX5_put 3 none 1 [.ref t, iv k, iv v] Λ sz μ (pV (fun μ' => PA μ' t (p.putc k (fi v)) ∧ Fr [t, t + 1] μ μ')) := by
  refine Sp.intro (by decide) (Nat.le_of_ble_eq_true rfl) (fun x hx hB => ?_)
  refine v_lv [(0, .ref t), (1, iv k), (2, iv v)] rfl ?_
  have hs := hP.le
  refine v_iload hx DX5_put_0 1 rfl ?_
  refine v_if_lt hx DX5_put_1 (by omega) (fun c1 => ?_) (fun c1 => ?_)
  · skip
    exact v_rv hx hB DX5_put_35 (⟨by unfold PS.putc; rw [if_pos c1]; exact hP, Fr.rf⟩)
  · skip
    refine v_iload hx DX5_put_4 1 rfl ?_
    refine v_aload hx DX5_put_5 0 rfl ?_
    refine v_get hx DX5_put_6 FLRX5_9 hT.1 (v := .ref (t + 1)) rfl ?_
    refine v_alenI hx DX5_put_9 hT.2 (by decide) (z := 48) rfl ?_
    refine v_icmp_ge hx DX5_put_10 (by omega) (by decide) (fun c10 => ?_) (fun c10 => ?_)
    · exact absurd c10 (by omega)
    · skip
      refine v_aload hx DX5_put_13 0 rfl ?_
      refine v_get hx DX5_put_14 FLRX5_9 hT.1 (v := .ref (t + 1)) rfl ?_
      refine v_iload hx DX5_put_17 1 rfl ?_
      refine v_iload hx DX5_put_18 2 rfl ?_
      refine v_push hx DX5_put_19 ?_
      refine v_irem hx (by omega) (by decide) DX5_put_21 ?_
      refine v_iastm hx DX5_put_22 hT.2 (by omega) (by decide) (fun μ1 eμ1 => ?_)
      have hca : CA μ1 t (p.set k.toNat (fi v)) := by rw [eμ1]; exact hP.1.set (by omega) (by omega) (fi_val v).symm
      have hfr : Fr [t, t + 1] μ μ1 := by rw [eμ1]; exact Fr.mI (by simp)
      refine v_aload hx DX5_put_23 0 rfl ?_
      refine v_iload hx DX5_put_24 1 rfl ?_
      refine v_aload hx DX5_put_25 0 rfl ?_
      refine v_get hx DX5_put_26 FLRX5_15 hT.1 (fv_i rfl (by rw [eμ1, mI_ne (by omega)]; exact hP.2) : _ = iv ((p.size : Int) - 1)) ?_
      refine v_cSp hx DX5_put_29 CSRX5_19 [iv k, iv ((p.size : Int) - 1)] (s_max l G Λ sz μ1 (by omega) (by omega)) rfl rfl (Nat.le_of_ble_eq_true rfl) (by decide) ⟨Nat.le_refl _, Nat.le_refl _⟩ ?_
      refine v_cVv hx DX5_put_32 CVRX5_25 [iv (max k ((p.size : Int) - 1))] (s_settle l G Λ sz μ1 hT hca (by omega) (fun j hj => by unfold PS.set; rw [if_neg (by omega)]; exact PS.lt_size hP.1.1 j (by omega))) hT.1 rfl rfl (Nat.le_of_ble_eq_true rfl) (by decide) ⟨Nat.le_refl _, Nat.le_refl _⟩ (fun μ4 hμ4 => ?_)
      exact v_rv hx hB DX5_put_35 (⟨by unfold PS.putc; rw [if_neg (by omega), hμ4]; exact PA.of hca, by rw [hμ4]; exact hfr.trans (Fr.mI (by simp))⟩)
theorem s_clear (l : Launch) (G : Gl) (Λ : Lay) (sz : Nat) (μ : Mem) {t : Nat} {p : PS} (hT : polyK Λ t) (hP : PA μ t p) : Sp l G yX5_clear cX5_clear 2 none 0 [.ref t] Λ sz μ (pV (fun μ' => PA μ' t PS.zero ∧ Fr [t, t + 1] μ μ')) := by
  refine Sp.intro (by decide) (Nat.le_of_ble_eq_true rfl) (fun x hx hB => ?_)
  refine v_lv [(0, .ref t)] rfl ?_
  have hs := hP.le
  have L2 : ∀ (n : Nat) (k : Int) (m : Mem), (48 - k < (n : Int)) → (0 ≤ k ∧ k ≤ 48) → (CA m t (p.mix PS.zero k.toNat)) → (m.1 t 1 = (p.size : Int) - 1) → (Fr [t, t + 1] μ m) → V G x (0, 0) Λ sz m 2 [(1, iv k), (0, .ref t)] [] := by
    intro n
    induction n with
    | zero => intro k m hm hk hc hd hf; exact absurd hm (by omega)
    | succ n ih =>
      intro k m hm hk hc hd hf
      refine v_iload hx DX5_clear_2 0 rfl ?_
      refine v_aload hx DX5_clear_3 1 rfl ?_
      refine v_get hx DX5_clear_4 FLRX5_15 hT.1 (fv_i rfl hd : _ = iv ((p.size : Int) - 1)) ?_
      refine v_icmp_gt hx DX5_clear_7 (by omega) (by omega) (fun c7 => ?_) (fun c7 => ?_)
      · skip
        refine v_aload hx DX5_clear_32 1 rfl ?_
        refine v_push hx DX5_clear_33 ?_
        refine v_pI hx DX5_clear_34 FPRX5_15 hT.1 rfl (ki := 1) rfl (fun μ1 eμ1 => ?_)
        exact v_rv hx hB DX5_clear_37 (⟨by rw [eμ1]; have h := PA.of (t := t) (show CA m t PS.zero by rw [← PS.mix_end (p := p) (q := PS.zero) (k := k.toNat) (fun n hn => PS.lt_size hP.1.1 n (by omega))]; exact hc); rw [PS.size_zero] at h; exact h, hf.trans (by rw [eμ1]; exact Fr.mI (by simp))⟩)
      · skip
        refine v_iload hx DX5_clear_10 0 rfl ?_
        refine v_aload hx DX5_clear_11 1 rfl ?_
        refine v_get hx DX5_clear_12 FLRX5_9 hT.1 (v := .ref (t + 1)) rfl ?_
        refine v_alenI hx DX5_clear_15 hT.2 (by decide) (z := 48) rfl ?_
        refine v_icmp_ge hx DX5_clear_16 (by omega) (by decide) (fun c16 => ?_) (fun c16 => ?_)
        · exact absurd c16 (by omega)
        · skip
          refine v_aload hx DX5_clear_19 1 rfl ?_
          refine v_get hx DX5_clear_20 FLRX5_9 hT.1 (v := .ref (t + 1)) rfl ?_
          refine v_iload hx DX5_clear_23 0 rfl ?_
          refine v_push hx DX5_clear_24 ?_
          refine v_iastm hx DX5_clear_25 hT.2 (by omega) (by decide) (fun μ2 eμ2 => ?_)
          refine v_iinc hx DX5_clear_26 0 rfl [(1, iv (k + 1)), (0, .ref t)] rfl (by decide) ?_
          refine v_goto hx DX5_clear_29 ?_
          exact v_sub [0, 1] _ rfl (ih (k + 1) μ2 (by omega) (by omega) (by rw [eμ2]; exact hc.step (PS.zero_lt 48) (by omega) (by omega) rfl) (by rw [eμ2, mI_ne (by omega)]; exact hd) (hf.trans (by rw [eμ2]; exact Fr.mI (by simp))))
  refine v_push hx DX5_clear_0 ?_
  refine v_istore hx DX5_clear_1 [(1, iv 0), (0, .ref t)] rfl (by decide) ?_
  exact v_sub [0, 1] _ rfl (L2 100 0 μ (by omega) (by omega) (by rw [PS.mix_start (fun n hn => absurd hn (by omega))]; exact hP.1) hP.2 Fr.rf)
theorem s_setNumber (l : Launch) (G : Gl) (Λ : Lay) (sz : Nat) (μ : Mem) {t : Nat} {v : Int} {p : PS} (hT : polyK Λ t) (hP : PA μ t p) (hv : 0 ≤ v ∧ v ≤ 2147483647) : Sp l G yX5_setNumber cX5_setNumber 2 none 1 [.ref t, iv v] Λ sz μ (pV (fun μ' => PA μ' t (PS.C (fi v)) ∧ Fr [t, t + 1] μ μ')) := by
  refine Sp.intro (by decide) (Nat.le_of_ble_eq_true rfl) (fun x hx hB => ?_)
  refine v_lv [(0, .ref t), (1, iv v)] rfl ?_
  refine v_aload hx DX5_setNumber_0 0 rfl ?_
  refine v_cVv hx DX5_setNumber_1 CVRX5_29 [] (s_clear l G Λ sz μ hT hP) hT.1 rfl rfl (Nat.le_of_ble_eq_true rfl) (by decide) ⟨Nat.le_refl _, Nat.le_refl _⟩ (fun μ1 hμ1 => ?_)
  obtain ⟨hP1, hf1⟩ := hμ1
  refine v_aload hx DX5_setNumber_4 0 rfl ?_
  refine v_get hx DX5_setNumber_5 FLRX5_9 hT.1 (v := .ref (t + 1)) rfl ?_
  refine v_push hx DX5_setNumber_8 ?_
  refine v_iload hx DX5_setNumber_9 1 rfl ?_
  refine v_push hx DX5_setNumber_10 ?_
  refine v_irem hx (by omega) (by decide) DX5_setNumber_12 ?_
  refine v_iastm hx DX5_setNumber_13 hT.2 (by omega) (by decide) (fun μ3 eμ3 => ?_)
  have hca : CA μ3 t (PS.C (fi v)) := by
    have h : CA μ3 t (PS.zero.set (0 : Int).toNat (fi v)) := by rw [eμ3]; exact hP1.1.set (by omega) (by omega) (fi_val v).symm
    exact h
  have hfr : Fr [t, t + 1] μ μ3 := hf1.trans (by rw [eμ3]; exact Fr.mI (by simp))
  refine v_aload hx DX5_setNumber_14 0 rfl ?_
  refine v_push hx DX5_setNumber_15 ?_
  refine v_cVv hx DX5_setNumber_16 CVRX5_25 [iv 0] (s_settle l G Λ sz μ3 hT hca (by omega) (fun j hj => PS.C_lt _ j (by omega))) hT.1 rfl rfl (Nat.le_of_ble_eq_true rfl) (by decide) ⟨Nat.le_refl _, Nat.le_refl _⟩ (fun μ4 hμ4 => ?_)
  exact v_rv hx hB DX5_setNumber_19 (⟨by rw [hμ4]; exact PA.of hca, by rw [hμ4]; exact hfr.trans (Fr.mI (by simp))⟩)
theorem s_become (l : Launch) (G : Gl) (Λ : Lay) (sz : Nat) (μ : Mem) {t a : Nat} {p q : PS} (hT : polyK Λ t) (hA : polyK Λ a) (hne : t ≠ a) (hP : PA μ t p) (hQ : PA μ a q) : Sp l G yX5_become cX5_become 4 none 1 [.ref t, .ref a] Λ sz μ (pV (fun μ' => PA μ' t q ∧ Fr [t, t + 1] μ μ')) := by
  refine Sp.intro (by decide) (Nat.le_of_ble_eq_true rfl) (fun x hx hB => ?_)
  refine v_lv [(0, .ref t), (1, .ref a)] rfl ?_
  have hs := hP.le
  have hq := hQ.le
  have hn1 : a ≠ t + 1 := fun e => by have h := hA.1; rw [e, hT.2] at h; cases h
  have L14 : ∀ (n : Nat) (k : Int) (m : Mem), (48 - k < (n : Int)) → (0 ≤ k ∧ k ≤ 48) → (CA m t (p.mix q k.toNat)) → (Fr [t + 1] μ m) → V G x (0, 0) Λ sz m 14 [(3, iv k), (2, iv (max ((p.size : Int) - 1) ((q.size : Int) - 1))), (0, .ref t), (1, .ref a)] [] := by
    intro n
    induction n with
    | zero => intro k m hm hk hc hf; exact absurd hm (by omega)
    | succ n ih =>
      intro k m hm hk hc hf
      refine v_iload hx DX5_become_14 0 rfl ?_
      refine v_iload hx DX5_become_15 1 rfl ?_
      refine v_icmp_gt hx DX5_become_16 (by omega) (by omega) (fun c16 => ?_) (fun c16 => ?_)
      · skip
        refine v_aload hx DX5_become_55 2 rfl ?_
        refine v_aload hx DX5_become_56 3 rfl ?_
        refine v_get hx DX5_become_57 FLRX5_15 hA.1 (fv_i rfl (by rw [hf.1 a (by simp; omega)]; exact hQ.2) : _ = iv ((q.size : Int) - 1)) ?_
        refine v_pI hx DX5_become_60 FPRX5_15 hT.1 rfl (ki := 1) rfl (fun μ1 eμ1 => ?_)
        exact v_rv hx hB DX5_become_63 (⟨by rw [eμ1]; exact PA.of (show CA m t q by rw [← PS.mix_end (p := p) (q := q) (k := k.toNat) (fun n hn => by rw [PS.lt_size hP.1.1 n (by omega), PS.lt_size hQ.1.1 n (by omega)])]; exact hc), (hf.mono (by simp)).trans (by rw [eμ1]; exact Fr.mI (by simp))⟩)
      · skip
        refine v_iload hx DX5_become_19 0 rfl ?_
        refine v_aload hx DX5_become_20 2 rfl ?_
        refine v_get hx DX5_become_21 FLRX5_9 hT.1 (v := .ref (t + 1)) rfl ?_
        refine v_alenI hx DX5_become_24 hT.2 (by decide) (z := 48) rfl ?_
        refine v_icmp_ge hx DX5_become_25 (by omega) (by decide) (fun c25 => ?_) (fun c25 => ?_)
        · exact absurd c25 (by omega)
        · skip
          refine v_iload hx DX5_become_28 0 rfl ?_
          refine v_aload hx DX5_become_29 3 rfl ?_
          refine v_get hx DX5_become_30 FLRX5_9 hA.1 (v := .ref (a + 1)) rfl ?_
          refine v_alenI hx DX5_become_33 hA.2 (by decide) (z := 48) rfl ?_
          refine v_icmp_ge hx DX5_become_34 (by omega) (by decide) (fun c34 => ?_) (fun c34 => ?_)
          · exact absurd c34 (by omega)
          · skip
            refine v_aload hx DX5_become_37 2 rfl ?_
            refine v_get hx DX5_become_38 FLRX5_9 hT.1 (v := .ref (t + 1)) rfl ?_
            refine v_iload hx DX5_become_41 0 rfl ?_
            refine v_aload hx DX5_become_42 3 rfl ?_
            refine v_get hx DX5_become_43 FLRX5_9 hA.1 (v := .ref (a + 1)) rfl ?_
            refine v_iload hx DX5_become_46 0 rfl ?_
            refine v_iald hx DX5_become_47 hA.2 (by omega) (by decide) (z := cf q k) (by rw [hf.1 (a + 1) (by simp; omega)]; exact hQ.1.2 k (by omega) (by omega)) ?_
            refine v_iastm hx DX5_become_48 hT.2 (by omega) (by decide) (fun μ2 eμ2 => ?_)
            refine v_iinc hx DX5_become_49 0 rfl [(3, iv (k + 1)), (2, iv (max ((p.size : Int) - 1) ((q.size : Int) - 1))), (0, .ref t), (1, .ref a)] rfl (by decide) ?_
            refine v_goto hx DX5_become_52 ?_
            exact v_sub [0, 1, 2, 3] _ rfl (ih (k + 1) μ2 (by omega) (by omega) (by rw [eμ2]; exact hc.step hQ.1.1 (by omega) (by omega) rfl) (hf.trans (by rw [eμ2]; exact Fr.mI (by simp))))
  refine v_aload hx DX5_become_0 0 rfl ?_
  refine v_get hx DX5_become_1 FLRX5_15 hT.1 (fv_i rfl hP.2 : _ = iv ((p.size : Int) - 1)) ?_
  refine v_aload hx DX5_become_4 1 rfl ?_
  refine v_get hx DX5_become_5 FLRX5_15 hA.1 (fv_i rfl hQ.2 : _ = iv ((q.size : Int) - 1)) ?_
  refine v_cSp hx DX5_become_8 CSRX5_19 [iv ((p.size : Int) - 1), iv ((q.size : Int) - 1)] (s_max l G Λ sz μ (by omega) (by omega)) rfl rfl (Nat.le_of_ble_eq_true rfl) (by decide) ⟨Nat.le_refl _, Nat.le_refl _⟩ ?_
  refine v_istore hx DX5_become_11 [(2, iv (max ((p.size : Int) - 1) ((q.size : Int) - 1))), (0, .ref t), (1, .ref a)] rfl (by decide) ?_
  refine v_push hx DX5_become_12 ?_
  refine v_istore hx DX5_become_13 [(3, iv 0), (2, iv (max ((p.size : Int) - 1) ((q.size : Int) - 1))), (0, .ref t), (1, .ref a)] rfl (by decide) ?_
  exact v_sub [0, 1, 2, 3] _ rfl (L14 100 0 μ (by omega) (by omega) (by rw [PS.mix_start (fun n hn => absurd hn (by omega))]; exact hP.1) Fr.rf)
theorem s_scale (l : Launch) (G : Gl) (Λ : Lay) (sz : Nat) (μ : Mem) {t : Nat} {f : Int} {p : PS} (hT : polyK Λ t) (hP : PA μ t p) (hv : 0 ≤ f ∧ f ≤ 101) : Sp l G yX5_scale cX5_scale 3 none 1 [.ref t, iv f] Λ sz μ (pV (fun μ' => PA μ' t (p.sm (fi f)) ∧ Fr [t, t + 1] μ μ')) := by
  refine Sp.intro (by decide) (Nat.le_of_ble_eq_true rfl) (fun x hx hB => ?_)
  refine v_lv [(0, .ref t), (1, iv f)] rfl ?_
  have hs := hP.le
  have hlt : (p.sm (fi f)).lt 48 := PS.lt_sm _ hP.1.1
  have L42 : ∀ (k : Int) (m : Mem), (p.lt k.toNat) → (CA m t (p.mix (p.sm (fi f)) k.toNat)) → (Fr [t + 1] μ m) → V G x (0, 0) Λ sz m 42 [(2, iv k), (0, .ref t), (1, iv f)] [] := by
    intro k m hk hc hf
    have hca : CA m t (p.sm (fi f)) := by rw [← PS.mix_end (p := p) (q := p.sm (fi f)) (k := k.toNat) (fun n hn => by rw [hk n hn]; exact (PS.lt_sm _ hk n hn).symm)]; exact hc
    refine v_aload hx DX5_scale_42 1 rfl ?_
    refine v_aload hx DX5_scale_43 1 rfl ?_
    refine v_get hx DX5_scale_44 FLRX5_15 hT.1 (fv_i rfl (by rw [hf.1 t (by simp)]; exact hP.2) : _ = iv ((p.size : Int) - 1)) ?_
    refine v_cVv hx DX5_scale_47 CVRX5_25 [iv ((p.size : Int) - 1)] (s_settle l G Λ sz m hT hca (by omega) (fun j hj => PS.lt_sm _ (PS.lt_size hP.1.1) j (by omega))) hT.1 rfl rfl (Nat.le_of_ble_eq_true rfl) (by decide) ⟨Nat.le_refl _, Nat.le_refl _⟩ (fun μ1 hμ1 => ?_)
    exact v_rv hx hB DX5_scale_50 (⟨by rw [hμ1]; exact PA.of hca, by rw [hμ1]; exact (hf.mono (by simp)).trans (Fr.mI (by simp))⟩)
  have L2 : ∀ (n : Nat) (k : Int) (m : Mem), (48 - k < (n : Int)) → (0 ≤ k ∧ k ≤ 48) → (CA m t (p.mix (p.sm (fi f)) k.toNat)) → (Fr [t + 1] μ m) → V G x (0, 0) Λ sz m 2 [(2, iv k), (0, .ref t), (1, iv f)] [] := by
    intro n
    induction n with
    | zero => intro k m hm hk hc hf; exact absurd hm (by omega)
    | succ n ih =>
      intro k m hm hk hc hf
      refine v_iload hx DX5_scale_2 0 rfl ?_
      refine v_aload hx DX5_scale_3 1 rfl ?_
      refine v_get hx DX5_scale_4 FLRX5_9 hT.1 (v := .ref (t + 1)) rfl ?_
      refine v_alenI hx DX5_scale_7 hT.2 (by decide) (z := 48) rfl ?_
      refine v_icmp_ge hx DX5_scale_8 (by omega) (by decide) (fun c8 => ?_) (fun c8 => ?_)
      · skip
        exact v_sub [0, 1, 2] _ rfl (L42 k m (PS.lt_mono hP.1.1 (by omega)) hc hf)
      · skip
        refine v_iload hx DX5_scale_11 0 rfl ?_
        refine v_aload hx DX5_scale_12 1 rfl ?_
        refine v_get hx DX5_scale_13 FLRX5_15 hT.1 (fv_i rfl (by rw [hf.1 t (by simp)]; exact hP.2) : _ = iv ((p.size : Int) - 1)) ?_
        refine v_icmp_gt hx DX5_scale_16 (by omega) (by omega) (fun c16 => ?_) (fun c16 => ?_)
        · skip
          exact v_sub [0, 1, 2] _ rfl (L42 k m (PS.lt_mono (PS.lt_size hP.1.1) (by omega)) hc hf)
        · skip
          refine v_aload hx DX5_scale_19 1 rfl ?_
          refine v_get hx DX5_scale_20 FLRX5_9 hT.1 (v := .ref (t + 1)) rfl ?_
          refine v_iload hx DX5_scale_23 0 rfl ?_
          refine v_aload hx DX5_scale_24 1 rfl ?_
          refine v_get hx DX5_scale_25 FLRX5_9 hT.1 (v := .ref (t + 1)) rfl ?_
          refine v_iload hx DX5_scale_28 0 rfl ?_
          refine v_iald hx DX5_scale_29 hT.2 (by omega) (by decide) (z := cf p k) (by rw [hc.2 k (by omega) (by omega), cf_mix (by omega) (Int.le_refl k)]) ?_
          refine v_iload hx DX5_scale_30 2 rfl ?_
          refine v_imul hx DX5_scale_31 ?_
          refine v_push hx DX5_scale_32 ?_
          refine v_irem hx (by have h1 := cf_rng p k; have h2 := mulb h1.1 h1.2 hv.1 hv.2; omega) (by decide) DX5_scale_34 ?_
          refine v_iastm hx DX5_scale_35 hT.2 (by omega) (by decide) (fun μ3 eμ3 => ?_)
          refine v_iinc hx DX5_scale_36 0 rfl [(2, iv (k + 1)), (0, .ref t), (1, iv f)] rfl (by decide) ?_
          refine v_goto hx DX5_scale_39 ?_
          exact v_sub [0, 1, 2] _ rfl (ih (k + 1) μ3 (by omega) (by omega) (by rw [eμ3]; exact hc.step hlt (by omega) (by omega) (cf_mod (by rw [fi_mul, fi_cf]; show _ = fi f * p k.toNat; grind))) (hf.trans (by rw [eμ3]; exact Fr.mI (by simp))))
  refine v_push hx DX5_scale_0 ?_
  refine v_istore hx DX5_scale_1 [(2, iv 0), (0, .ref t), (1, iv f)] rfl (by decide) ?_
  exact v_sub [0, 1, 2] _ rfl (L2 100 0 μ (by omega) (by omega) (by rw [PS.mix_start (fun n hn => absurd hn (by omega))]; exact hP.1) Fr.rf)
theorem s_addMultiple (l : Launch) (G : Gl) (Λ : Lay) (sz : Nat) (μ : Mem) {t a : Nat} {f s : Int} {p q : PS} (hT : polyK Λ t) (hA : polyK Λ a) (hne : t ≠ a) (hP : PA μ t p) (hQ : PA μ a q) (hv : 0 ≤ f ∧ f ≤ 101) (hs : 0 ≤ s ∧ s < 48) (hqs : q.size + s.toNat ≤ 48) : Sp l G yX5_addMultiple cX5_addMultiple 6 none 1 [.ref t, .ref a, iv f, iv s] Λ sz μ (pV (fun μ' => PA μ' t (p.am q (fi f) s.toNat) ∧ Fr [t, t + 1] μ μ')) := by
  refine Sp.intro (by decide) (Nat.le_of_ble_eq_true rfl) (fun x hx hB => ?_)
  refine v_lv [(0, .ref t), (1, .ref a), (2, iv f), (3, iv s)] rfl ?_
  have hp0 := hP.le
  have hq0 := hQ.le
  have hn1 : a ≠ t + 1 := fun e => by have h := hA.1; rw [e, hT.2] at h; cases h
  have hlt : (p.am q (fi f) s.toNat).lt 48 := PS.am_lt hP.1.1 (PS.lt_size hQ.1.1) hqs
  have L43 : ∀ (n : Nat) (k : Int) (m : Mem), (q.size - k < (n : Int)) → (0 ≤ k ∧ k ≤ q.size) → (CA m t (p.mix (p.am q (fi f) s.toNat) (k + s).toNat)) → (Fr [t + 1] μ m) → V G x (0, 0) Λ sz m 43 [(5, iv k), (4, iv (q.size : Int)), (0, .ref t), (1, .ref a), (2, iv f), (3, iv s)] [] := by
    intro n
    induction n with
    | zero => intro k m hm hk hc hf; exact absurd hm (by omega)
    | succ n ih =>
      intro k m hm hk hc hf
      refine v_iload hx DX5_addMultiple_43 0 rfl ?_
      refine v_iload hx DX5_addMultiple_45 1 rfl ?_
      refine v_icmp_ge hx DX5_addMultiple_47 (by omega) (by omega) (fun c47 => ?_) (fun c47 => ?_)
      · skip
        have hca : CA m t (p.am q (fi f) s.toNat) := by
          rw [← PS.mix_end (p := p) (q := p.am q (fi f) s.toNat) (k := (k + s).toNat) (fun n hn => by rw [PS.am_at, if_neg (by omega), PS.lt_size hQ.1.1 (n - s.toNat) (by omega)]; grind)]; exact hc
        refine v_aload hx DX5_addMultiple_87 2 rfl ?_
        refine v_aload hx DX5_addMultiple_88 2 rfl ?_
        refine v_get hx DX5_addMultiple_89 FLRX5_15 hT.1 (fv_i rfl (by rw [hf.1 t (by simp)]; exact hP.2) : _ = iv ((p.size : Int) - 1)) ?_
        refine v_iload hx DX5_addMultiple_92 1 rfl ?_
        refine v_push hx DX5_addMultiple_94 ?_
        refine v_isub hx DX5_addMultiple_95 ?_
        refine v_iload hx DX5_addMultiple_96 5 rfl ?_
        refine v_iadd hx DX5_addMultiple_97 ?_
        refine v_cSp hx DX5_addMultiple_98 CSRX5_19 [iv ((p.size : Int) - 1), iv (((q.size : Int) - 1) + s)] (s_max l G Λ sz m (by omega) (by omega)) rfl rfl (Nat.le_of_ble_eq_true rfl) (by decide) ⟨Nat.le_refl _, Nat.le_refl _⟩ ?_
        refine v_cVv hx DX5_addMultiple_101 CVRX5_25 [iv (max ((p.size : Int) - 1) ((q.size : Int) - 1 + s))] (s_settle l G Λ sz m hT hca (by omega) (fun j hj => by rw [PS.am_at, if_neg (by omega), PS.lt_size hP.1.1 j (by omega), PS.lt_size hQ.1.1 (j - s.toNat) (by omega)]; grind)) hT.1 rfl rfl (Nat.le_of_ble_eq_true rfl) (by decide) ⟨Nat.le_refl _, Nat.le_refl _⟩ (fun μ3 hμ3 => ?_)
        exact v_rv hx hB DX5_addMultiple_104 (⟨by rw [hμ3]; exact PA.of hca, by rw [hμ3]; exact (hf.mono (by simp)).trans (Fr.mI (by simp))⟩)
      · skip
        refine v_aload hx DX5_addMultiple_50 2 rfl ?_
        refine v_get hx DX5_addMultiple_51 FLRX5_9 hT.1 (v := .ref (t + 1)) rfl ?_
        refine v_iload hx DX5_addMultiple_54 0 rfl ?_
        refine v_iload hx DX5_addMultiple_56 5 rfl ?_
        refine v_iadd hx DX5_addMultiple_57 ?_
        refine v_aload hx DX5_addMultiple_58 2 rfl ?_
        refine v_get hx DX5_addMultiple_59 FLRX5_9 hT.1 (v := .ref (t + 1)) rfl ?_
        refine v_iload hx DX5_addMultiple_62 0 rfl ?_
        refine v_iload hx DX5_addMultiple_64 5 rfl ?_
        refine v_iadd hx DX5_addMultiple_65 ?_
        refine v_iald hx DX5_addMultiple_66 hT.2 (by omega) (by decide) (z := cf p (k + s)) (by rw [hc.2 (k + s) (by omega) (by omega), cf_mix (by omega) (Int.le_refl _)]) ?_
        refine v_iload hx DX5_addMultiple_67 4 rfl ?_
        refine v_aload hx DX5_addMultiple_68 3 rfl ?_
        refine v_get hx DX5_addMultiple_69 FLRX5_9 hA.1 (v := .ref (a + 1)) rfl ?_
        refine v_iload hx DX5_addMultiple_72 0 rfl ?_
        refine v_iald hx DX5_addMultiple_74 hA.2 (by omega) (by decide) (z := cf q k) (by rw [hf.1 (a + 1) (by simp; omega)]; exact hQ.1.2 k (by omega) (by omega)) ?_
        refine v_imul hx DX5_addMultiple_75 ?_
        refine v_iadd hx DX5_addMultiple_76 ?_
        refine v_push hx DX5_addMultiple_77 ?_
        refine v_irem hx (by have h1 := cf_rng p (k + s); have h2 := cf_rng q k; have h3 := mulb hv.1 hv.2 h2.1 h2.2; omega) (by decide) DX5_addMultiple_79 ?_
        refine v_iastm hx DX5_addMultiple_80 hT.2 (by omega) (by decide) (fun μ5 eμ5 => ?_)
        refine v_iinc hx DX5_addMultiple_81 0 rfl [(5, iv (k + 1)), (4, iv (q.size : Int)), (0, .ref t), (1, .ref a), (2, iv f), (3, iv s)] rfl (by decide) ?_
        refine v_goto hx DX5_addMultiple_84 ?_
        exact v_sub [0, 1, 2, 3, 4, 5] _ rfl (ih (k + 1) μ5 (by omega) (by omega) (by rw [eμ5, show k + 1 + s = k + s + 1 by omega]; exact hc.step hlt (by omega) (by omega) (cf_mod (by rw [fi_add, fi_mul, fi_cf, fi_cf, PS.am_at, if_neg (by omega), show (k + s).toNat - s.toNat = k.toNat by omega]))) (hf.trans (by rw [eμ5]; exact Fr.mI (by simp))))
  refine v_iload hx DX5_addMultiple_0 3 rfl ?_
  refine v_if_lt hx DX5_addMultiple_1 (by omega) (fun c1 => ?_) (fun c1 => ?_)
  · exact absurd c1 (by omega)
  · skip
    refine v_iload hx DX5_addMultiple_4 3 rfl ?_
    refine v_aload hx DX5_addMultiple_5 0 rfl ?_
    refine v_get hx DX5_addMultiple_6 FLRX5_9 hT.1 (v := .ref (t + 1)) rfl ?_
    refine v_alenI hx DX5_addMultiple_9 hT.2 (by decide) (z := 48) rfl ?_
    refine v_icmp_lt hx DX5_addMultiple_10 (by omega) (by decide) (fun c10 => ?_) (fun c10 => ?_)
    · skip
      refine v_aload hx DX5_addMultiple_14 1 rfl ?_
      refine v_get hx DX5_addMultiple_15 FLRX5_15 hA.1 (fv_i rfl hQ.2 : _ = iv ((q.size : Int) - 1)) ?_
      refine v_push hx DX5_addMultiple_18 ?_
      refine v_iadd hx DX5_addMultiple_19 ?_
      refine v_aload hx DX5_addMultiple_20 1 rfl ?_
      refine v_get hx DX5_addMultiple_21 FLRX5_9 hA.1 (v := .ref (a + 1)) rfl ?_
      refine v_alenI hx DX5_addMultiple_24 hA.2 (by decide) (z := 48) rfl ?_
      refine v_cSp hx DX5_addMultiple_25 CSRX5_32 [iv (((q.size : Int) - 1) + 1), iv 48] (s_min l G Λ sz μ (by omega) (by omega)) rfl rfl (Nat.le_of_ble_eq_true rfl) (by decide) ⟨Nat.le_refl _, Nat.le_refl _⟩ ?_
      refine v_aload hx DX5_addMultiple_28 0 rfl ?_
      refine v_get hx DX5_addMultiple_29 FLRX5_9 hT.1 (v := .ref (t + 1)) rfl ?_
      refine v_alenI hx DX5_addMultiple_32 hT.2 (by decide) (z := 48) rfl ?_
      refine v_iload hx DX5_addMultiple_33 3 rfl ?_
      refine v_isub hx DX5_addMultiple_34 ?_
      refine v_cSp hx DX5_addMultiple_35 CSRX5_32 [iv (min ((q.size : Int) - 1 + 1) 48), iv (48 - s)] (s_min l G Λ sz μ (by omega) (by omega)) rfl rfl (Nat.le_of_ble_eq_true rfl) (by decide) ⟨Nat.le_refl _, Nat.le_refl _⟩ ?_
      refine v_top (z' := (q.size : Int)) (by omega) ?_
      refine v_istore hx DX5_addMultiple_38 [(4, iv (q.size : Int)), (0, .ref t), (1, .ref a), (2, iv f), (3, iv s)] rfl (by decide) ?_
      refine v_push hx DX5_addMultiple_40 ?_
      refine v_istore hx DX5_addMultiple_41 [(5, iv 0), (4, iv (q.size : Int)), (0, .ref t), (1, .ref a), (2, iv f), (3, iv s)] rfl (by decide) ?_
      exact v_sub [0, 1, 2, 3, 4, 5] _ rfl (L43 100 0 μ (by omega) (by omega) (by rw [PS.mix_start (fun n hn => by rw [PS.am_at, if_pos (by omega)])]; exact hP.1) Fr.rf)
    · exact absurd c10 (by omega)
