theorem s_max (l : Launch) (G : Gl) (Λ : Lay) (sz : Nat) (μ : Mem) {a b : Int} (ha : inR a) (hb : inR b) : Sp l G yJ9_max_7cf53 cJ9_max_7cf53 2 (some FieldType.int) 0 [iv a, iv b] Λ sz μ (pP μ (max a b)) := by
  refine Sp.introF (by decide +kernel) (Nat.le_of_ble_eq_true rfl) (fun x hx hB => ?_)
  refine v_lv [(0, iv a), (1, iv b)] rfl ?_
  refine v_iload hx DJ9_max_7cf53_0 0 rfl ?_
  refine v_iload hx DJ9_max_7cf53_1 1 rfl ?_
  refine v_icmp_lt hx DJ9_max_7cf53_2 (by omega) (by omega) (fun c2 => ?_) (fun c2 => ?_)
  · skip
    refine v_iload hx DJ9_max_7cf53_9 1 rfl ?_
    exact v_ri hx hB DJ9_max_7cf53_10 (⟨rfl, by omega⟩)
  · skip
    refine v_iload hx DJ9_max_7cf53_5 0 rfl ?_
    refine v_goto hx DJ9_max_7cf53_6 ?_
    exact v_ri hx hB DJ9_max_7cf53_10 (⟨rfl, by omega⟩)
theorem s_min (l : Launch) (G : Gl) (Λ : Lay) (sz : Nat) (μ : Mem) {a b : Int} (ha : inR a) (hb : inR b) : Sp l G yJ9_min_7cf53 cJ9_min_7cf53 2 (some FieldType.int) 0 [iv a, iv b] Λ sz μ (pP μ (min a b)) := by
  refine Sp.introF (by decide +kernel) (Nat.le_of_ble_eq_true rfl) (fun x hx hB => ?_)
  refine v_lv [(0, iv a), (1, iv b)] rfl ?_
  refine v_iload hx DJ9_min_7cf53_0 0 rfl ?_
  refine v_iload hx DJ9_min_7cf53_1 1 rfl ?_
  refine v_icmp_gt hx DJ9_min_7cf53_2 (by omega) (by omega) (fun c2 => ?_) (fun c2 => ?_)
  · skip
    refine v_iload hx DJ9_min_7cf53_9 1 rfl ?_
    exact v_ri hx hB DJ9_min_7cf53_10 (⟨rfl, by omega⟩)
  · skip
    refine v_iload hx DJ9_min_7cf53_5 0 rfl ?_
    refine v_goto hx DJ9_min_7cf53_6 ?_
    exact v_ri hx hB DJ9_min_7cf53_10 (⟨rfl, by omega⟩)
theorem s_at (l : Launch) (G : Gl) (Λ : Lay) (sz : Nat) (μ : Mem) {t : Nat} {k : Int} {p : PS} (hT : polyK Λ t) (hP : PA μ t p) (hk : inR k) : Sp l G yX5_at cX5_at 2 (some FieldType.int) 0 [.ref t, iv k] Λ sz μ (pP μ (ca p k)) := by
  refine Sp.intro (by decide) (Nat.le_of_ble_eq_true rfl) (fun x hx hB => ?_)
  refine v_lv [(0, .ref t), (1, iv k)] rfl ?_
  have hs := hP.le
  refine v_iload hx DX5_at_0 1 rfl ?_
  refine v_if_lt hx DX5_at_1 (by omega) (fun c1 => ?_) (fun c1 => ?_)
  · skip
    have e0 : (0 : Int) = ca p k := by unfold ca; rw [if_pos c1]
    refine v_push hx DX5_at_30 ?_
    exact v_ri hx hB DX5_at_31 (⟨rfl, e0⟩)
  · skip
    refine v_iload hx DX5_at_4 1 rfl ?_
    refine v_aload hx DX5_at_5 0 rfl ?_
    refine v_get hx DX5_at_6 FLRX5_15 hT.1 (fv_i rfl hP.2 : _ = iv ((p.size : Int) - 1)) ?_
    refine v_icmp_gt hx DX5_at_9 (by omega) (by omega) (fun c9 => ?_) (fun c9 => ?_)
    · skip
      have e0 : (0 : Int) = ca p k := (ca_big hP.1.1 (by omega)).symm
      refine v_push hx DX5_at_30 ?_
      exact v_ri hx hB DX5_at_31 (⟨rfl, e0⟩)
    · skip
      refine v_iload hx DX5_at_12 1 rfl ?_
      refine v_aload hx DX5_at_13 0 rfl ?_
      refine v_get hx DX5_at_14 FLRX5_9 hT.1 (v := .ref (t + 1)) rfl ?_
      refine v_alenI hx DX5_at_17 hT.2 (by decide) (z := 48) rfl ?_
      refine v_icmp_ge hx DX5_at_18 (by omega) (by decide) (fun c18 => ?_) (fun c18 => ?_)
      · exact absurd c18 (by omega)
      · skip
        have e0 : ca p k = ca p k := rfl
        refine v_aload hx DX5_at_21 0 rfl ?_
        refine v_get hx DX5_at_22 FLRX5_9 hT.1 (v := .ref (t + 1)) rfl ?_
        refine v_iload hx DX5_at_25 1 rfl ?_
        refine v_iald hx DX5_at_26 hT.2 (by omega) (by decide) (z := ca p k) (by rw [ca_of (by omega)]; exact hP.1.2 k (by omega) (by omega)) ?_
        refine v_goto hx DX5_at_27 ?_
        exact v_ri hx hB DX5_at_31 (⟨rfl, e0⟩)
theorem s_head (l : Launch) (G : Gl) (Λ : Lay) (sz : Nat) (μ : Mem) {t : Nat} {p : PS} (hT : polyK Λ t) (hP : PA μ t p) : Sp l G yX5_head cX5_head 1 (some FieldType.int) 0 [.ref t] Λ sz μ (pP μ (hdI p)) := by
  refine Sp.intro (by decide) (Nat.le_of_ble_eq_true rfl) (fun x hx hB => ?_)
  refine v_lv [(0, .ref t)] rfl ?_
  have hs := hP.le
  refine v_aload hx DX5_head_0 0 rfl ?_
  refine v_get hx DX5_head_1 FLRX5_15 hT.1 (fv_i rfl hP.2 : _ = iv ((p.size : Int) - 1)) ?_
  refine v_if_lt hx DX5_head_4 (by omega) (fun c4 => ?_) (fun c4 => ?_)
  · skip
    have e0 : (0 : Int) = hdI p := by unfold hdI; rw [if_pos (by omega)]
    refine v_push hx DX5_head_31 ?_
    exact v_ri hx hB DX5_head_32 (⟨rfl, e0⟩)
  · skip
    refine v_aload hx DX5_head_7 0 rfl ?_
    refine v_get hx DX5_head_8 FLRX5_15 hT.1 (fv_i rfl hP.2 : _ = iv ((p.size : Int) - 1)) ?_
    refine v_aload hx DX5_head_11 0 rfl ?_
    refine v_get hx DX5_head_12 FLRX5_9 hT.1 (v := .ref (t + 1)) rfl ?_
    refine v_alenI hx DX5_head_15 hT.2 (by decide) (z := 48) rfl ?_
    refine v_icmp_ge hx DX5_head_16 (by omega) (by decide) (fun c16 => ?_) (fun c16 => ?_)
    · exact absurd c16 (by omega)
    · skip
      have e0 : cf p ((p.size : Int) - 1) = hdI p := by unfold hdI; rw [if_neg (by omega)]
      refine v_aload hx DX5_head_19 0 rfl ?_
      refine v_get hx DX5_head_20 FLRX5_9 hT.1 (v := .ref (t + 1)) rfl ?_
      refine v_aload hx DX5_head_23 0 rfl ?_
      refine v_get hx DX5_head_24 FLRX5_15 hT.1 (fv_i rfl hP.2 : _ = iv ((p.size : Int) - 1)) ?_
      refine v_iald hx DX5_head_27 hT.2 (by omega) (by decide) (z := cf p ((p.size : Int) - 1)) (hP.1.2 _ (by omega) (by omega)) ?_
      refine v_goto hx DX5_head_28 ?_
      exact v_ri hx hB DX5_head_32 (⟨rfl, e0⟩)
theorem s_settle (l : Launch) (G : Gl) (Λ : Lay) (sz : Nat) (μ : Mem) {t : Nat} {top : Int} {p : PS} (hT : polyK Λ t) (hc : CA μ t p) (h1 : -1 ≤ top ∧ top < 48) (h2 : ∀ j : Nat, top < (j : Int) → p j = 0) : Sp l G yX5_settle cX5_settle 3 none 0 [.ref t, iv top] Λ sz μ (pV (fun μ' => μ' = mI μ t 1 ((p.size : Int) - 1))) := by
  refine Sp.intro (by decide) (Nat.le_of_ble_eq_true rfl) (fun x hx hB => ?_)
  refine v_lv [(0, .ref t), (1, iv top)] rfl ?_
  have L2 : ∀ (n : Nat) (k : Int), (k + 1 < (n : Int)) → (-1 ≤ k ∧ k < 48) → (∀ j : Nat, k < (j : Int) → p j = 0) → V G x (0, 0) Λ sz μ 2 [(2, iv k), (0, .ref t), (1, iv top)] [] := by
    intro n
    induction n with
    | zero => intro k hm hk hz; exact absurd hm (by omega)
    | succ n ih =>
      intro k hm hk hz
      refine v_iload hx DX5_settle_2 0 rfl ?_
      refine v_if_lt hx DX5_settle_3 (by omega) (fun c3 => ?_) (fun c3 => ?_)
      · skip
        have e0 : (p.size : Int) - 1 = k := by
          have : p.size = 0 := PS.size_eq ⟨Or.inl rfl, fun j _ => hz j (by omega)⟩
          omega
        refine v_aload hx DX5_settle_30 1 rfl ?_
        refine v_iload hx DX5_settle_31 0 rfl ?_
        refine v_pI hx DX5_settle_32 FPRX5_15 hT.1 rfl (ki := 1) rfl (fun μ1 eμ1 => ?_)
        exact v_rv hx hB DX5_settle_35 (by rw [eμ1, e0])
      · skip
        refine v_iload hx DX5_settle_6 0 rfl ?_
        refine v_aload hx DX5_settle_7 1 rfl ?_
        refine v_get hx DX5_settle_8 FLRX5_9 hT.1 (v := .ref (t + 1)) rfl ?_
        refine v_alenI hx DX5_settle_11 hT.2 (by decide) (z := 48) rfl ?_
        refine v_icmp_ge hx DX5_settle_12 (by omega) (by decide) (fun c12 => ?_) (fun c12 => ?_)
        · exact absurd c12 (by omega)
        · skip
          refine v_aload hx DX5_settle_15 1 rfl ?_
          refine v_get hx DX5_settle_16 FLRX5_9 hT.1 (v := .ref (t + 1)) rfl ?_
          refine v_iload hx DX5_settle_19 0 rfl ?_
          refine v_iald hx DX5_settle_20 hT.2 (by omega) (by decide) (z := cf p k) (hc.2 k (by omega) (by omega)) ?_
          refine v_if_ne hx DX5_settle_21 (by have := cf_rng p k; omega) (fun c21 => ?_) (fun c21 => ?_)
          · skip
            have e0 : (p.size : Int) - 1 = k := by
              have : p.size = k.toNat + 1 := PS.size_eq ⟨Or.inr (fun q => c21 (cf_zero.mpr q)), fun j hj => hz j (by omega)⟩
              omega
            refine v_aload hx DX5_settle_30 1 rfl ?_
            refine v_iload hx DX5_settle_31 0 rfl ?_
            refine v_pI hx DX5_settle_32 FPRX5_15 hT.1 rfl (ki := 1) rfl (fun μ2 eμ2 => ?_)
            exact v_rv hx hB DX5_settle_35 (by rw [eμ2, e0])
          · skip
            have cz : cf p k = 0 := c21
            refine v_iinc hx DX5_settle_24 0 rfl [(2, iv (k + (-1))), (0, .ref t), (1, iv top)] rfl (by decide) ?_
            refine v_goto hx DX5_settle_27 ?_
            exact v_sub [0, 1, 2] _ rfl (ih (k + (-1)) (by omega) (by omega) (fun j hj => (Int.lt_or_le k j).elim (hz j) (fun q => (show k.toNat = j by omega) ▸ (cf_zero.mp cz))))
  refine v_iload hx DX5_settle_0 1 rfl ?_
  refine v_istore hx DX5_settle_1 [(2, iv top), (0, .ref t), (1, iv top)] rfl (by decide) ?_
  exact v_sub [0, 1, 2] _ rfl (L2 100 top (by omega) (by omega) h2)
