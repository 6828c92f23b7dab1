/-! ===== the reference: derive, drift ===== -/
theorem Bd.uP_cf {b : Bd} (h : b.ok) {k : Int} (hk : 0 ≤ k ∧ k < 4) : cf b.uP k = b.2.1 k := by
  have hr := h.2.1 k
  refine cf_of (by omega) ?_
  unfold Bd.uP
  rw [if_pos (by omega), Int.toNat_of_nonneg hk.1]
theorem Bd.uP_ne {b : Bd} (h : b.good) (hk : b.2.2.1 ≠ 0) : b.uP ≠ PS.zero ∧ 1 < b.uP.size := by
  have m := h.2.2.2 hk
  have z : ∀ j : Nat, j < 4 → b.2.1 (j : Int) ≠ 0 → b.uP j ≠ 0 := fun j hj q e => by
    have := Bd.uP_cf h.1 (k := (j : Int)) (by omega)
    have e2 := (cf_zero (p := b.uP) (j := (j : Int))).mpr e
    omega
  have s : ∀ j : Nat, 0 < j → j < 4 → b.uP j ≠ 0 → 1 < b.uP.size := fun j h0 hj q => by
    refine Classical.byContradiction (fun w => ?_)
    exact q (PS.lt_size (b.uP_lt) j (by omega))
  have s2 : 1 < b.uP.size := by
    unfold mostI at m
    by_cases c3 : b.2.1 3 ≠ 0
    · exact s 3 (by omega) (by omega) (z 3 (by omega) c3)
    · rw [if_neg c3] at m
      by_cases c2 : b.2.1 2 ≠ 0
      · exact s 2 (by omega) (by omega) (z 2 (by omega) c2)
      · rw [if_neg c2] at m
        by_cases c1 : b.2.1 1 ≠ 0
        · exact s 1 (by omega) (by omega) (z 1 (by omega) c1)
        · rw [if_neg c1] at m; exact absurd rfl m
  exact ⟨PS.ne_of_size (by omega), s2⟩
/-- u' over u -/
noncomputable def Bd.du (b : Bd) : FP2 := frd b.uP.der b.uP
theorem Bd.uP_sz (b : Bd) : b.uP.size ≤ 4 ∧ b.uP.der.size ≤ 3 := by
  have h := PS.size_le b.uP_lt
  have := PS.der_size ⟨_, b.uP_lt⟩
  exact ⟨h, by omega⟩
theorem Bd.du_ok {b : Bd} (h : b.good) (hk : b.2.2.1 ≠ 0) : FOK b.du 3 4 := FOK.rd (PS.fin_der ⟨_, b.uP_lt⟩) ⟨_, b.uP_lt⟩ (Bd.uP_ne h hk).1 b.uP_sz.2 b.uP_sz.1 (by omega)
noncomputable def dj (b : Bd) (g : Int) (i : Int) : FP2 :=
  if -2 ≤ i ∧ i ≤ 2 then
    (if b.2.2.1 = 1 then fpl (fdr (b.tm (5 * g + i + 2))) (fml (b.uP.der, PS.one) (b.tm (5 * g + i + 2))) (fi i)
     else if b.2.2.1 = 2 ∧ 0 ≤ i ∧ i ≤ 1 then fpl (fdr (b.tm (5 * g + i + 2))) (fml (b.tm (5 * g + i + 3)) b.du) (fi (i + 1))
     else fdr (b.tm (5 * g + i + 2)))
  else f00
def derOK (f g : Int) : Prop := (0 ≤ f ∧ f ≤ 2) ∧ (0 ≤ g ∧ g ≤ 2)
noncomputable def derA (b : Bd) (f g : Int) : Int := if bz (derOK f g) = 1 then (if b.fit g = 0 then -2 else keepA b f (dj b g)) else -1
def derK (b : Bd) (f g : Int) : Prop := derOK f g ∧ b.fit g ≠ 0 ∧ okJ (dj b g)
noncomputable def derB (b : Bd) (f g : Int) : Bd := @ite Bd (derK b f g) (Classical.propDecidable _) (kp b f (dj b g) 5) b
noncomputable def derH (b : Bd) (hs : Hs) (f g : Int) : Hs := @ite Hs (derK b f g) (Classical.propDecidable _) (hs.push b) hs
theorem der_kept {μ μ' : Mem} {ν : Nat} {b : Bd} {hs : Hs} {f g z : Int} (ok : derOK f g) (n3 : b.fit g ≠ 0) {m : Mem} (hm : StR m ν b hs) (fm : FrN ν [ν + 1, ν + 2, ν + 4] [5, 6] μ m) (q : z = keepA b f (dj b g) ∧ ((¬ okJ (dj b g) ∧ μ' = m) ∨ (okJ (dj b g) ∧ StR μ' ν (kp b f (dj b g) 5) (hs.push b) ∧ FrN ν [ν + 1, ν + 4] [5, 6] m μ'))) : z = derA b f g ∧ StR μ' ν (derB b f g) (derH b hs f g) ∧ FrN ν [ν + 1, ν + 2, ν + 4] [5, 6] μ μ' := by
  refine ⟨by unfold derA; rw [if1 ok, if_neg n3]; exact q.1, ?_⟩
  rcases q.2 with ⟨q1, q2⟩ | ⟨q1, q2, q3⟩
  · unfold derB derH
    rw [if_neg (fun w => q1 w.2.2), if_neg (fun w => q1 w.2.2), q2]
    exact ⟨hm, fm⟩
  · unfold derB derH
    rw [if_pos ⟨ok, n3, q1⟩, if_pos ⟨ok, n3, q1⟩]
    exact ⟨q2, fm.trans (q3.mono (by simp) (by simp))⟩
theorem der_no {μ : Mem} {ν : Nat} {b : Bd} {hs : Hs} {f g : Int} (hm : StR μ ν b hs) (n : ¬ derK b f g) : StR μ ν (derB b f g) (derH b hs f g) ∧ FrN ν [ν + 1, ν + 2, ν + 4] [5, 6] μ μ := by
  unfold derB derH
  rw [if_neg n, if_neg n]
  exact ⟨hm, FrN.rf⟩
theorem tr0 (p : PS) : p.tr 0 = PS.zero := PS.ext fun n => by unfold PS.tr; rw [if_neg (by omega)]; rfl
/-- the joins so far -/
noncomputable def djp (b : Bd) (g k : Int) (s : Int) : FP2 := if s < k then dj b g s else f00
theorem dj_step {b : Bd} {g i : Int} {ρ σ : Nat → PS} (hr : JR ρ (djp b g i)) (hi : -2 ≤ i ∧ i ≤ 2) (x : RFI σ (32 + i + 4) (dj b g i)) (k : ∀ r : Nat, 64 ≤ r → r < 82 → r ≠ 2 * (32 + i + 4).toNat → r ≠ 2 * (32 + i + 4).toNat + 1 → σ r = ρ r) : JR σ (djp b g (i + 1)) := by
  intro s h0 h9
  by_cases c : s = i
  · unfold djp
    rw [if_pos (by omega), c]; exact x
  · have q := hr s h0 h9
    have e : djp b g (i + 1) s = djp b g i s := by
      unfold djp
      by_cases d : s < i
      · rw [if_pos d, if_pos (by omega)]
      · rw [if_neg d, if_neg (by omega)]
    rw [e]
    exact ⟨(k _ (by omega) (by omega) (by omega) (by omega)).trans q.1, (k _ (by omega) (by omega) (by omega) (by omega)).trans q.2⟩
theorem r_laysTower (l : Launch) (G : Gl) (Λ : Lay) (sz : Nat) (μ : Mem) {ν : Nat} {ρ : Nat → PS} {b : Bd} (hR : refK Λ ν) (ha : RA μ ν ρ b) (hgd : b.good) : Sp l G yX12_laysTower cX12_laysTower 2 none 5 [.ref ν] Λ sz μ (pV (fun μ' => ∃ σ, RW μ' ν σ ∧ σ 148 = b.uP.der ∧ (b.2.2.1 ≠ 0 → RFI σ 15 b.du) ∧ (b.2.2.1 = 0 → σ 30 = b.uP.der ∧ σ 31 = b.uP) ∧ (∀ r : Nat, r < 30 ∨ (31 < r ∧ r < 146) → σ r = ρ r) ∧ Fr [ν + 1] μ μ')) := by
  refine Sp.intro (by decide) (Nat.le_of_ble_eq_true rfl) (fun x hx hBD => ?_)
  refine v_lv [(0, .ref ν)] rfl ?_
  have uk := ha.2.1.2.2.1
  have L9 : ∀ (nf : Nat) (k : Int) (m : Mem), (4 - k < (nf : Int)) → (0 ≤ k ∧ k ≤ 4) → (RW m ν (up ρ 148 (b.uP.tr k.toNat))) → (Fr [ν + 1] μ m) → V G x (0, 0) Λ sz m 9 [(1, iv k), (0, .ref ν)] [] := by
    intro nf
    induction nf with
    | zero => intro k m hm hk h1 hf; exact absurd hm (by omega)
    | succ nf ih =>
      intro k m hm hk h1 hf
      refine v_iload hx DX12_laysTower_9 0 rfl ?_
      refine v_push hx DX12_laysTower_10 ?_
      refine v_icmp_ge hx DX12_laysTower_11 (by omega) (by decide) (fun c11 => ?_) (fun c11 => ?_)
      · skip
        have h2 := h1
        rw [show k.toNat = 4 by omega, PS.tr_end b.uP_lt] at h2
        refine v_aload hx DX12_laysTower_36 1 rfl ?_
        refine v_push hx DX12_laysTower_37 ?_
        refine v_cSp hx DX12_laysTower_39 CSRX12_41 [iv 15] (r_below (f := 15) l G Λ sz m) rfl rfl (Nat.le_of_ble_eq_true rfl) (by decide) ⟨Nat.le_refl _, Nat.le_refl _⟩ ?_
        refine v_push hx DX12_laysTower_42 ?_
        refine v_cVv hx DX12_laysTower_45 CVRX12_27 [iv ((2 * 15 + 1 : Nat) : Int), iv 148] (r_lays (s := 31) (t := 148) l G Λ sz m hR h2 (by decide) (by decide)) hR.o rfl rfl (Nat.le_of_ble_eq_true rfl) (by decide) ⟨Nat.le_refl _, Nat.le_refl _⟩ (fun μ3 hμ3 => ?_)
        have h45 := hμ3
        refine v_aload hx DX12_laysTower_48 1 rfl ?_
        refine v_push hx DX12_laysTower_49 ?_
        refine v_push hx DX12_laysTower_52 ?_
        refine v_cVv hx DX12_laysTower_55 CVRX12_59 [iv 148, iv 148] (r_derives (s := 148) (t := 148) l G Λ sz μ3 hR h45.1 (by decide) (by decide)) hR.o rfl rfl (Nat.le_of_ble_eq_true rfl) (by decide) ⟨Nat.le_refl _, Nat.le_refl _⟩ (fun μ5 hμ5 => ?_)
        have h55 := hμ5
        refine v_aload hx DX12_laysTower_58 1 rfl ?_
        refine v_push hx DX12_laysTower_59 ?_
        refine v_cSp hx DX12_laysTower_61 CSRX12_38 [iv 15] (r_above (f := 15) l G Λ sz μ5) rfl rfl (Nat.le_of_ble_eq_true rfl) (by decide) ⟨Nat.le_refl _, Nat.le_refl _⟩ ?_
        refine v_push hx DX12_laysTower_64 ?_
        refine v_cVv hx DX12_laysTower_67 CVRX12_27 [iv ((2 * 15 : Nat) : Int), iv 148] (r_lays (s := 30) (t := 148) l G Λ sz μ5 hR h55.1 (by decide) (by decide)) hR.o rfl rfl (Nat.le_of_ble_eq_true rfl) (by decide) ⟨Nat.le_refl _, Nat.le_refl _⟩ (fun μ9 hμ9 => ?_)
        have h67 := hμ9
        have f67 := ((hf.trans h45.2).trans h55.2).trans h67.2
        obtain ⟨σ, wσ, x1, x2, x3, x4⟩ : ∃ σ, RW μ9 ν σ ∧ σ 148 = b.uP.der ∧ σ 30 = b.uP.der ∧ σ 31 = b.uP ∧ (∀ r : Nat, r < 30 ∨ (31 < r ∧ r < 146) → σ r = ρ r) := by
          refine ⟨_, h67.1, ?_, ?_, ?_, fun r hr => ?_⟩
          · simp [up]
          · simp [up]
          · simp [up]
          · simp only [up, show ¬ r = 30 by omega, show ¬ r = 31 by omega, show ¬ r = 148 by omega, if_false]
        refine v_aload hx DX12_laysTower_70 1 rfl ?_
        refine v_get hx DX12_laysTower_71 FLRX12_125 hR.o (fv_i rfl ((congrFun (f67.1 ν (by simp)) 2).trans ha.2.2.2.2.1) : _ = iv b.2.2.1) ?_
        refine v_if_eq hx DX12_laysTower_74 (by omega) (fun c74 => ?_) (fun c74 => ?_)
        · skip
          exact v_rv hx hBD DX12_laysTower_83 (⟨σ, wσ, x1, fun q => absurd c74 q, fun _ => ⟨x2, x3⟩, x4, f67⟩)
        · skip
          refine v_aload hx DX12_laysTower_77 1 rfl ?_
          refine v_push hx DX12_laysTower_78 ?_
          refine v_cVv hx DX12_laysTower_80 CVRX12_56 [iv 15] (r_shortens (f := 15) l G Λ sz μ9 hR wσ (by decide) (by show σ 31 ≠ PS.zero; rw [x3]; exact (Bd.uP_ne hgd (by omega)).1)) hR.o rfl rfl (Nat.le_of_ble_eq_true rfl) (by decide) ⟨Nat.le_refl _, Nat.le_refl _⟩ (fun μ11 hμ11 => ?_)
          exact v_rv hx hBD DX12_laysTower_83 (by obtain ⟨σ2, g1, g2, g3, g4, g5⟩ := hμ11; rw [show 2 * 15 = 30 from rfl, x2, x3] at g2 g3; exact ⟨σ2, g1, (g4 148 (by omega) (by omega) (by omega)).trans x1, fun _ => ⟨g2, g3⟩, fun q => absurd q c74, fun r hr => (g4 r (by omega) (by omega) (by omega)).trans (x4 r hr), f67.trans g5⟩)
      · skip
        refine v_aload hx DX12_laysTower_14 1 rfl ?_
        refine v_get hx DX12_laysTower_15 FLRX12_3 hR.o (v := .ref (ν + 1)) rfl ?_
        refine v_push hx DX12_laysTower_18 ?_
        refine v_iload hx DX12_laysTower_21 0 rfl ?_
        refine v_iadd hx DX12_laysTower_22 ?_
        refine v_aload hx DX12_laysTower_23 1 rfl ?_
        refine v_get hx DX12_laysTower_24 FLRX12_68 hR.o (v := .ref (ν + 3)) rfl ?_
        refine v_iload hx DX12_laysTower_27 0 rfl ?_
        refine v_iald hx DX12_laysTower_28 hR.u (by omega) (by decide) (z := b.2.1 k) ((congrFun (hf.1 (ν + 3) (by simp)) k).trans (ha.2.2.2.1 k (by omega) (by omega))) ?_
        refine v_iastm hx DX12_laysTower_29 hR.p (by omega) (by decide) (fun μ13 eμ13 => ?_)
        refine v_iinc hx DX12_laysTower_30 0 rfl [(1, iv (k + 1)), (0, .ref ν)] rfl (by decide) ?_
        refine v_goto hx DX12_laysTower_33 ?_
        exact v_sub [0, 1] _ rfl (ih (k + 1) μ13 (by omega) (by omega) (by rw [show (k + 1).toNat = k.toNat + 1 by omega, ← PS.tr_set, eμ13, show 14208 + k = 96 * ((148 : Nat) : Int) + k by omega]; exact h1.put (by omega) (by omega) (Bd.uP_cf ha.2.1 (by omega)).symm (by decide)) (hf.trans (by rw [eμ13]; exact Fr.mI (by simp))))
  refine v_aload hx DX12_laysTower_0 0 rfl ?_
  refine v_push hx DX12_laysTower_1 ?_
  refine v_cVv hx DX12_laysTower_4 CVRX12_7 [iv 148] (r_zero (s := 148) l G Λ sz μ hR ha.1 (by decide)) hR.o rfl rfl (Nat.le_of_ble_eq_true rfl) (by decide) ⟨Nat.le_refl _, Nat.le_refl _⟩ (fun μ14 hμ14 => ?_)
  refine v_push hx DX12_laysTower_7 ?_
  refine v_istore hx DX12_laysTower_8 [(1, iv 0), (0, .ref ν)] rfl (by decide) ?_
  exact v_sub [0, 1] _ rfl (L9 100 0 μ14 (by omega) (by omega) (by rw [show (0 : Int).toNat = 0 from rfl, tr0]; exact hμ14.1) hμ14.2)
theorem r_derive (l : Launch) (G : Gl) (Λ : Lay) (sz : Nat) (μ : Mem) {ν : Nat} {ρ : Nat → PS} {b : Bd} {hs : Hs} {f g : Int} (hR : refK Λ ν) (ha : RA μ ν ρ b) (hh : RH μ ν hs) (hgd : b.good) (rf : inR f) (rg : inR g) : Sp l G yX12_derive cX12_derive 5 (some FieldType.int) 6 [.ref ν, iv f, iv g] Λ sz μ (pI (fun z μ' => z = derA b f g ∧ StR μ' ν (derB b f g) (derH b hs f g) ∧ FrN ν [ν + 1, ν + 2, ν + 4] [5, 6] μ μ')) := by
  refine Sp.intro (by decide) (Nat.le_of_ble_eq_true rfl) (fun x hx hBD => ?_)
  refine v_lv [(0, .ref ν), (1, iv f), (2, iv g)] rfl ?_
  have uk := ha.2.1.2.2.1
  have L38 : ∀ (nf : Nat) (i : Int) (m : Mem) (σ : Nat → PS), (3 - i < (nf : Int)) → (derOK f g) → (b.fit g ≠ 0) → (-2 ≤ i ∧ i ≤ 3) → (RA m ν σ b) → (JR σ (djp b g i)) → (RH m ν hs) → (σ 148 = b.uP.der) → (b.2.2.1 ≠ 0 → RFI σ 15 b.du) → (FrN ν [ν + 1, ν + 2, ν + 4] [5, 6] μ m) → V G x (0, 0) Λ sz m 38 [(0, .ref ν), (1, iv f), (2, iv g), (3, iv i)] [] := by
    intro nf
    induction nf with
    | zero => intro i m σ hm ok n3 hi h1 h2 h3 hU hD hf; exact absurd hm (by omega)
    | succ nf ih =>
      intro i m σ hm ok n3 hi h1 h2 h3 hU hD hf
      obtain ⟨k0, k1⟩ := ok
      have ok : derOK f g := ⟨k0, k1⟩
      have uk1 := h1.2.2.2.2.1
      refine v_iload hx DX12_derive_38 3 rfl ?_
      refine v_push hx DX12_derive_39 ?_
      refine v_icmp_gt hx DX12_derive_40 (by omega) (by decide) (fun c40 => ?_) (fun c40 => ?_)
      · skip
        refine v_aload hx DX12_derive_167 0 rfl ?_
        refine v_iload hx DX12_derive_168 1 rfl ?_
        refine v_cVi hx DX12_derive_169 CVRX12_233 [iv f] (r_becomes (J := dj b g) l G Λ sz m hR h1 h3 (by omega) (fun s g0 g1 => by have q := h2 s g0 g1; unfold djp at q; exact (Classical.em (s < i)).elim (fun w => by rw [if_pos w] at q; exact q) (fun w => by rw [if_neg w] at q; unfold dj; rw [if_neg (by omega)]; exact q))) hR.o rfl rfl (Nat.le_of_ble_eq_true rfl) (by decide) ⟨Nat.le_refl _, Nat.le_refl _⟩ (fun z2 μ1 hμ1 => ?_)
        exact v_ri hx hBD DX12_derive_172 (der_kept ok n3 ⟨⟨σ, h1⟩, h3⟩ hf hμ1)
      · skip
        have og := hgd.tm (t := ((5 * g + i + 2).toNat : Int)) (by omega)
        refine v_push hx DX12_derive_43 ?_
        refine v_iload hx DX12_derive_45 3 rfl ?_
        refine v_iadd hx DX12_derive_46 ?_
        refine v_push hx DX12_derive_47 ?_
        refine v_iadd hx DX12_derive_48 ?_
        refine v_istore hx DX12_derive_49 [(4, iv ((32 + i) + 4)), (0, .ref ν), (1, iv f), (2, iv g), (3, iv i)] rfl (by decide) ?_
        refine v_aload hx DX12_derive_51 1 rfl ?_
        refine v_iload hx DX12_derive_52 0 rfl ?_
        refine v_iload hx DX12_derive_54 3 rfl ?_
        refine v_iload hx DX12_derive_55 4 rfl ?_
        refine v_cSp hx DX12_derive_56 CSRX12_155 [iv g, iv i] (r_term l G Λ sz m (by omega)) rfl rfl (Nat.le_of_ble_eq_true rfl) (by decide) ⟨Nat.le_refl _, Nat.le_refl _⟩ ?_
        refine v_cVv hx DX12_derive_59 CVRX12_242 [iv ((32 + i) + 4), iv ((5 * g + i + 2).toNat : Int)] (r_derivedF (o := 32 + i + 4) (A := b.tm ((5 * g + i + 2).toNat : Int)) l G Λ sz m hR h1.1 (by omega) (by omega) (h1.tm (by omega)) ⟨og.1.1, og.1.2.1⟩ og.1.2.2.1 (by have := og.2.1; have := og.2.2; omega) (by have := og.2.2; omega)) hR.o rfl rfl (Nat.le_of_ble_eq_true rfl) (by decide) ⟨Nat.le_refl _, Nat.le_refl _⟩ (fun μ5 hμ5 => ?_)
        obtain ⟨σ4, w4, x4a, x4b, k4, f4⟩ := hμ5
        have x4 : RFI σ4 (32 + i + 4) _ := ⟨x4a, x4b⟩
        have od := og.dr (by omega) (by omega) (by omega)
        refine v_aload hx DX12_derive_62 1 rfl ?_
        refine v_get hx DX12_derive_63 FLRX12_125 hR.o (fv_i rfl ((congrFun (f4.1 ν (by simp)) 2).trans uk1) : _ = iv b.2.2.1) ?_
        refine v_push hx DX12_derive_66 ?_
        refine v_icmp_ne hx DX12_derive_67 (by omega) (by decide) (fun c67 => ?_) (fun c67 => ?_)
        · skip
          refine v_aload hx DX12_derive_116 1 rfl ?_
          refine v_get hx DX12_derive_117 FLRX12_125 hR.o (fv_i rfl ((congrFun (f4.1 ν (by simp)) 2).trans uk1) : _ = iv b.2.2.1) ?_
          refine v_push hx DX12_derive_120 ?_
          refine v_icmp_ne hx DX12_derive_121 (by omega) (by decide) (fun c121 => ?_) (fun c121 => ?_)
          · skip
            have fx := f4
            have kx : ∀ r : Nat, (r < 120 ∨ r = 148) → (r ≠ 2 * (32 + i + 4).toNat ∧ r ≠ 2 * (32 + i + 4).toNat + 1) → σ4 r = σ r := fun r h1 h2 => k4 r (by omega) (by omega) (by omega)
            have jx : JR σ4 (djp b g (i + 1)) := dj_step h2 (by omega) (by unfold dj; rw [if_pos (by omega), if_neg (by omega), if_neg (by omega), show (5 * g + i + 2) = ((5 * g + i + 2).toNat : Int) by omega]; exact x4) (fun r q0 q1 q2 q3 => kx r (by omega) ⟨q2, q3⟩)
            have raσ4 : RA μ5 ν σ4 b := h1.rows w4 (fun r hr => kx r (by omega) (by omega)) fx
            have ux := (kx 148 (by omega) (by omega)).trans hU
            have dx : b.2.2.1 ≠ 0 → RFI σ4 15 b.du := fun q => ⟨(kx 30 (by omega) (by omega)).trans (hD q).1, (kx 31 (by omega) (by omega)).trans (hD q).2⟩
            refine v_iinc hx DX12_derive_161 4 rfl [(3, iv (i + 1)), (4, iv ((32 + i) + 4)), (0, .ref ν), (1, iv f), (2, iv g)] rfl (by decide) ?_
            refine v_goto hx DX12_derive_164 ?_
            exact v_sub [2, 3, 4, 0] _ rfl (ih (i + 1) μ5 σ4 (by omega) ok n3 (by omega) (raσ4) jx (h3.frN (S := [ν + 1, ν + 2]) (J := []) (FrN.of fx (by simp)) (by simp) (by simp) (by simp)) ux dx (hf.trans (FrN.of (fx.mono (by simp)) (by simp))))
          · skip
            refine v_iload hx DX12_derive_124 4 rfl ?_
            refine v_push hx DX12_derive_125 ?_
            refine v_push hx DX12_derive_126 ?_
            refine v_cSp hx DX12_derive_127 CSRX12_121 [iv i, iv 0, iv 1] (r_in l G Λ sz μ5 (by omega) (by omega) (by omega)) rfl rfl (Nat.le_of_ble_eq_true rfl) (by decide) ⟨Nat.le_refl _, Nat.le_refl _⟩ ?_
            have br127 := bz_rng (0 ≤ i ∧ i ≤ 1)
            refine v_if_eq hx DX12_derive_130 (by omega) (fun c130 => ?_) (fun c130 => ?_)
            · skip
              have d130 := bzf c130
              have fx := f4
              have kx : ∀ r : Nat, (r < 120 ∨ r = 148) → (r ≠ 2 * (32 + i + 4).toNat ∧ r ≠ 2 * (32 + i + 4).toNat + 1) → σ4 r = σ r := fun r h1 h2 => k4 r (by omega) (by omega) (by omega)
              have jx : JR σ4 (djp b g (i + 1)) := dj_step h2 (by omega) (by unfold dj; rw [if_pos (by omega), if_neg (by omega), if_neg (by omega), show (5 * g + i + 2) = ((5 * g + i + 2).toNat : Int) by omega]; exact x4) (fun r q0 q1 q2 q3 => kx r (by omega) ⟨q2, q3⟩)
              have raσ4 : RA μ5 ν σ4 b := h1.rows w4 (fun r hr => kx r (by omega) (by omega)) fx
              have ux := (kx 148 (by omega) (by omega)).trans hU
              have dx : b.2.2.1 ≠ 0 → RFI σ4 15 b.du := fun q => ⟨(kx 30 (by omega) (by omega)).trans (hD q).1, (kx 31 (by omega) (by omega)).trans (hD q).2⟩
              refine v_iinc hx DX12_derive_161 4 rfl [(3, iv (i + 1)), (4, iv ((32 + i) + 4)), (0, .ref ν), (1, iv f), (2, iv g)] rfl (by decide) ?_
              refine v_goto hx DX12_derive_164 ?_
              exact v_sub [2, 3, 4, 0] _ rfl (ih (i + 1) μ5 σ4 (by omega) ok n3 (by omega) (raσ4) jx (h3.frN (S := [ν + 1, ν + 2]) (J := []) (FrN.of fx (by simp)) (by simp) (by simp) (by simp)) ux dx (hf.trans (FrN.of (fx.mono (by simp)) (by simp))))
            · skip
              have d130 := bzt c130
              have t5 := (h1.tm (t := ((5 * g + (i + 1) + 2).toNat : Int)) (by omega)).kept (by omega) (by omega) (by omega) k4
              have x5 := (hD (by omega)).kept (by omega) (by omega) (by omega) k4
              have ou := Bd.du_ok hgd (by omega)
              have o1 := hgd.tm (t := ((5 * g + (i + 1) + 2).toNat : Int)) (by omega)
              refine v_aload hx DX12_derive_133 1 rfl ?_
              refine v_push hx DX12_derive_134 ?_
              refine v_iload hx DX12_derive_136 3 rfl ?_
              refine v_iload hx DX12_derive_137 4 rfl ?_
              refine v_push hx DX12_derive_138 ?_
              refine v_iadd hx DX12_derive_139 ?_
              refine v_cSp hx DX12_derive_140 CSRX12_155 [iv g, iv (i + 1)] (r_term l G Λ sz μ5 (by omega)) rfl rfl (Nat.le_of_ble_eq_true rfl) (by decide) ⟨Nat.le_refl _, Nat.le_refl _⟩ ?_
              refine v_push hx DX12_derive_143 ?_
              refine v_cVv hx DX12_derive_145 CVRX12_220 [iv 60, iv ((5 * g + (i + 1) + 2).toNat : Int), iv 15] (r_multipliesF (o := 60) (a := ((5 * g + (i + 1) + 2).toNat : Int)) (b := 15) l G Λ sz μ5 hR w4 (by omega) (by omega) (by omega) t5 x5 o1.1.2.2.1 ou.1.2.2.1 (by have := o1.2.1; have := ou.2.1; omega) (by have := o1.2.2; have := ou.2.2; omega)) hR.o rfl rfl (Nat.le_of_ble_eq_true rfl) (by decide) ⟨Nat.le_refl _, Nat.le_refl _⟩ (fun μ11 hμ11 => ?_)
              obtain ⟨σ7, w7, x7a, x7b, k7, f7⟩ := hμ11
              have x7 : RFI σ7 60 _ := ⟨x7a, x7b⟩
              have om := o1.ml ou (k := 9) (q := 8) (by omega) (by omega) (by omega)
              have x47 : RFI σ7 (32 + i + 4) (fdr (b.tm ((5 * g + i + 2).toNat : Int))) := x4.kept (by omega) (by omega) (by omega) k7
              refine v_aload hx DX12_derive_148 1 rfl ?_
              refine v_iload hx DX12_derive_149 0 rfl ?_
              refine v_iload hx DX12_derive_151 0 rfl ?_
              refine v_push hx DX12_derive_153 ?_
              refine v_iload hx DX12_derive_155 4 rfl ?_
              refine v_push hx DX12_derive_156 ?_
              refine v_iadd hx DX12_derive_157 ?_
              refine v_cVv hx DX12_derive_158 CVRX12_223 [iv ((32 + i) + 4), iv ((32 + i) + 4), iv 60, iv (i + 1)] (r_plusF (o := 32 + i + 4) (a := 32 + i + 4) (b := 60) (A := fdr (b.tm ((5 * g + i + 2).toNat : Int))) l G Λ sz μ11 hR w7 (by omega) (by omega) (by omega) (by omega) x47 x7 od.1.2.2.1 om.1.2.2.1 (by have := od.2.1; have := om.2.2; omega) (by have := om.2.1; have := od.2.2; omega) (by have := om.2.2; have := od.2.2; omega)) hR.o rfl rfl (Nat.le_of_ble_eq_true rfl) (by decide) ⟨Nat.le_refl _, Nat.le_refl _⟩ (fun μ13 hμ13 => ?_)
              obtain ⟨σ8, w8, x8a, x8b, k8, f8a⟩ := hμ13
              have f8 := (f4.trans f7).trans f8a
              have fx := f8
              have kx : ∀ r : Nat, (r < 120 ∨ r = 148) → (r ≠ 2 * (32 + i + 4).toNat ∧ r ≠ 2 * (32 + i + 4).toNat + 1) → σ8 r = σ r := fun r h1 h2 => (k8 r (by omega) (by omega) (by omega)).trans ((k7 r (by omega) (by omega) (by omega)).trans (k4 r (by omega) (by omega) (by omega)))
              have jx : JR σ8 (djp b g (i + 1)) := dj_step h2 (by omega) (by unfold dj; rw [if_pos (by omega), if_neg (by omega), if_pos (by omega), show (5 * g + i + 2) = ((5 * g + i + 2).toNat : Int) by omega, show (5 * g + i + 3) = ((5 * g + (i + 1) + 2).toNat : Int) by omega]; exact ⟨x8a, x8b⟩) (fun r q0 q1 q2 q3 => kx r (by omega) ⟨q2, q3⟩)
              have raσ8 : RA μ13 ν σ8 b := h1.rows w8 (fun r hr => kx r (by omega) (by omega)) fx
              have ux := (kx 148 (by omega) (by omega)).trans hU
              have dx : b.2.2.1 ≠ 0 → RFI σ8 15 b.du := fun q => ⟨(kx 30 (by omega) (by omega)).trans (hD q).1, (kx 31 (by omega) (by omega)).trans (hD q).2⟩
              refine v_iinc hx DX12_derive_161 4 rfl [(3, iv (i + 1)), (4, iv ((32 + i) + 4)), (0, .ref ν), (1, iv f), (2, iv g)] rfl (by decide) ?_
              refine v_goto hx DX12_derive_164 ?_
              exact v_sub [2, 3, 4, 0] _ rfl (ih (i + 1) μ13 σ8 (by omega) ok n3 (by omega) (raσ8) jx (h3.frN (S := [ν + 1, ν + 2]) (J := []) (FrN.of fx (by simp)) (by simp) (by simp) (by simp)) ux dx (hf.trans (FrN.of (fx.mono (by simp)) (by simp))))
        · skip
          have ou : FOK (b.uP.der, PS.one) 3 1 := ⟨⟨PS.fin_der ⟨_, b.uP_lt⟩, PS.fin_one, PS.one_ne, PS.mnc_one, fun P hP _ q => PS.irr_one hP q⟩, b.uP_sz.2, by show PS.one.size ≤ 1; rw [PS.one_sz]; exact Nat.le_refl _⟩
          refine v_aload hx DX12_derive_70 1 rfl ?_
          refine v_push hx DX12_derive_71 ?_
          refine v_cSp hx DX12_derive_73 CSRX12_38 [iv 60] (r_above (f := 60) l G Λ sz μ5) rfl rfl (Nat.le_of_ble_eq_true rfl) (by decide) ⟨Nat.le_refl _, Nat.le_refl _⟩ ?_
          refine v_push hx DX12_derive_76 ?_
          refine v_cVv hx DX12_derive_79 CVRX12_27 [iv ((2 * 60 : Nat) : Int), iv 148] (r_lays (s := 120) (t := 148) l G Λ sz μ5 hR w4 (by decide) (by decide)) hR.o rfl rfl (Nat.le_of_ble_eq_true rfl) (by decide) ⟨Nat.le_refl _, Nat.le_refl _⟩ (fun μ17 hμ17 => ?_)
          have h79 := hμ17
          refine v_aload hx DX12_derive_82 1 rfl ?_
          refine v_push hx DX12_derive_83 ?_
          refine v_cSp hx DX12_derive_85 CSRX12_41 [iv 60] (r_below (f := 60) l G Λ sz μ17) rfl rfl (Nat.le_of_ble_eq_true rfl) (by decide) ⟨Nat.le_refl _, Nat.le_refl _⟩ ?_
          refine v_push hx DX12_derive_88 ?_
          refine v_cVv hx DX12_derive_89 CVRX12_47 [iv ((2 * 60 + 1 : Nat) : Int), iv 1] (r_number (s := 121) l G Λ sz μ17 hR h79.1 (by decide) (by decide)) hR.o rfl rfl (Nat.le_of_ble_eq_true rfl) (by decide) ⟨Nat.le_refl _, Nat.le_refl _⟩ (fun μ21 hμ21 => ?_)
          have h89 := hμ21
          obtain ⟨σ6, w6, x6, k6⟩ : ∃ σ6, RW μ21 ν σ6 ∧ RFI σ6 60 (b.uP.der, PS.one) ∧ (∀ r : Nat, r < 120 ∨ 121 < r → σ6 r = σ4 r) := by
            refine ⟨_, h89.1, ⟨?_, ?_⟩, fun r hr => by rw [up_ne (by omega), up_ne (by omega)]⟩
            · show up _ 121 _ 120 = _
              rw [up_ne (by omega), up_at, k4 148 (by omega) (by omega) (by omega)]; exact hU
            · show up _ 121 _ 121 = _
              rw [up_at, PS.C1]
          have t4 := (h1.tm (t := ((5 * g + i + 2).toNat : Int)) (by omega)).kept (by omega) (by omega) (by omega) k4
          have t6 : RFI σ6 ((5 * g + i + 2).toNat : Int) (b.tm ((5 * g + i + 2).toNat : Int)) := ⟨(k6 _ (by omega)).trans t4.1, (k6 _ (by omega)).trans t4.2⟩
          refine v_aload hx DX12_derive_92 1 rfl ?_
          refine v_push hx DX12_derive_93 ?_
          refine v_push hx DX12_derive_95 ?_
          refine v_iload hx DX12_derive_97 3 rfl ?_
          refine v_iload hx DX12_derive_98 4 rfl ?_
          refine v_cSp hx DX12_derive_99 CSRX12_155 [iv g, iv i] (r_term l G Λ sz μ21 (by omega)) rfl rfl (Nat.le_of_ble_eq_true rfl) (by decide) ⟨Nat.le_refl _, Nat.le_refl _⟩ ?_
          refine v_cVv hx DX12_derive_102 CVRX12_220 [iv 60, iv 60, iv ((5 * g + i + 2).toNat : Int)] (r_multipliesF (o := 60) (a := 60) (b := ((5 * g + i + 2).toNat : Int)) l G Λ sz μ21 hR w6 (by omega) (by omega) (by omega) x6 t6 PS.one_ne og.1.2.2.1 (by have := og.2.1; have := b.uP_sz.2; show b.uP.der.size + _ ≤ 97; omega) (by have := og.2.2; have := PS.one_sz; show PS.one.size + _ ≤ 97; omega)) hR.o rfl rfl (Nat.le_of_ble_eq_true rfl) (by decide) ⟨Nat.le_refl _, Nat.le_refl _⟩ (fun μ25 hμ25 => ?_)
          obtain ⟨σ7, w7, x7a, x7b, k7, f7⟩ := hμ25
          have x7 : RFI σ7 60 _ := ⟨x7a, x7b⟩
          have om := ou.ml og (k := 10) (q := 6) (by omega) (by omega) (by omega)
          have x47 : RFI σ7 (32 + i + 4) (fdr (b.tm ((5 * g + i + 2).toNat : Int))) := ⟨(k7 _ (by omega) (by omega) (by omega)).trans ((k6 _ (by omega)).trans x4.1), (k7 _ (by omega) (by omega) (by omega)).trans ((k6 _ (by omega)).trans x4.2)⟩
          refine v_aload hx DX12_derive_105 1 rfl ?_
          refine v_iload hx DX12_derive_106 0 rfl ?_
          refine v_iload hx DX12_derive_108 0 rfl ?_
          refine v_push hx DX12_derive_110 ?_
          refine v_iload hx DX12_derive_112 4 rfl ?_
          refine v_cVv hx DX12_derive_113 CVRX12_223 [iv ((32 + i) + 4), iv ((32 + i) + 4), iv 60, iv i] (r_plusF (o := 32 + i + 4) (a := 32 + i + 4) (b := 60) (A := fdr (b.tm ((5 * g + i + 2).toNat : Int))) l G Λ sz μ25 hR w7 (by omega) (by omega) (by omega) (by omega) x47 x7 od.1.2.2.1 om.1.2.2.1 (by have := od.2.1; have := om.2.2; omega) (by have := om.2.1; have := od.2.2; omega) (by have := om.2.2; have := od.2.2; omega)) hR.o rfl rfl (Nat.le_of_ble_eq_true rfl) (by decide) ⟨Nat.le_refl _, Nat.le_refl _⟩ (fun μ27 hμ27 => ?_)
          obtain ⟨σ8, w8, x8a, x8b, k8, f8a⟩ := hμ27
          have f8 := (((f4.trans (h79.2.mono (by simp))).trans (h89.2.mono (by simp))).trans f7).trans f8a
          refine v_aload hx DX12_derive_116 1 rfl ?_
          refine v_get hx DX12_derive_117 FLRX12_125 hR.o (fv_i rfl ((congrFun (f8.1 ν (by simp)) 2).trans uk1) : _ = iv b.2.2.1) ?_
          refine v_push hx DX12_derive_120 ?_
          refine v_icmp_ne hx DX12_derive_121 (by omega) (by decide) (fun c121 => ?_) (fun c121 => ?_)
          · skip
            have fx := f8
            have kx : ∀ r : Nat, (r < 120 ∨ r = 148) → (r ≠ 2 * (32 + i + 4).toNat ∧ r ≠ 2 * (32 + i + 4).toNat + 1) → σ8 r = σ r := fun r h1 h2 => (k8 r (by omega) (by omega) (by omega)).trans ((k7 r (by omega) (by omega) (by omega)).trans ((k6 r (by omega)).trans (k4 r (by omega) (by omega) (by omega))))
            have jx : JR σ8 (djp b g (i + 1)) := dj_step h2 (by omega) (by unfold dj; rw [if_pos (by omega), if_pos (by omega), show (5 * g + i + 2) = ((5 * g + i + 2).toNat : Int) by omega]; exact ⟨x8a, x8b⟩) (fun r q0 q1 q2 q3 => kx r (by omega) ⟨q2, q3⟩)
            have raσ8 : RA μ27 ν σ8 b := h1.rows w8 (fun r hr => kx r (by omega) (by omega)) fx
            have ux := (kx 148 (by omega) (by omega)).trans hU
            have dx : b.2.2.1 ≠ 0 → RFI σ8 15 b.du := fun q => ⟨(kx 30 (by omega) (by omega)).trans (hD q).1, (kx 31 (by omega) (by omega)).trans (hD q).2⟩
            refine v_iinc hx DX12_derive_161 4 rfl [(3, iv (i + 1)), (4, iv ((32 + i) + 4)), (0, .ref ν), (1, iv f), (2, iv g)] rfl (by decide) ?_
            refine v_goto hx DX12_derive_164 ?_
            exact v_sub [2, 3, 4, 0] _ rfl (ih (i + 1) μ27 σ8 (by omega) ok n3 (by omega) (raσ8) jx (h3.frN (S := [ν + 1, ν + 2]) (J := []) (FrN.of fx (by simp)) (by simp) (by simp) (by simp)) ux dx (hf.trans (FrN.of (fx.mono (by simp)) (by simp))))
          · exact absurd c121 (by omega)
  have L16 : (derOK f g) → V G x (0, 0) Λ sz μ 16 [(0, .ref ν), (1, iv f), (2, iv g)] [] := by
    intro ok
    obtain ⟨k0, k1⟩ := ok
    have ok : derOK f g := ⟨k0, k1⟩
    have ftr := b.fit_rng g
    refine v_aload hx DX12_derive_16 0 rfl ?_
    refine v_iload hx DX12_derive_17 2 rfl ?_
    refine v_cVp hx DX12_derive_18 CVRX12_205 [iv g] (r_fits l G Λ sz μ hR ha (by omega)) hR.o rfl rfl (Nat.le_of_ble_eq_true rfl) (by decide) ⟨Nat.le_refl _, Nat.le_refl _⟩ ?_
    refine v_if_ne hx DX12_derive_21 (by omega) (fun c21 => ?_) (fun c21 => ?_)
    · skip
      refine v_aload hx DX12_derive_27 0 rfl ?_
      refine v_cVv hx DX12_derive_28 CVRX12_239 [] (r_laysTower l G Λ sz μ hR ha hgd) hR.o rfl rfl (Nat.le_of_ble_eq_true rfl) (by decide) ⟨Nat.le_refl _, Nat.le_refl _⟩ (fun μ31 hμ31 => ?_)
      obtain ⟨σ1, w1, u1, d1, d0, e1, f1⟩ := hμ31
      have ra1 : RA μ31 ν σ1 b := ha.rows w1 (fun r hr => e1 r (by omega)) f1
      refine v_aload hx DX12_derive_31 0 rfl ?_
      refine v_cVv hx DX12_derive_32 CVRX12_227 [] (r_noJoins l G Λ sz μ31 hR w1) hR.o rfl rfl (Nat.le_of_ble_eq_true rfl) (by decide) ⟨Nat.le_refl _, Nat.le_refl _⟩ (fun μ33 hμ33 => ?_)
      obtain ⟨σ2, w2, j2, e2, f2⟩ := hμ33
      have ra2 : RA μ33 ν σ2 b := ra1.rows w2 (fun r hr => e2 r (by omega)) f2
      refine v_push hx DX12_derive_35 ?_
      refine v_istore hx DX12_derive_37 [(3, iv (-2)), (0, .ref ν), (1, iv f), (2, iv g)] rfl (by decide) ?_
      exact v_sub [1, 2, 3, 0] _ rfl (L38 100 (-2) μ33 σ2 (by omega) ok c21 (by omega) ra2 (fun s g0 g1 => by unfold djp; exact (Classical.em (s < -2)).elim (fun q => by rw [if_pos q]; unfold dj; rw [if_neg (by omega)]; exact j2 s g0 g1) (fun q => by rw [if_neg q]; exact j2 s g0 g1)) ((hh.frN (S := [ν + 1]) (J := []) (FrN.of f1 (by simp)) (by simp) (by simp) (by simp)).frN (S := [ν + 1]) (J := []) (FrN.of f2 (by simp)) (by simp) (by simp) (by simp)) ((e2 148 (by omega)).trans u1) (fun q => ⟨(e2 30 (by omega)).trans (d1 q).1, (e2 31 (by omega)).trans (d1 q).2⟩) ((FrN.of (f1.mono (by simp)) (by simp)).trans (FrN.of (f2.mono (by simp)) (by simp))))
    · skip
      refine v_push hx DX12_derive_24 ?_
      exact v_ri hx hBD DX12_derive_26 (⟨by unfold derA; rw [if1 ok, if_pos (by omega)], der_no ⟨⟨ρ, ha⟩, hh⟩ (fun q => q.2.1 (by omega))⟩)
  refine v_iload hx DX12_derive_0 1 rfl ?_
  refine v_cSp hx DX12_derive_1 CSRX12_199 [iv f] (r_isFunction l G Λ sz μ (by omega)) rfl rfl (Nat.le_of_ble_eq_true rfl) (by decide) ⟨Nat.le_refl _, Nat.le_refl _⟩ ?_
  have br1 := bz_rng (0 ≤ f ∧ f ≤ 2)
  refine v_if_eq hx DX12_derive_4 (by omega) (fun c4 => ?_) (fun c4 => ?_)
  · skip
    have d4 := bzf c4
    have nk : ¬ derOK f g := fun q => d4 q.1
    refine v_push hx DX12_derive_14 ?_
    exact v_ri hx hBD DX12_derive_15 (⟨by unfold derA; rw [if0 nk], der_no ⟨⟨ρ, ha⟩, hh⟩ (fun q => nk q.1)⟩)
  · skip
    have d4 := bzt c4
    refine v_iload hx DX12_derive_7 2 rfl ?_
    refine v_cSp hx DX12_derive_8 CSRX12_199 [iv g] (r_isFunction l G Λ sz μ (by omega)) rfl rfl (Nat.le_of_ble_eq_true rfl) (by decide) ⟨Nat.le_refl _, Nat.le_refl _⟩ ?_
    have br8 := bz_rng (0 ≤ g ∧ g ≤ 2)
    refine v_if_ne hx DX12_derive_11 (by omega) (fun c11 => ?_) (fun c11 => ?_)
    · skip
      have d11 := bzt c11
      exact v_sub [0, 1, 2] _ rfl (L16  ⟨d4, d11⟩)
    · skip
      have d11 := bzf c11
      have nk : ¬ derOK f g := fun q => d11 q.2
      refine v_push hx DX12_derive_14 ?_
      exact v_ri hx hBD DX12_derive_15 (⟨by unfold derA; rw [if0 nk], der_no ⟨⟨ρ, ha⟩, hh⟩ (fun q => nk q.1)⟩)
