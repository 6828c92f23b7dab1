/-! ===== the reference: sums of powers, what undoes ===== -/
def RO (μ : Mem) (ν : Nat) (p : PS) (n : Nat) : Prop := ∀ k : Nat, k < n → μ.1 (ν + 9) (k : Int) = ((trc p n (PS.mo k)).val : Int)
theorem fi_v (x : F) : fi (x.val : Int) = x := fi_cf (fun _ => x) 0
theorem val_of {z : Int} {x : F} (h : fi z = x) : z % 101 = (x.val : Int) := by rw [← h, fi_val]
theorem trc0 {s : PS} {n : Nat} (hs : s.isz (n + 1)) (hm : s n = 1) (hn : 1 ≤ n) : trc s n (PS.mo 0) = fi (n : Int) := by
  have : PS.mo 0 = PS.C 1 := PS.ext fun k => rfl
  rw [this, trc_C 1 hs hm hn]; grind
/-- the sum that the inner loop has -/
noncomputable def nsm (p : PS) (n k : Nat) (i : Nat) : F := fi (k : Int) * p (n - k) + fsum (fun l => p (n - (l + 1)) * trc p n (PS.mo (k - (l + 1)))) i
theorem nsm_end {p : PS} {n k : Nat} (hs : p.isz (n + 1)) (hm : p n = 1) (hk : 1 ≤ k ∧ k < n) : trc p n (PS.mo k) = - nsm p n k (k - 1) := by
  have h := newton hs hm hk
  have e : k = k - 1 + 1 := by omega
  unfold nsm
  rw [e, fsum_front, ← e] at h
  have e0 : p (n - 0) * trc p n (PS.mo (k - 0)) = trc p n (PS.mo k) := by
    rw [Nat.sub_zero, Nat.sub_zero, hm]; grind
  rw [e0] at h
  grind
theorem r_laysRoots (l : Launch) (G : Gl) (Λ : Lay) (sz : Nat) (μ : Mem) {ν : Nat} {ρ : Nat → PS} {s : Nat} {n : Int} (hR : refK Λ ν) (hw : RW μ ν ρ) (hs : s < 154) (hn : 1 ≤ n ∧ n ≤ 60) (hz : (ρ s).isz (n.toNat + 1)) (h1m : ρ s n.toNat = 1) : Sp l G yX12_laysRoots cX12_laysRoots 6 none 1 [.ref ν, iv (s : Int), iv n] Λ sz μ (pV (fun μ' => RO μ' ν (ρ s) n.toNat ∧ Fr [ν + 9] μ μ')) := by
  refine Sp.intro (by decide) (Nat.le_of_ble_eq_true rfl) (fun x hx hBD => ?_)
  refine v_lv [(0, .ref ν), (1, iv (s : Int)), (2, iv n)] rfl ?_
  have L37 : ∀ (nf : Nat) (k i sm : Int) (m : Mem), (k - i < (nf : Int)) → (1 ≤ k ∧ k < n) → (1 ≤ i ∧ i ≤ k) → (fi sm = nsm (ρ s) n.toNat k.toNat (i.toNat - 1)) → (0 ≤ sm ∧ sm ≤ 6000 + 10000 * i) → (∀ j : Nat, (j : Int) < k → m.1 (ν + 9) (j : Int) = ((trc (ρ s) n.toNat (PS.mo j)).val : Int)) → (Fr [ν + 9] μ m) → (∀ (sq : Int), (fi (-sq) = (trc (ρ s) n.toNat (PS.mo k.toNat))) → (0 ≤ sq ∧ sq ≤ 606000) → V G x (0, 0) Λ sz m 78 [(4, iv sq), (3, iv k), (0, .ref ν), (1, iv (s : Int)), (2, iv n)] []) → V G x (0, 0) Λ sz m 37 [(5, iv i), (4, iv sm), (3, iv k), (0, .ref ν), (1, iv (s : Int)), (2, iv n)] [] := by
    intro nf
    induction nf with
    | zero => intro k i sm m hm hk hi hsm hb hr hf hC; exact absurd hm (by omega)
    | succ nf ih =>
      intro k i sm m hm hk hi hsm hb hr hf hC
      have c1 := cf_rng (ρ s) (n - i)
      have c2 := vrng (trc (ρ s) n.toNat (PS.mo (k - i).toNat))
      have c3 := mulb (a := cf (ρ s) (n - i)) (b := ((trc (ρ s) n.toNat (PS.mo (k - i).toNat)).val : Int)) (A := 100) (B := 100) c1.1 c1.2 c2.1 c2.2
      refine v_iload hx DX12_laysRoots_37 0 rfl ?_
      refine v_iload hx DX12_laysRoots_39 2 rfl ?_
      refine v_icmp_ge hx DX12_laysRoots_40 (by omega) (by omega) (fun c40 => ?_) (fun c40 => ?_)
      · skip
        exact v_sub [1, 2, 3, 4, 5] _ rfl (hC sm (by rw [nsm_end hz h1m (by omega), show k.toNat - 1 = i.toNat - 1 by omega, ← hsm, show -sm = (-1) * sm by omega, fi_mul, show fi (-1) = -1 from by decide]; grind) (by omega))
      · skip
        refine v_iload hx DX12_laysRoots_43 1 rfl ?_
        refine v_aload hx DX12_laysRoots_45 3 rfl ?_
        refine v_get hx DX12_laysRoots_46 FLRX12_3 hR.o (v := .ref (ν + 1)) rfl ?_
        refine v_push hx DX12_laysRoots_49 ?_
        refine v_iload hx DX12_laysRoots_51 4 rfl ?_
        refine v_imul hx DX12_laysRoots_52 ?_
        refine v_iload hx DX12_laysRoots_53 5 rfl ?_
        refine v_iadd hx DX12_laysRoots_54 ?_
        refine v_iload hx DX12_laysRoots_55 0 rfl ?_
        refine v_isub hx DX12_laysRoots_57 ?_
        refine v_iald hx DX12_laysRoots_58 hR.p (by omega) (by decide) (z := cf (ρ s) (n - i)) (by rw [hf.1 _ (by simp), show 96 * (s : Int) + n - i = 96 * (s : Int) + (n - i) by omega]; exact hw.at hs (by omega) (by omega) rfl) ?_
        refine v_aload hx DX12_laysRoots_59 3 rfl ?_
        refine v_get hx DX12_laysRoots_60 FLRX12_90 hR.o (v := .ref (ν + 9)) rfl ?_
        refine v_iload hx DX12_laysRoots_63 2 rfl ?_
        refine v_iload hx DX12_laysRoots_64 0 rfl ?_
        refine v_isub hx DX12_laysRoots_66 ?_
        refine v_iald hx DX12_laysRoots_67 hR.roots (by omega) (by decide) (z := ((trc (ρ s) n.toNat (PS.mo (k - i).toNat)).val : Int)) (by have q := hr (k - i).toNat (by omega); rwa [Int.toNat_of_nonneg (by omega)] at q) ?_
        refine v_imul hx DX12_laysRoots_68 ?_
        refine v_iadd hx DX12_laysRoots_69 ?_
        refine v_istore hx DX12_laysRoots_70 [(4, iv (sm + ((cf (ρ s) (n - i)) * ((trc (ρ s) n.toNat (PS.mo (k - i).toNat)).val : Int)))), (5, iv i), (3, iv k), (0, .ref ν), (1, iv (s : Int)), (2, iv n)] rfl (by decide) ?_
        refine v_iinc hx DX12_laysRoots_72 1 rfl [(5, iv (i + 1)), (4, iv (sm + ((cf (ρ s) (n - i)) * ((trc (ρ s) n.toNat (PS.mo (k - i).toNat)).val : Int)))), (3, iv k), (0, .ref ν), (1, iv (s : Int)), (2, iv n)] rfl (by decide) ?_
        refine v_goto hx DX12_laysRoots_75 ?_
        exact v_sub [0, 1, 2, 3, 4, 5] _ rfl (ih k (i + 1) (sm + ((cf (ρ s) (n - i)) * ((trc (ρ s) n.toNat (PS.mo (k - i).toNat)).val : Int))) m (by omega) hk (by omega) (by rw [fi_add, fi_mul, fi_cf, fi_v, hsm]; unfold nsm; rw [show (i + 1).toNat - 1 = i.toNat - 1 + 1 by omega]; show _ = fi (k.toNat : Int) * _ + (fsum _ (i.toNat - 1) + ρ s (n.toNat - (i.toNat - 1 + 1)) * trc (ρ s) n.toNat (PS.mo (k.toNat - (i.toNat - 1 + 1)))); rw [show (n - i).toNat = n.toNat - (i.toNat - 1 + 1) by omega, show (k - i).toNat = k.toNat - (i.toNat - 1 + 1) by omega]; grind) (by omega) hr hf hC)
  have L12 : ∀ (nf : Nat) (k : Int) (m : Mem), (n - k < (nf : Int)) → (1 ≤ k ∧ k ≤ n) → (∀ j : Nat, (j : Int) < k → m.1 (ν + 9) (j : Int) = ((trc (ρ s) n.toNat (PS.mo j)).val : Int)) → (Fr [ν + 9] μ m) → V G x (0, 0) Λ sz m 12 [(3, iv k), (0, .ref ν), (1, iv (s : Int)), (2, iv n)] [] := by
    intro nf
    induction nf with
    | zero => intro k m hm hk hr hf; exact absurd hm (by omega)
    | succ nf ih =>
      intro k m hm hk hr hf
      have c1 := cf_rng (ρ s) (n - k)
      have c2 := mulb (a := k) (b := cf (ρ s) (n - k)) (A := 60) (B := 100) (by omega) (by omega) c1.1 c1.2
      refine v_iload hx DX12_laysRoots_12 0 rfl ?_
      refine v_iload hx DX12_laysRoots_13 3 rfl ?_
      refine v_icmp_ge hx DX12_laysRoots_14 (by omega) (by omega) (fun c14 => ?_) (fun c14 => ?_)
      · skip
        exact v_rv hx hBD DX12_laysRoots_96 (⟨fun j hj => hr j (by omega), hf⟩)
      · skip
        refine v_iload hx DX12_laysRoots_17 0 rfl ?_
        refine v_aload hx DX12_laysRoots_18 1 rfl ?_
        refine v_get hx DX12_laysRoots_19 FLRX12_3 hR.o (v := .ref (ν + 1)) rfl ?_
        refine v_push hx DX12_laysRoots_22 ?_
        refine v_iload hx DX12_laysRoots_24 2 rfl ?_
        refine v_imul hx DX12_laysRoots_25 ?_
        refine v_iload hx DX12_laysRoots_26 3 rfl ?_
        refine v_iadd hx DX12_laysRoots_27 ?_
        refine v_iload hx DX12_laysRoots_28 0 rfl ?_
        refine v_isub hx DX12_laysRoots_29 ?_
        refine v_iald hx DX12_laysRoots_30 hR.p (by omega) (by decide) (z := cf (ρ s) (n - k)) (by rw [hf.1 _ (by simp), show 96 * (s : Int) + n - k = 96 * (s : Int) + (n - k) by omega]; exact hw.at hs (by omega) (by omega) rfl) ?_
        refine v_imul hx DX12_laysRoots_31 ?_
        refine v_istore hx DX12_laysRoots_32 [(4, iv (k * (cf (ρ s) (n - k)))), (3, iv k), (0, .ref ν), (1, iv (s : Int)), (2, iv n)] rfl (by decide) ?_
        refine v_push hx DX12_laysRoots_34 ?_
        refine v_istore hx DX12_laysRoots_35 [(5, iv 1), (4, iv (k * (cf (ρ s) (n - k)))), (3, iv k), (0, .ref ν), (1, iv (s : Int)), (2, iv n)] rfl (by decide) ?_
        refine v_sub [0, 1, 2, 3, 4, 5] _ rfl (L37 100 k 1 (k * (cf (ρ s) (n - k))) m (by omega) (by omega) (by omega) (by show fi (k * cf (ρ s) (n - k)) = _; rw [fi_mul, fi_cf]; unfold nsm; show _ = fi (k.toNat : Int) * _ + 0; rw [Int.toNat_of_nonneg (by omega), show (n - k).toNat = n.toNat - k.toNat by omega]; grind) (by omega) hr hf (fun sq eT hb2 => ?_))
        refine v_aload hx DX12_laysRoots_78 2 rfl ?_
        refine v_get hx DX12_laysRoots_79 FLRX12_90 hR.o (v := .ref (ν + 9)) rfl ?_
        refine v_iload hx DX12_laysRoots_82 1 rfl ?_
        refine v_iload hx DX12_laysRoots_83 0 rfl ?_
        refine v_ineg hx DX12_laysRoots_85 ?_
        refine v_cSp hx DX12_laysRoots_86 CSRX12_11 [iv (-sq)] (r_mod l G Λ sz m (by omega)) rfl rfl (Nat.le_of_ble_eq_true rfl) (by decide) ⟨Nat.le_refl _, Nat.le_refl _⟩ ?_
        refine v_iastm hx DX12_laysRoots_89 hR.roots (by omega) (by decide) (fun μ3 eμ3 => ?_)
        refine v_iinc hx DX12_laysRoots_90 1 rfl [(3, iv (k + 1)), (4, iv sq), (0, .ref ν), (1, iv (s : Int)), (2, iv n)] rfl (by decide) ?_
        refine v_goto hx DX12_laysRoots_93 ?_
        exact v_sub [0, 2, 3, 4] _ rfl (ih (k + 1) μ3 (by omega) (by omega) (fun j hj => by rw [eμ3, mI_at]; exact (Classical.em ((j : Int) = k)).elim (fun q => by rw [if_pos q, show j = k.toNat by omega]; exact val_of eT) (fun q => by rw [if_neg q]; exact hr j (by omega))) (hf.trans (by rw [eμ3]; exact Fr.mI (by simp))))
  refine v_aload hx DX12_laysRoots_0 0 rfl ?_
  refine v_get hx DX12_laysRoots_1 FLRX12_90 hR.o (v := .ref (ν + 9)) rfl ?_
  refine v_push hx DX12_laysRoots_4 ?_
  refine v_iload hx DX12_laysRoots_5 2 rfl ?_
  refine v_push hx DX12_laysRoots_6 ?_
  refine v_irem hx (by omega) (by decide) DX12_laysRoots_8 ?_
  refine v_iastm hx DX12_laysRoots_9 hR.roots (by omega) (by decide) (fun μ4 eμ4 => ?_)
  refine v_push hx DX12_laysRoots_10 ?_
  refine v_istore hx DX12_laysRoots_11 [(3, iv 1), (0, .ref ν), (1, iv (s : Int)), (2, iv n)] rfl (by decide) ?_
  exact v_sub [0, 1, 2, 3] _ rfl (L12 100 1 μ4 (by omega) (by omega) (fun j hj => by rw [eμ4, mI_at, if_pos (by omega), show j = 0 by omega, trc0 hz h1m (by omega), fi_val, Int.toNat_of_nonneg (by omega)]) (by rw [eμ4]; exact Fr.mI (by simp)))
theorem r_trace (l : Launch) (G : Gl) (Λ : Lay) (sz : Nat) (μ : Mem) {ν : Nat} {ρ : Nat → PS} {t : Nat} {n : Int} {p : PS} (hR : refK Λ ν) (hw : RW μ ν ρ) (ht : t < 154) (hn : 1 ≤ n ∧ n ≤ 60) (hz : p.isz (n.toNat + 1)) (h1m : p n.toNat = 1) (hl : (ρ t).lt n.toNat) (hO : RO μ ν p n.toNat) : Sp l G yX12_trace cX12_trace 5 (some FieldType.int) 0 [.ref ν, iv (t : Int), iv n] Λ sz μ (pP μ ((trc p n.toNat (ρ t)).val : Int)) := by
  refine Sp.intro (by decide) (Nat.le_of_ble_eq_true rfl) (fun x hx hBD => ?_)
  refine v_lv [(0, .ref ν), (1, iv (t : Int)), (2, iv n)] rfl ?_
  have L5 : ∀ (nf : Nat) (k sm : Int), (n - k < (nf : Int)) → (0 ≤ k ∧ k ≤ n) → (sm = ((fsum (fun k => ρ t k * trc p n.toNat (PS.mo k)) k.toNat).val : Int)) → V G x (0, 0) Λ sz μ 5 [(4, iv k), (3, iv sm), (0, .ref ν), (1, iv (t : Int)), (2, iv n)] [] := by
    intro nf
    induction nf with
    | zero => intro k sm hm hk hsm; exact absurd hm (by omega)
    | succ nf ih =>
      intro k sm hm hk hsm
      have c0 := vrng (fsum (fun k => ρ t k * trc p n.toNat (PS.mo k)) k.toNat)
      have c1 := cf_rng (ρ t) k
      have c2 := vrng (trc p n.toNat (PS.mo k.toNat))
      have c3 := mulb (a := cf (ρ t) k) (b := ((trc p n.toNat (PS.mo k.toNat)).val : Int)) (A := 100) (B := 100) c1.1 c1.2 c2.1 c2.2
      refine v_iload hx DX12_trace_5 0 rfl ?_
      refine v_iload hx DX12_trace_7 4 rfl ?_
      refine v_icmp_ge hx DX12_trace_8 (by omega) (by omega) (fun c8 => ?_) (fun c8 => ?_)
      · skip
        refine v_iload hx DX12_trace_43 1 rfl ?_
        exact v_ri hx hBD DX12_trace_44 (⟨rfl, by rw [hsm, show k.toNat = n.toNat by omega, ← trc_lin hz h1m hl]⟩)
      · skip
        refine v_iload hx DX12_trace_11 1 rfl ?_
        refine v_aload hx DX12_trace_12 2 rfl ?_
        refine v_get hx DX12_trace_13 FLRX12_3 hR.o (v := .ref (ν + 1)) rfl ?_
        refine v_push hx DX12_trace_16 ?_
        refine v_iload hx DX12_trace_18 3 rfl ?_
        refine v_imul hx DX12_trace_19 ?_
        refine v_iload hx DX12_trace_20 0 rfl ?_
        refine v_iadd hx DX12_trace_22 ?_
        refine v_iald hx DX12_trace_23 hR.p (by omega) (by decide) (z := cf (ρ t) k) (hw.at ht (by omega) (by omega) rfl) ?_
        refine v_aload hx DX12_trace_24 2 rfl ?_
        refine v_get hx DX12_trace_25 FLRX12_90 hR.o (v := .ref (ν + 9)) rfl ?_
        refine v_iload hx DX12_trace_28 0 rfl ?_
        refine v_iald hx DX12_trace_30 hR.roots (by omega) (by decide) (z := ((trc p n.toNat (PS.mo k.toNat)).val : Int)) (by have q := hO k.toNat (by omega); rwa [Int.toNat_of_nonneg (by omega)] at q) ?_
        refine v_imul hx DX12_trace_31 ?_
        refine v_iadd hx DX12_trace_32 ?_
        refine v_push hx DX12_trace_33 ?_
        refine v_irem hx (by omega) (by decide) DX12_trace_35 ?_
        refine v_istore hx DX12_trace_36 [(3, iv ((sm + ((cf (ρ t) k) * ((trc p n.toNat (PS.mo k.toNat)).val : Int))) % 101)), (4, iv k), (0, .ref ν), (1, iv (t : Int)), (2, iv n)] rfl (by decide) ?_
        refine v_iinc hx DX12_trace_37 1 rfl [(4, iv (k + 1)), (3, iv ((sm + ((cf (ρ t) k) * ((trc p n.toNat (PS.mo k.toNat)).val : Int))) % 101)), (0, .ref ν), (1, iv (t : Int)), (2, iv n)] rfl (by decide) ?_
        refine v_goto hx DX12_trace_40 ?_
        exact v_sub [0, 1, 2, 3, 4] _ rfl (ih (k + 1) ((sm + ((cf (ρ t) k) * ((trc p n.toNat (PS.mo k.toNat)).val : Int))) % 101) (by omega) (by omega) (by rw [show (k + 1).toNat = k.toNat + 1 by omega]; refine val_of ?_; rw [fi_add, fi_mul, fi_cf, fi_v, hsm, fi_v]; rfl))
  refine v_push hx DX12_trace_0 ?_
  refine v_istore hx DX12_trace_1 [(3, iv 0), (0, .ref ν), (1, iv (t : Int)), (2, iv n)] rfl (by decide) ?_
  refine v_push hx DX12_trace_2 ?_
  refine v_istore hx DX12_trace_3 [(4, iv 0), (3, iv 0), (0, .ref ν), (1, iv (t : Int)), (2, iv n)] rfl (by decide) ?_
  exact v_sub [0, 1, 2, 3, 4] _ rfl (L5 100 0 0 (by omega) (by omega) rfl)
theorem r_undoes (l : Launch) (G : Gl) (Λ : Lay) (sz : Nat) (μ : Mem) {ν : Nat} {ρ : Nat → PS} {a s : Nat} (hR : refK Λ ν) (hw : RW μ ν ρ) (ha : a < 140 ∨ a = 144) (hs : s < 140) (hz : 1 < (ρ s).size ∧ (ρ s).size ≤ 40 ∧ (ρ a).size < (ρ s).size) : Sp l G yX12_undoes cX12_undoes 3 none 3 [.ref ν, iv (a : Int), iv (s : Int)] Λ sz μ (pV (fun μ' => ∃ σ, RW μ' ν σ ∧ σ 142 = (((ρ a).inv (ρ s)).md (ρ s)) ∧ (∀ r : Nat, (r < 140 ∨ r = 144 ∨ 147 ≤ r) → σ r = ρ r) ∧ Fr [ν + 1, ν + 2] μ μ')) := by
  refine Sp.intro (by decide) (Nat.le_of_ble_eq_true rfl) (fun x hx hBD => ?_)
  refine v_lv [(0, .ref ν), (1, iv (a : Int)), (2, iv (s : Int))] rfl ?_
  have la := (hw a (by omega)).1
  have ls := (hw s (by omega)).1
  have hS0 : ρ s ≠ PS.zero := PS.ne_of_size (by omega)
  have hmd : (ρ a).md (ρ s) = ρ a := by
    obtain ⟨n, en, zn⟩ := PS.fne_isz ⟨_, ls⟩ hS0
    exact md_un zn (PS.lt_mono (PS.lt_size la) (by omega)) ⟨_, la⟩ (by have : (ρ a).sub (ρ a) = PS.zero := PS.ext fun k => by show ρ a k - ρ a k = 0; grind
                                                                       rw [this]; exact PS.dvd_zero _)
  have L31 : ∀ (nf : Nat) (A B u t : PS) (nn : Nat) (m : Mem) (σ : Nat → PS), ((B.size : Int) < (nf : Int)) → (RW m ν σ) → (σ 140 = A ∧ σ 141 = B ∧ σ 142 = u ∧ σ 143 = t) → (∀ r : Nat, (r < 140 ∨ r = 144 ∨ 147 ≤ r) → σ r = ρ r) → (u.lt nn ∧ t.lt nn ∧ nn + A.size ≤ (ρ s).size + 1 ∧ B.size < A.size) → (PS.ex 200 (ρ s) ((ρ a).md (ρ s)) PS.zero PS.one = PS.ex 200 A B u t) → (Fr [ν + 1, ν + 2] μ m) → V G x (0, 0) Λ sz m 31 [(0, .ref ν), (1, iv (a : Int)), (2, iv (s : Int))] [] := by
    intro nf
    induction nf with
    | zero => intro A B u t nn m σ hm h1 eA hk3 hn hE hf; exact absurd hm (by omega)
    | succ nf ih =>
      intro A B u t nn m σ hm h1 eA hk3 hn hE hf
      have lA : A.lt 96 := by rw [← eA.1]; exact (h1 140 (by decide)).1
      have lB : B.lt 96 := by rw [← eA.2.1]; exact (h1 141 (by decide)).1
      have sA := PS.size_le lA
      refine v_aload hx DX12_undoes_31 0 rfl ?_
      refine v_push hx DX12_undoes_32 ?_
      refine v_cVp hx DX12_undoes_35 CVRX12_15 [iv 141] (r_degree (s := 141) l G Λ sz m hR h1 (by decide)) hR.o rfl rfl (Nat.le_of_ble_eq_true rfl) (by decide) ⟨Nat.le_refl _, Nat.le_refl _⟩ ?_
      rw [eA.2.1]
      refine v_if_le hx DX12_undoes_38 (by omega) (fun c38 => ?_) (fun c38 => ?_)
      · skip
        have hEB : PS.ex 200 (ρ s) ((ρ a).md (ρ s)) PS.zero PS.one = (B, t) := by rw [hE, PS.ex_end (by omega)]
        refine v_aload hx DX12_undoes_141 0 rfl ?_
        refine v_push hx DX12_undoes_142 ?_
        refine v_push hx DX12_undoes_145 ?_
        refine v_cVv hx DX12_undoes_148 CVRX12_27 [iv 142, iv 143] (r_lays (s := 142) (t := 143) l G Λ sz m hR h1 (by decide) (by decide)) hR.o rfl rfl (Nat.le_of_ble_eq_true rfl) (by decide) ⟨Nat.le_refl _, Nat.le_refl _⟩ (fun μ3 hμ3 => ?_)
        obtain ⟨σ1, w1, a1, k1⟩ := RW.abs hμ3.1
        have f1 := hμ3.2
        refine v_aload hx DX12_undoes_151 0 rfl ?_
        refine v_push hx DX12_undoes_152 ?_
        refine v_aload hx DX12_undoes_155 0 rfl ?_
        refine v_push hx DX12_undoes_156 ?_
        refine v_cVp hx DX12_undoes_159 CVRX12_21 [iv 141] (r_head (s := 141) l G Λ sz μ3 hR w1 (by decide)) hR.o rfl rfl (Nat.le_of_ble_eq_true rfl) (by decide) ⟨Nat.le_refl _, Nat.le_refl _⟩ ?_
        rw [k1 141 (by omega), eA.2.1]
        refine v_cSp hx DX12_undoes_162 CSRX12_24 [iv (hdI B)] (r_over l G Λ sz μ3 (hdI_rng B)) rfl rfl (Nat.le_of_ble_eq_true rfl) (by decide) ⟨Nat.le_refl _, Nat.le_refl _⟩ ?_
        have vi := ivI_rng (hdI B)
        refine v_cVv hx DX12_undoes_165 CVRX12_35 [iv 142, iv (ivI (hdI B))] (r_scale (s := 142) l G Λ sz μ3 hR w1 (by decide) (by omega)) hR.o rfl rfl (Nat.le_of_ble_eq_true rfl) (by decide) ⟨Nat.le_refl _, Nat.le_refl _⟩ (fun μ9 hμ9 => ?_)
        obtain ⟨σ2, w2, a2, k2⟩ := RW.abs hμ9.1
        have f2 := hμ9.2
        have xi : σ2 142 = (ρ a).inv (ρ s) := by rw [a2, a1, eA.2.2.2, fi_ivI]; unfold PS.inv; rw [hEB]
        have es : σ2 s = ρ s := (k2 s (by omega)).trans ((k1 s (by omega)).trans (hk3 s (by omega)))
        refine v_aload hx DX12_undoes_168 0 rfl ?_
        refine v_push hx DX12_undoes_169 ?_
        refine v_push hx DX12_undoes_172 ?_
        refine v_iload hx DX12_undoes_175 2 rfl ?_
        refine v_cVv hx DX12_undoes_176 CVRX12_31 [iv 145, iv 142, iv (s : Int)] (r_divides (o := 145) (s := 142) (y := s) l G Λ sz μ9 hR w2 (by decide) (by decide) (by omega) (by decide) (by omega) (by omega) (by rw [es]; exact hS0)) hR.o rfl rfl (Nat.le_of_ble_eq_true rfl) (by decide) ⟨Nat.le_refl _, Nat.le_refl _⟩ (fun μ11 hμ11 => ?_)
        have h176 := hμ11
        exact v_rv hx hBD DX12_undoes_179 (⟨_, h176.1, by rw [up_at, xi, es], fun r hr => by rw [up_ne (by omega), up_ne (by omega), k2 r (by omega), k1 r (by omega)]; exact hk3 r hr, (hf.trans ((f1.trans f2).mono (by simp))).trans (h176.2.mono (by simp))⟩)
      · skip
        have hB1 : ¬ B.size ≤ 1 := by omega
        have hB0 := PS.ne_of_size (show 0 < B.size by omega)
        obtain ⟨m1, -, hm1, hBz⟩ := PS.ne_zero_isz lB hB0
        have hmd2 := PS.md_size lA lB hB0
        have dvl := PS.dv_lt (N := A.size - B.size + 1) hBz (PS.lt_mono (PS.lt_size lA) (by omega))
        have ltq : (u.sub ((A.dv B).mul t)).lt (nn + A.size - B.size) := PS.lt_sub (PS.lt_mono hn.1 (by omega)) (PS.lt_mul' dvl hn.2.1 (by omega))
        refine v_aload hx DX12_undoes_41 0 rfl ?_
        refine v_push hx DX12_undoes_42 ?_
        refine v_push hx DX12_undoes_45 ?_
        refine v_push hx DX12_undoes_48 ?_
        refine v_cVv hx DX12_undoes_51 CVRX12_31 [iv 145, iv 140, iv 141] (r_divides (o := 145) (s := 140) (y := 141) l G Λ sz m hR h1 (by decide) (by decide) (by decide) (by decide) (by decide) (by decide) (by rw [eA.2.1]; exact hB0)) hR.o rfl rfl (Nat.le_of_ble_eq_true rfl) (by decide) ⟨Nat.le_refl _, Nat.le_refl _⟩ (fun μ13 hμ13 => ?_)
        have h51 := hμ13
        obtain ⟨σ1, w1, a1, b1, k1⟩ : ∃ τ, RW μ13 ν τ ∧ τ 145 = A.dv B ∧ τ 140 = A.md B ∧ (∀ r, r ≠ 145 → r ≠ 140 → τ r = σ r) := ⟨_, h51.1, by rw [up_ne (by omega), up_at, eA.1, eA.2.1], by rw [up_at, eA.1, eA.2.1], fun r g1 g2 => by rw [up_ne g2, up_ne g1]⟩
        have f1 := h51.2
        refine v_aload hx DX12_undoes_54 0 rfl ?_
        refine v_push hx DX12_undoes_55 ?_
        refine v_push hx DX12_undoes_58 ?_
        refine v_push hx DX12_undoes_61 ?_
        refine v_cVv hx DX12_undoes_64 CVRX12_50 [iv 146, iv 145, iv 143] (r_times (s := 146) (a := 145) (b := 143) l G Λ sz μ13 hR w1 (by decide) (by decide) (by decide)) hR.o rfl rfl (Nat.le_of_ble_eq_true rfl) (by decide) ⟨Nat.le_refl _, Nat.le_refl _⟩ (fun μ15 hμ15 => ?_)
        obtain ⟨σ2, w2, a2, k2⟩ := RW.abs2 (B := (A.dv B).mul t) hμ15.1 (by rw [a1, k1 143 (by omega) (by omega), eA.2.2.2]) (PS.lt_mul' dvl hn.2.1 (by omega))
        have f2 := hμ15.2
        refine v_aload hx DX12_undoes_67 0 rfl ?_
        refine v_push hx DX12_undoes_68 ?_
        refine v_push hx DX12_undoes_71 ?_
        refine v_push hx DX12_undoes_74 ?_
        refine v_cVv hx DX12_undoes_75 CVRX12_53 [iv 142, iv 146, iv (-1)] (r_adds (s := 142) (t := 146) l G Λ sz μ15 hR w2 (by decide) (by decide) (by decide)) hR.o rfl rfl (Nat.le_of_ble_eq_true rfl) (by decide) ⟨Nat.le_refl _, Nat.le_refl _⟩ (fun μ17 hμ17 => ?_)
        obtain ⟨σ3, w3, a3, k3⟩ := RW.abs hμ17.1
        have f3 := hμ17.2
        have x3 : σ3 142 = u.sub ((A.dv B).mul t) := by rw [a3, a2, k2 142 (by omega), k1 142 (by omega) (by omega), eA.2.2.1, PS.add_sm]
        refine v_aload hx DX12_undoes_78 0 rfl ?_
        refine v_push hx DX12_undoes_79 ?_
        refine v_push hx DX12_undoes_82 ?_
        refine v_cVv hx DX12_undoes_85 CVRX12_27 [iv 146, iv 142] (r_lays (s := 146) (t := 142) l G Λ sz μ17 hR w3 (by decide) (by decide)) hR.o rfl rfl (Nat.le_of_ble_eq_true rfl) (by decide) ⟨Nat.le_refl _, Nat.le_refl _⟩ (fun μ19 hμ19 => ?_)
        obtain ⟨σ4, w4, a4, k4⟩ := RW.abs hμ19.1
        have f4 := hμ19.2
        refine v_aload hx DX12_undoes_88 0 rfl ?_
        refine v_push hx DX12_undoes_89 ?_
        refine v_push hx DX12_undoes_92 ?_
        refine v_cVv hx DX12_undoes_95 CVRX12_27 [iv 142, iv 143] (r_lays (s := 142) (t := 143) l G Λ sz μ19 hR w4 (by decide) (by decide)) hR.o rfl rfl (Nat.le_of_ble_eq_true rfl) (by decide) ⟨Nat.le_refl _, Nat.le_refl _⟩ (fun μ21 hμ21 => ?_)
        obtain ⟨σ5, w5, a5, k5⟩ := RW.abs hμ21.1
        have f5 := hμ21.2
        refine v_aload hx DX12_undoes_98 0 rfl ?_
        refine v_push hx DX12_undoes_99 ?_
        refine v_push hx DX12_undoes_102 ?_
        refine v_cVv hx DX12_undoes_105 CVRX12_27 [iv 143, iv 146] (r_lays (s := 143) (t := 146) l G Λ sz μ21 hR w5 (by decide) (by decide)) hR.o rfl rfl (Nat.le_of_ble_eq_true rfl) (by decide) ⟨Nat.le_refl _, Nat.le_refl _⟩ (fun μ23 hμ23 => ?_)
        obtain ⟨σ6, w6, a6, k6⟩ := RW.abs hμ23.1
        have f6 := hμ23.2
        refine v_aload hx DX12_undoes_108 0 rfl ?_
        refine v_push hx DX12_undoes_109 ?_
        refine v_push hx DX12_undoes_112 ?_
        refine v_cVv hx DX12_undoes_115 CVRX12_27 [iv 146, iv 140] (r_lays (s := 146) (t := 140) l G Λ sz μ23 hR w6 (by decide) (by decide)) hR.o rfl rfl (Nat.le_of_ble_eq_true rfl) (by decide) ⟨Nat.le_refl _, Nat.le_refl _⟩ (fun μ25 hμ25 => ?_)
        obtain ⟨σ7, w7, a7, k7⟩ := RW.abs hμ25.1
        have f7 := hμ25.2
        refine v_aload hx DX12_undoes_118 0 rfl ?_
        refine v_push hx DX12_undoes_119 ?_
        refine v_push hx DX12_undoes_122 ?_
        refine v_cVv hx DX12_undoes_125 CVRX12_27 [iv 140, iv 141] (r_lays (s := 140) (t := 141) l G Λ sz μ25 hR w7 (by decide) (by decide)) hR.o rfl rfl (Nat.le_of_ble_eq_true rfl) (by decide) ⟨Nat.le_refl _, Nat.le_refl _⟩ (fun μ27 hμ27 => ?_)
        obtain ⟨σ8, w8, a8, k8⟩ := RW.abs hμ27.1
        have f8 := hμ27.2
        refine v_aload hx DX12_undoes_128 0 rfl ?_
        refine v_push hx DX12_undoes_129 ?_
        refine v_push hx DX12_undoes_132 ?_
        refine v_cVv hx DX12_undoes_135 CVRX12_27 [iv 141, iv 146] (r_lays (s := 141) (t := 146) l G Λ sz μ27 hR w8 (by decide) (by decide)) hR.o rfl rfl (Nat.le_of_ble_eq_true rfl) (by decide) ⟨Nat.le_refl _, Nat.le_refl _⟩ (fun μ29 hμ29 => ?_)
        obtain ⟨σ9, w9, a9, k9⟩ := RW.abs hμ29.1
        have f9 := hμ29.2
        have g1 : σ9 140 = B := by rw [k9 140 (by omega), a8, k7 141 (by omega), k6 141 (by omega), k5 141 (by omega), k4 141 (by omega), k3 141 (by omega), k2 141 (by omega), k1 141 (by omega) (by omega), eA.2.1]
        have g2 : σ9 141 = A.md B := by rw [a9, k8 146 (by omega), a7, k6 140 (by omega), k5 140 (by omega), k4 140 (by omega), k3 140 (by omega), k2 140 (by omega), b1]
        have g3 : σ9 142 = t := by rw [k9 142 (by omega), k8 142 (by omega), k7 142 (by omega), k6 142 (by omega), a5, k4 143 (by omega), k3 143 (by omega), k2 143 (by omega), k1 143 (by omega) (by omega), eA.2.2.2]
        have g4 : σ9 143 = u.sub ((A.dv B).mul t) := by rw [k9 143 (by omega), k8 143 (by omega), k7 143 (by omega), a6, k5 146 (by omega), a4, x3]
        have ff : Fr [ν + 1, ν + 2] m μ29 := ((f1.mono (by simp)).trans f2).trans (((((((f3.trans f4).trans f5).trans f6).trans f7).trans f8).trans f9).mono (by simp))
        refine v_goto hx DX12_undoes_138 ?_
        exact v_sub [0, 1, 2] _ rfl (ih B (A.md B) t (u.sub ((A.dv B).mul t)) (nn + A.size - B.size) μ29 σ9 (by omega) w9 ⟨g1, g2, g3, g4⟩ (fun r hr => (k9 r (by omega)).trans ((k8 r (by omega)).trans ((k7 r (by omega)).trans ((k6 r (by omega)).trans ((k5 r (by omega)).trans ((k4 r (by omega)).trans ((k3 r (by omega)).trans ((k2 r (by omega)).trans ((k1 r (by omega) (by omega)).trans (hk3 r hr)))))))))) ⟨PS.lt_mono hn.2.1 (by omega), ltq, by omega, hmd2.1⟩ (by rw [hE, PS.ex_step (n := 199) hB1]; exact PS.ex_fuel 199 200 _ _ _ _ 96 lB hmd2.2.1 (by omega) (by omega)) (hf.trans ff))
  refine v_aload hx DX12_undoes_0 0 rfl ?_
  refine v_push hx DX12_undoes_1 ?_
  refine v_iload hx DX12_undoes_4 2 rfl ?_
  refine v_cVv hx DX12_undoes_5 CVRX12_27 [iv 140, iv (s : Int)] (r_lays (s := 140) (t := s) l G Λ sz μ hR hw (by decide) (by omega)) hR.o rfl rfl (Nat.le_of_ble_eq_true rfl) (by decide) ⟨Nat.le_refl _, Nat.le_refl _⟩ (fun μ31 hμ31 => ?_)
  obtain ⟨σ1, w1, a1, k1⟩ := RW.abs hμ31.1
  have f1 := hμ31.2
  refine v_aload hx DX12_undoes_8 0 rfl ?_
  refine v_push hx DX12_undoes_9 ?_
  refine v_iload hx DX12_undoes_12 1 rfl ?_
  refine v_cVv hx DX12_undoes_13 CVRX12_27 [iv 141, iv (a : Int)] (r_lays (s := 141) (t := a) l G Λ sz μ31 hR w1 (by decide) (by omega)) hR.o rfl rfl (Nat.le_of_ble_eq_true rfl) (by decide) ⟨Nat.le_refl _, Nat.le_refl _⟩ (fun μ33 hμ33 => ?_)
  obtain ⟨σ2, w2, a2, k2⟩ := RW.abs hμ33.1
  have f2 := hμ33.2
  refine v_aload hx DX12_undoes_16 0 rfl ?_
  refine v_push hx DX12_undoes_17 ?_
  refine v_cVv hx DX12_undoes_20 CVRX12_7 [iv 142] (r_zero (s := 142) l G Λ sz μ33 hR w2 (by decide)) hR.o rfl rfl (Nat.le_of_ble_eq_true rfl) (by decide) ⟨Nat.le_refl _, Nat.le_refl _⟩ (fun μ35 hμ35 => ?_)
  obtain ⟨σ3, w3, a3, k3⟩ := RW.abs hμ35.1
  have f3 := hμ35.2
  refine v_aload hx DX12_undoes_23 0 rfl ?_
  refine v_push hx DX12_undoes_24 ?_
  refine v_push hx DX12_undoes_27 ?_
  refine v_cVv hx DX12_undoes_28 CVRX12_47 [iv 143, iv 1] (r_number (s := 143) l G Λ sz μ35 hR w3 (by decide) (by decide)) hR.o rfl rfl (Nat.le_of_ble_eq_true rfl) (by decide) ⟨Nat.le_refl _, Nat.le_refl _⟩ (fun μ37 hμ37 => ?_)
  obtain ⟨σ4, w4, a4, k4⟩ := RW.abs hμ37.1
  have f4 := hμ37.2
  exact v_sub [0, 1, 2] _ rfl (L31 100 (ρ s) (ρ a) PS.zero PS.one 1 μ37 σ4 (by omega) w4 ⟨(k4 140 (by omega)).trans ((k3 140 (by omega)).trans ((k2 140 (by omega)).trans a1)), (k4 141 (by omega)).trans ((k3 141 (by omega)).trans (a2.trans (k1 a (by omega)))), (k4 142 (by omega)).trans a3, a4.trans PS.C1⟩ (fun r hr => (k4 r (by omega)).trans ((k3 r (by omega)).trans ((k2 r (by omega)).trans (k1 r (by omega))))) ⟨PS.zero_lt _, PS.C_lt _, by omega, by omega⟩ (by rw [hmd]) (((f1.trans f2).trans (f3.trans f4)).mono (by simp)))
