/-! ===== the reference: integrates ===== -/
theorem r_splitsF (l : Launch) (G : Gl) (Λ : Lay) (sz : Nat) (μ : Mem) {ν : Nat} {ρ : Nat → PS} {w n d : Nat} {t q lf : Int} {A : FP2} {W : PS} (hR : refK Λ ν) (hw : RW μ ν ρ) (ht : 0 ≤ t ∧ t < 70) (hw0 : w < 140) (hq : (0 ≤ q ∧ q < 70) ∧ (0 ≤ lf ∧ lf < 70) ∧ q ≠ lf) (hA : RFI ρ t A) (eW : ρ w = W) (hs : SplOK A n d) (hn : n ≤ 40 ∧ d ≤ 39) (hW : W.size ≤ 4) (hX : ∃ X, MXI μ ν X) : Sp l G yX12_splits cX12_splits 14 none 6 [.ref ν, iv t, iv q, iv lf, iv (w : Int)] Λ sz μ (pV (fun μ' => ∃ σ, RW μ' ν σ ∧ RFI σ q (sp2 A W).1 ∧ RFI σ lf (sp2 A W).2 ∧ (∀ r : Nat, (r < 140 ∨ r = 148) → r ≠ 2 * q.toNat → r ≠ 2 * q.toNat + 1 → r ≠ 2 * lf.toNat → r ≠ 2 * lf.toNat + 1 → σ r = ρ r) ∧ (∃ X, MXI μ' ν X) ∧ FrN ν [ν + 1, ν + 2, ν + 7, ν + 8] [16] μ μ')) := by
  have z1 := hs.1.2.1
  have z2 := hs.1.2.2
  have h := r_splits (f := t.toNat) (w := w) (q := q) (lf := lf) (N := A.1) (D := A.2) (W := W) l G Λ sz μ hR hw (by omega) hw0 hq hA.1 hA.2 eW (by omega) ⟨hs.1.1.2.2.1, by omega, hs.1.1.2.2.2.1⟩ hW (gd_of hs hW) hX
  rw [Int.toNat_of_nonneg ht.1] at h
  exact h
theorem ig_step (b : Bd) (J : Int → FP2) {i : Int} (hi : -2 ≤ i ∧ i ≤ 2) : igQ b J i = (igS b J i (igQ b J (i + 1))).1 ∧ igR b J i = (igS b J i (igQ b J (i + 1))).2 := by
  unfold igQ igR
  rw [show (3 - i).toNat = (2 - i).toNat + 1 by omega, igN, show 3 - (i + 1) = 2 - i by omega, show 2 - (((2 - i).toNat : Nat) : Int) = i by omega]
  exact ⟨rfl, rfl⟩
theorem igQ3 (b : Bd) (J : Int → FP2) : igQ b J 3 = f00 := rfl
/-- it is as it should be at a term -/
def isI (b : Bd) (J : Int → FP2) (i : Int) : Prop := i = 0 ∨ (b.2.2.1 = 2 ∧ 0 ≤ mulI (igR b J i) b.du) ∨ (b.2.2.1 ≠ 2 ∧ (igR b J i).1 = PS.zero)
noncomputable def hwI (b : Bd) (J : Int → FP2) : Nat → Int × Int
  | 0 => (1, 0)
  | n + 1 => if bz (isI b J (2 - (n : Int))) = 1 then hwI b J n else if (hwI b J n).1 = 1 then (0, 2 - (n : Int)) else hwI b J n
theorem hwI_rng (b : Bd) (J : Int → FP2) : ∀ n : Nat, n ≤ 5 → ((hwI b J n).1 = 0 ∨ (hwI b J n).1 = 1) ∧ (-2 ≤ (hwI b J n).2 ∧ (hwI b J n).2 ≤ 2) := by
  intro n
  induction n with
  | zero => intro _; exact ⟨Or.inr rfl, by show (-2 : Int) ≤ 0 ∧ (0 : Int) ≤ 2; omega⟩
  | succ n ih =>
    intro hn
    have q := ih (by omega)
    rw [hwI]
    split
    · exact q
    · split
      · exact ⟨Or.inl rfl, by show (-2 : Int) ≤ 2 - (n : Int) ∧ 2 - (n : Int) ≤ 2; omega⟩
      · exact q
noncomputable def fQ (b : Bd) (J : Int → FP2) (i : Int) : FP2 := if (hwI b J 5).1 = 1 ∧ b.2.2.1 = 2 ∧ 2 ≤ i then fpl (igQ b J i) (PS.C (fi (mulI (igR b J (i - 1)) b.du * ivI i)), PS.one) (fi 1) else igQ b J i
/-- the rows so far -/
def IgR (ρ σ : Nat → PS) (b : Bd) (J : Int → FP2) (i : Int) : Prop := (∀ j : Int, -2 ≤ j → j ≤ 3 → RFI σ (16 + j + 2) (if i < j then igQ b J j else f00)) ∧ (∀ j : Int, -2 ≤ j → j ≤ 2 → RFI σ (22 + j + 2) (if i < j then igR b J j else f00)) ∧ (∀ r : Nat, r < 30 ∨ (54 ≤ r ∧ r < 116) → σ r = ρ r) ∧ σ 148 = b.uP.der ∧ (b.2.2.1 ≠ 0 → RFI σ 15 b.du) ∧ (b.2.2.1 = 0 → σ 30 = PS.zero ∧ σ 31 = PS.zero)
theorem IgR.next {ρ σ τ : Nat → PS} {b : Bd} {J : Int → FP2} {i : Int} (h : IgR ρ σ b J i) (hi : -2 ≤ i ∧ i ≤ 2) (x1 : RFI τ (16 + i + 2) (igQ b J i)) (x2 : RFI τ (22 + i + 2) (igR b J i)) (k : ∀ r : Nat, (r < 116 ∨ r = 148) → r ≠ 2 * (16 + i + 2).toNat → r ≠ 2 * (16 + i + 2).toNat + 1 → r ≠ 2 * (22 + i + 2).toNat → r ≠ 2 * (22 + i + 2).toNat + 1 → τ r = σ r) : IgR ρ τ b J (i + (-1)) := by
  refine ⟨fun j h0 h1 => ?_, fun j h0 h1 => ?_, fun r hr => (k r (by omega) (by omega) (by omega) (by omega) (by omega)).trans (h.2.2.1 r hr), (k 148 (by omega) (by omega) (by omega) (by omega) (by omega)).trans h.2.2.2.1, fun q => ⟨(k _ (by omega) (by omega) (by omega) (by omega) (by omega)).trans (h.2.2.2.2.1 q).1, (k _ (by omega) (by omega) (by omega) (by omega) (by omega)).trans (h.2.2.2.2.1 q).2⟩, fun q => ⟨(k 30 (by omega) (by omega) (by omega) (by omega) (by omega)).trans (h.2.2.2.2.2 q).1, (k 31 (by omega) (by omega) (by omega) (by omega) (by omega)).trans (h.2.2.2.2.2 q).2⟩⟩
  · by_cases c : j = i
    · subst c; rw [if_pos (by omega)]; exact x1
    · have q := h.1 j h0 h1
      have e : (if i + (-1) < j then igQ b J j else f00) = (if i < j then igQ b J j else f00) := by
        by_cases d : i < j
        · rw [if_pos d, if_pos (by omega)]
        · rw [if_neg d, if_neg (by omega)]
      rw [e]
      exact ⟨(k _ (by omega) (by omega) (by omega) (by omega) (by omega)).trans q.1, (k _ (by omega) (by omega) (by omega) (by omega) (by omega)).trans q.2⟩
  · by_cases c : j = i
    · subst c; rw [if_pos (by omega)]; exact x2
    · have q := h.2.1 j h0 h1
      have e : (if i + (-1) < j then igR b J j else f00) = (if i < j then igR b J j else f00) := by
        by_cases d : i < j
        · rw [if_pos d, if_pos (by omega)]
        · rw [if_neg d, if_neg (by omega)]
      rw [e]
      exact ⟨(k _ (by omega) (by omega) (by omega) (by omega) (by omega)).trans q.1, (k _ (by omega) (by omega) (by omega) (by omega) (by omega)).trans q.2⟩
theorem uP_zero {b : Bd} (h : b.good) (hk : b.2.2.1 = 0) : b.uP = PS.zero := PS.ext fun k => by
  unfold Bd.uP
  split
  · rw [h.2.2.1 hk k (by omega) (by omega)]; rfl
  · rfl
/-- bounds at a term of a logarithm -/
theorem ig_at {b : Bd} {J : Int → FP2} (hb : b.good) (hJ : JOK J) (hk : b.2.2.1 = 2) {i : Int} (hi : 0 ≤ i ∧ i ≤ 2) : FOK (igQ b J (i + 1)) 24 18 ∧ SplOK (fpl (J i) (fml (igQ b J (i + 1)) b.du) (fi (-(i + 1)))) 34 29 := by
  have L := ig_log hb hJ hk
  have key : ∀ n : Nat, i = 2 - (n : Int) → FOK (igN b J n).1 24 18 → SplOK (igT b J n) 34 29 → FOK (igQ b J (i + 1)) 24 18 ∧ SplOK (fpl (J i) (fml (igQ b J (i + 1)) b.du) (fi (-(i + 1)))) 34 29 := by
    intro n hn f t
    have e : igQ b J (i + 1) = (igN b J n).1 := by unfold igQ; rw [show (3 - (i + 1)).toNat = n by omega]
    unfold igT at t
    rw [if_pos hk, ← hn] at t
    rw [e]; exact ⟨f, t⟩
  have : i = 2 ∨ i = 1 ∨ i = 0 := by omega
  rcases this with e | e | e
  · exact key 0 (by omega) (L.1.1.mono (by omega) (by omega)) ⟨L.2.1.1.mono (by omega) (by omega), L.2.1.2⟩
  · exact key 1 (by omega) (L.2.2.1.1.mono (by omega) (by omega)) ⟨L.2.2.2.1.1.mono (by omega) (by omega), L.2.2.2.1.2⟩
  · exact key 2 (by omega) (L.2.2.2.2.1.1.mono (by omega) (by omega)) L.2.2.2.2.2.1
theorem hwI_step (b : Bd) (J : Int → FP2) {i : Int} (hi : -2 ≤ i ∧ i ≤ 2) : hwI b J (2 - i + 1).toNat = if bz (isI b J i) = 1 then hwI b J (2 - i).toNat else if (hwI b J (2 - i).toNat).1 = 1 then (0, i) else hwI b J (2 - i).toNat := by
  rw [show (2 - i + 1).toNat = (2 - i).toNat + 1 by omega, hwI, show 2 - (((2 - i).toNat : Nat) : Int) = i by omega]
theorem if_neg3 {j : Int} {b : Bd} {J : Int → FP2} (h : j ≤ 3) : (if 2 < j then igQ b J j else f00) = f00 := by
  by_cases c : 2 < j
  · rw [if_pos c, show j = 3 by omega]; rfl
  · rw [if_neg c]
theorem mul_small {c v : Int} (h1 : -1 ≤ c ∧ c ≤ 100) (h2 : 0 ≤ v ∧ v ≤ 100) : -100 ≤ c * v ∧ c * v ≤ 10000 := by
  by_cases e : 0 ≤ c
  · have := mulb (a := c) (b := v) (A := 100) (B := 100) e h1.2 h2.1 h2.2
    omega
  · have : c = -1 := by omega
    subst this
    omega
theorem fQ_not {b : Bd} {J : Int → FP2} {i : Int} (h : ¬ ((hwI b J 5).1 = 1 ∧ b.2.2.1 = 2 ∧ 2 ≤ i)) : fQ b J i = igQ b J i := if_neg h
theorem RA.rowsN {μ μ' : Mem} {ν : Nat} {ρ σ : Nat → PS} {b : Bd} {S : List Nat} {J : List Int} (h : RA μ ν ρ b) (hw : RW μ' ν σ) (e : ∀ r : Nat, r < 30 → σ r = ρ r) (f : FrN ν S J μ μ') (h2 : ν + 3 ∉ S) (h3 : 2 ∉ J) (h4 : 4 ∉ J) : RA μ' ν σ b :=
  ⟨hw, h.2.1, fun t ht => ⟨(e _ (by omega)).trans (h.2.2.1 t ht).1, (e _ (by omega)).trans (h.2.2.1 t ht).2⟩, fun j g0 g1 => by rw [f.1 _ (by omega) h2]; exact h.2.2.2.1 j g0 g1, by rw [f.2.1 _ h3]; exact h.2.2.2.2.1, by rw [f.2.1 _ h4]; exact h.2.2.2.2.2⟩
theorem r_integrates (l : Launch) (G : Gl) (Λ : Lay) (sz : Nat) (μ : Mem) {ν : Nat} {ρ : Nat → PS} {b : Bd} {fr : Int} {J : Int → FP2} (hR : refK Λ ν) (ha : RA μ ν ρ b) (hgd : b.good) (hJ : JOK J) (hfr : 0 ≤ fr ∧ (fr + 4 < 15 ∨ (27 ≤ fr ∧ fr + 4 < 58))) (hF : ∀ i : Int, -2 ≤ i → i ≤ 2 → RFI ρ (fr + i + 2) (J i)) (hX : ∃ X, MXI μ ν X) : Sp l G yX12_integrates cX12_integrates 4 none 7 [.ref ν, iv fr] Λ sz μ (pV (fun μ' => ∃ σ, RA μ' ν σ b ∧ (∀ i : Int, -2 ≤ i → i ≤ 3 → RFI σ (16 + i + 2) (fQ b J i)) ∧ (∀ i : Int, -2 ≤ i → i ≤ 2 → RFI σ (22 + i + 2) (igR b J i)) ∧ (∀ r : Nat, r < 30 ∨ (54 ≤ r ∧ r < 116) → σ r = ρ r) ∧ μ'.1 ν 17 = (hwI b J 5).1 ∧ μ'.1 ν 18 = (hwI b J 5).2 ∧ (∃ X, MXI μ' ν X) ∧ FrN ν [ν + 1, ν + 2, ν + 7, ν + 8] [16, 17, 18] μ μ')) := by
  refine Sp.intro (by decide) (Nat.le_of_ble_eq_true rfl) (fun x hx hBD => ?_)
  refine v_lv [(0, .ref ν), (1, iv fr)] rfl ?_
  have uk := ha.2.1.2.2.1
  have L332 : ∀ (nf : Nat) (i : Int) (m : Mem) (σ : Nat → PS), (i + 3 < (nf : Int)) → (0 ≤ i ∧ i ≤ 2) → (RA m ν σ b) → (∀ j : Int, -2 ≤ j → j ≤ 3 → RFI σ (16 + j + 2) (if i + 1 < j then fQ b J j else igQ b J j)) → (∀ j : Int, -2 ≤ j → j ≤ 2 → RFI σ (22 + j + 2) (igR b J j)) → (∀ r : Nat, r < 30 ∨ (54 ≤ r ∧ r < 116) → σ r = ρ r) → (b.2.2.1 ≠ 0 → RFI σ 15 b.du) → (m.1 ν 17 = (hwI b J 5).1) → (m.1 ν 18 = (hwI b J 5).2) → (∃ X, MXI m ν X) → (FrN ν [ν + 1, ν + 2, ν + 7, ν + 8] [16, 17, 18] μ m) → V G x (0, 0) Λ sz m 332 [(2, iv i), (0, .ref ν), (1, iv fr)] [] := by
    intro nf
    induction nf with
    | zero => intro i m σ hm hi h1 h2 h3 hk hd e17 e18 hM hf; exact absurd hm (by omega)
    | succ nf ih =>
      intro i m σ hm hi h1 h2 h3 hk hd e17 e18 hM hf
      have hr := hwI_rng b J 5 (by omega)
      have mr := mulI_rng (igR b J i) b.du
      have vr := ivI_rng (i + 1)
      refine v_iload hx DX12_integrates_332 0 rfl ?_
      refine v_push hx DX12_integrates_333 ?_
      refine v_icmp_lt hx DX12_integrates_334 (by omega) (by decide) (fun c334 => ?_) (fun c334 => ?_)
      · skip
        exact v_rv hx hBD DX12_integrates_415 (⟨σ, h1, fun j g0 g1 => by have q := h2 j g0 g1; exact (Classical.em (i + 1 < j)).elim (fun w => by rwa [if_pos w] at q) (fun w => by rw [if_neg w] at q; rw [show fQ b J j = igQ b J j from fQ_not (by omega)]; exact q), h3, hk, e17, e18, hM, hf⟩)
      · skip
        refine v_aload hx DX12_integrates_337 1 rfl ?_
        refine v_get hx DX12_integrates_338 FLRX12_278 hR.o (fv_i rfl e17 : _ = iv ((hwI b J 5).1)) ?_
        refine v_if_eq hx DX12_integrates_341 (by omega) (fun c341 => ?_) (fun c341 => ?_)
        · skip
          exact v_rv hx hBD DX12_integrates_415 (⟨σ, h1, fun j g0 g1 => by have q := h2 j g0 g1; exact (Classical.em (i + 1 < j)).elim (fun w => by rwa [if_pos w] at q) (fun w => by rw [if_neg w] at q; rw [show fQ b J j = igQ b J j from fQ_not (by omega)]; exact q), h3, hk, e17, e18, hM, hf⟩)
        · skip
          refine v_aload hx DX12_integrates_344 1 rfl ?_
          refine v_get hx DX12_integrates_345 FLRX12_125 hR.o (fv_i rfl h1.2.2.2.2.1 : _ = iv b.2.2.1) ?_
          refine v_push hx DX12_integrates_348 ?_
          refine v_icmp_ne hx DX12_integrates_349 (by omega) (by decide) (fun c349 => ?_) (fun c349 => ?_)
          · skip
            exact v_rv hx hBD DX12_integrates_415 (⟨σ, h1, fun j g0 g1 => by have q := h2 j g0 g1; exact (Classical.em (i + 1 < j)).elim (fun w => by rwa [if_pos w] at q) (fun w => by rw [if_neg w] at q; rw [show fQ b J j = igQ b J j from fQ_not (by omega)]; exact q), h3, hk, e17, e18, hM, hf⟩)
          · skip
            refine v_aload hx DX12_integrates_352 1 rfl ?_
            refine v_push hx DX12_integrates_353 ?_
            refine v_iload hx DX12_integrates_355 0 rfl ?_
            refine v_iadd hx DX12_integrates_356 ?_
            refine v_push hx DX12_integrates_357 ?_
            refine v_iadd hx DX12_integrates_358 ?_
            refine v_cVi hx DX12_integrates_359 CVRX12_284 [iv ((22 + i) + 2)] (r_multiple (t := 22 + i + 2) (A := igR b J i) (B := b.du) l G Λ sz m hR h1.1 (by omega) (h3 i (by omega) (by omega)) (hd (by omega))) hR.o rfl rfl (Nat.le_of_ble_eq_true rfl) (by decide) ⟨Nat.le_refl _, Nat.le_refl _⟩ (fun z2 μ1 hμ1 => ?_)
            obtain ⟨ez, σ6, w6, k6, f6⟩ := hμ1
            subst ez
            have mb : -100 ≤ mulI (igR b J i) b.du * ivI (i + 1) ∧ mulI (igR b J i) b.du * ivI (i + 1) ≤ 10000 := mul_small mr vr
            refine v_istore hx DX12_integrates_362 [(3, iv (mulI (igR b J i) b.du)), (2, iv i), (0, .ref ν), (1, iv fr)] rfl (by decide) ?_
            refine v_aload hx DX12_integrates_363 2 rfl ?_
            refine v_push hx DX12_integrates_364 ?_
            refine v_cSp hx DX12_integrates_366 CSRX12_38 [iv 60] (r_above (f := 60) l G Λ sz μ1) rfl rfl (Nat.le_of_ble_eq_true rfl) (by decide) ⟨Nat.le_refl _, Nat.le_refl _⟩ ?_
            refine v_iload hx DX12_integrates_369 0 rfl ?_
            refine v_iload hx DX12_integrates_370 1 rfl ?_
            refine v_push hx DX12_integrates_371 ?_
            refine v_iadd hx DX12_integrates_372 ?_
            refine v_cSp hx DX12_integrates_373 CSRX12_24 [iv (i + 1)] (r_over l G Λ sz μ1 (by omega)) rfl rfl (Nat.le_of_ble_eq_true rfl) (by decide) ⟨Nat.le_refl _, Nat.le_refl _⟩ ?_
            refine v_imul hx DX12_integrates_376 ?_
            refine v_cVv hx DX12_integrates_377 CVRX12_47 [iv ((2 * 60 : Nat) : Int), iv ((mulI (igR b J i) b.du) * (ivI (i + 1)))] (r_number (s := 120) l G Λ sz μ1 hR w6 (by decide) (by omega)) hR.o rfl rfl (Nat.le_of_ble_eq_true rfl) (by decide) ⟨Nat.le_refl _, Nat.le_refl _⟩ (fun μ7 hμ7 => ?_)
            obtain ⟨σ4, w4, a4, k4⟩ := RW.abs hμ7.1
            have f4 := hμ7.2
            refine v_aload hx DX12_integrates_380 2 rfl ?_
            refine v_push hx DX12_integrates_381 ?_
            refine v_cSp hx DX12_integrates_383 CSRX12_41 [iv 60] (r_below (f := 60) l G Λ sz μ7) rfl rfl (Nat.le_of_ble_eq_true rfl) (by decide) ⟨Nat.le_refl _, Nat.le_refl _⟩ ?_
            refine v_push hx DX12_integrates_386 ?_
            refine v_cVv hx DX12_integrates_387 CVRX12_47 [iv ((2 * 60 + 1 : Nat) : Int), iv 1] (r_number (s := 121) l G Λ sz μ7 hR w4 (by decide) (by decide)) hR.o rfl rfl (Nat.le_of_ble_eq_true rfl) (by decide) ⟨Nat.le_refl _, Nat.le_refl _⟩ (fun μ11 hμ11 => ?_)
            obtain ⟨σ5, w5, a5, k5⟩ := RW.abs hμ11.1
            have f5 := hμ11.2
            have kk : ∀ r : Nat, r ≠ 120 → r ≠ 121 → σ5 r = σ r := fun r g1 g2 => (k5 r g2).trans ((k4 r g1).trans (k6 r g1 g2))
            have fb : RFI σ5 60 (PS.C (fi (mulI (igR b J i) b.du * ivI (i + 1))), PS.one) := ⟨(k5 120 (by omega)).trans a4, a5.trans PS.C1⟩
            have fa : RFI σ5 (16 + i + 3) (igQ b J (i + 1)) := by
              have q := h2 (i + 1) (by omega) (by omega)
              rw [if_neg (by omega), show 16 + (i + 1) + 2 = 16 + i + 3 by omega] at q
              exact ⟨(kk _ (by omega) (by omega)).trans q.1, (kk _ (by omega) (by omega)).trans q.2⟩
            have L := ig_log hgd hJ (by omega)
            have oa : FOK (igQ b J (i + 1)) 24 18 := (ig_at hgd hJ (by omega) (i := i) (by omega)).1
            have cs := PS.size_le (PS.C_lt (fi (mulI (igR b J i) b.du * ivI (i + 1))))
            refine v_aload hx DX12_integrates_390 2 rfl ?_
            refine v_push hx DX12_integrates_391 ?_
            refine v_iload hx DX12_integrates_393 1 rfl ?_
            refine v_iadd hx DX12_integrates_394 ?_
            refine v_push hx DX12_integrates_395 ?_
            refine v_iadd hx DX12_integrates_396 ?_
            refine v_push hx DX12_integrates_397 ?_
            refine v_iload hx DX12_integrates_399 1 rfl ?_
            refine v_iadd hx DX12_integrates_400 ?_
            refine v_push hx DX12_integrates_401 ?_
            refine v_iadd hx DX12_integrates_402 ?_
            refine v_push hx DX12_integrates_403 ?_
            refine v_push hx DX12_integrates_405 ?_
            refine v_cVv hx DX12_integrates_406 CVRX12_223 [iv ((16 + i) + 3), iv ((16 + i) + 3), iv 60, iv 1] (r_plusF (o := 16 + i + 3) (a := 16 + i + 3) (b := 60) l G Λ sz μ11 hR w5 (by omega) (by omega) (by omega) (by omega) fa fb oa.1.2.2.1 PS.one_ne (by have := oa.2.1; have := PS.one_sz; show _ + PS.one.size ≤ 97; omega) (by have := oa.2.2; show (PS.C _).size + _ ≤ 97; omega) (by have := oa.2.2; have := PS.one_sz; show _ + PS.one.size ≤ 97; omega)) hR.o rfl rfl (Nat.le_of_ble_eq_true rfl) (by decide) ⟨Nat.le_refl _, Nat.le_refl _⟩ (fun μ13 hμ13 => ?_)
            obtain ⟨σ7, w7, y1, y2, k7, f7⟩ := hμ13
            have kz : ∀ r : Nat, r < 116 → r ≠ 2 * (16 + i + 3).toNat → r ≠ 2 * (16 + i + 3).toNat + 1 → σ7 r = σ r := fun r g0 g1 g2 => (k7 r (by omega) g1 g2).trans (kk r (by omega) (by omega))
            have ff : Fr [ν + 1, ν + 2] m μ13 := ((f6.mono (by simp)).trans (f4.mono (by simp))).trans ((f5.mono (by simp)).trans f7)
            have rn : RA μ13 ν σ7 b := h1.rows w7 (fun r hr => kz r (by omega) (by omega) (by omega)) ff
            have q2 : ∀ j : Int, -2 ≤ j → j ≤ 3 → RFI σ7 (16 + j + 2) (if i + (-1) + 1 < j then fQ b J j else igQ b J j) := fun j g0 g1 => by
              by_cases c : j = i + 1
              · subst c
                rw [if_pos (by omega), show 16 + (i + 1) + 2 = 16 + i + 3 by omega]
                unfold fQ
                rw [if_pos (by omega), show i + 1 - 1 = i by omega]
                exact ⟨y1, y2⟩
              · have q := h2 j g0 g1
                have e : (if i + (-1) + 1 < j then fQ b J j else igQ b J j) = (if i + 1 < j then fQ b J j else igQ b J j) := by
                  by_cases d : i + 1 < j
                  · rw [if_pos d, if_pos (by omega)]
                  · rw [if_neg d, if_neg (by omega)]
                rw [e]
                exact ⟨(kz _ (by omega) (by omega) (by omega)).trans q.1, (kz _ (by omega) (by omega) (by omega)).trans q.2⟩
            have q3 : ∀ j : Int, -2 ≤ j → j ≤ 2 → RFI σ7 (22 + j + 2) (igR b J j) := fun j g0 g1 => ⟨(kz _ (by omega) (by omega) (by omega)).trans (h3 j g0 g1).1, (kz _ (by omega) (by omega) (by omega)).trans (h3 j g0 g1).2⟩
            have q4 : ∀ r : Nat, r < 30 ∨ (54 ≤ r ∧ r < 116) → σ7 r = ρ r := fun r hr => (kz r (by omega) (by omega) (by omega)).trans (hk r hr)
            have q5 : b.2.2.1 ≠ 0 → RFI σ7 15 b.du := fun q => ⟨(kz _ (by decide) (by omega) (by omega)).trans (hd q).1, (kz _ (by decide) (by omega) (by omega)).trans (hd q).2⟩
            have y17 := (congrFun (ff.1 ν (by simp)) 17).trans e17
            have y18 := (congrFun (ff.1 ν (by simp)) 18).trans e18
            have mx : ∃ X, MXI μ13 ν X := hM.elim (fun X h => ⟨X, h.fr (ff.1 _ (by simp))⟩)
            have fx : FrN ν [ν + 1, ν + 2, ν + 7, ν + 8] [16, 17, 18] μ μ13 := hf.trans (FrN.of (ff.mono (by simp)) (by simp))
            refine v_iinc hx DX12_integrates_409 1 rfl [(2, iv (i + (-1))), (3, iv (mulI (igR b J i) b.du)), (0, .ref ν), (1, iv fr)] rfl (by decide) ?_
            refine v_goto hx DX12_integrates_412 ?_
            exact v_sub [0, 2, 3] _ rfl (ih (i + (-1)) μ13 σ7 (by omega) (by omega) rn q2 q3 q4 q5 y17 y18 mx fx)
  have L228 : ∀ (nf : Nat) (i : Int) (m : Mem) (σ : Nat → PS), (i + 3 < (nf : Int)) → (-3 ≤ i ∧ i ≤ 2) → (RA m ν σ b) → (∀ j : Int, -2 ≤ j → j ≤ 3 → RFI σ (16 + j + 2) (igQ b J j)) → (∀ j : Int, -2 ≤ j → j ≤ 2 → RFI σ (22 + j + 2) (igR b J j)) → (∀ r : Nat, r < 30 ∨ (54 ≤ r ∧ r < 116) → σ r = ρ r) → (b.2.2.1 ≠ 0 → RFI σ 15 b.du) → (m.1 ν 17 = (hwI b J (2 - i).toNat).1) → (m.1 ν 18 = (hwI b J (2 - i).toNat).2) → (∃ X, MXI m ν X) → (FrN ν [ν + 1, ν + 2, ν + 7, ν + 8] [16, 17, 18] μ m) → V G x (0, 0) Λ sz m 228 [(2, iv i), (0, .ref ν), (1, iv fr)] [] := by
    intro nf
    induction nf with
    | zero => intro i m σ hm hi h1 h2 h3 hk hd e17 e18 hM hf; exact absurd hm (by omega)
    | succ nf ih =>
      intro i m σ hm hi h1 h2 h3 hk hd e17 e18 hM hf
      have hr := hwI_rng b J (2 - i).toNat (by omega)
      have mr := mulI_rng (igR b J i) b.du
      refine v_iload hx DX12_integrates_228 0 rfl ?_
      refine v_push hx DX12_integrates_229 ?_
      refine v_icmp_lt hx DX12_integrates_231 (by omega) (by decide) (fun c231 => ?_) (fun c231 => ?_)
      · skip
        refine v_push hx DX12_integrates_330 ?_
        refine v_istore hx DX12_integrates_331 [(2, iv 2), (0, .ref ν), (1, iv fr)] rfl (by decide) ?_
        exact v_sub [0, 1, 2] _ rfl (L332 100 2 m σ (by omega) (by omega) h1 (fun j g0 g1 => by rw [if_neg (by omega)]; exact h2 j g0 g1) h3 hk hd (by rw [e17, show (2 - i).toNat = 5 by omega]) (by rw [e18, show (2 - i).toNat = 5 by omega]) hM hf)
      · skip
        refine v_iload hx DX12_integrates_234 0 rfl ?_
        refine v_if_eq hx DX12_integrates_235 (by omega) (fun c235 => ?_) (fun c235 => ?_)
        · skip
          have hI1 : isI b J i := Or.inl c235
          refine v_push hx DX12_integrates_275 ?_
          refine v_goto hx DX12_integrates_276 ?_
          refine v_istore hx DX12_integrates_280 [(3, iv 1), (2, iv i), (0, .ref ν), (1, iv fr)] rfl (by decide) ?_
          refine v_aload hx DX12_integrates_281 2 rfl ?_
          refine v_iload hx DX12_integrates_282 0 rfl ?_
          refine v_if_ne hx DX12_integrates_283 (by decide) (fun c283 => ?_) (fun c283 => ?_)
          · skip
            refine v_aload hx DX12_integrates_297 2 rfl ?_
            refine v_get hx DX12_integrates_298 FLRX12_281 hR.o (fv_i rfl e18 : _ = iv ((hwI b J (2 - i).toNat).2)) ?_
            refine v_pI hx DX12_integrates_301 FPRX12_281 hR.o rfl (ki := 18) rfl (fun μ15 eμ15 => ?_)
            refine v_aload hx DX12_integrates_304 2 rfl ?_
            refine v_aload hx DX12_integrates_305 2 rfl ?_
            refine v_get hx DX12_integrates_306 FLRX12_278 hR.o (fv_i rfl (by rw [eμ15, mI_at, if_neg (by omega)]; exact e17) : _ = iv ((hwI b J (2 - i).toNat).1)) ?_
            refine v_if_eq hx DX12_integrates_309 (by omega) (fun c309 => ?_) (fun c309 => ?_)
            · skip
              refine v_push hx DX12_integrates_320 ?_
              refine v_pZ hx DX12_integrates_321 FPRX12_278 hR.o rfl (ki := 17) rfl (by omega) (fun μ16 eμ16 => ?_)
              have fp : FrN ν [] [17, 18] m μ16 := by rw [eμ16, eμ15]; exact (FrN.wJ (by simp)).trans (FrN.wJ (by simp))
              have rn : RA μ16 ν σ b := (h1).frN fp (by simp) (by simp) (by simp) (by simp)
              have q2 : ∀ j : Int, -2 ≤ j → j ≤ 3 → RFI σ (16 + j + 2) (igQ b J j) := fun j g0 g1 => h2 j g0 g1
              have q3 : ∀ j : Int, -2 ≤ j → j ≤ 2 → RFI σ (22 + j + 2) (igR b J j) := fun j g0 g1 => h3 j g0 g1
              have q4 : ∀ r : Nat, r < 30 ∨ (54 ≤ r ∧ r < 116) → σ r = ρ r := fun r hr => hk r hr
              have q5 : b.2.2.1 ≠ 0 → RFI σ 15 b.du := fun q => hd q
              have mx : ∃ X, MXI μ16 ν X := hM.elim (fun X h => ⟨X, h.fr (fp.1 _ (by omega) (by simp))⟩)
              have fx : FrN ν [ν + 1, ν + 2, ν + 7, ν + 8] [16, 17, 18] μ μ16 := (hf.trans FrN.rf).trans (fp.mono (by simp) (by simp))
              have x17 : (μ16).1 ν 17 = (if bz (isI b J i) = 1 then hwI b J (2 - i).toNat else if (hwI b J (2 - i).toNat).1 = 1 then (0, i) else hwI b J (2 - i).toNat).1 := by
                rw [if_pos (bz_pos hI1)]
                rw [eμ16, mI_at, if_pos (by omega)]
                try (first | omega | rfl)
              have x18 : (μ16).1 ν 18 = (if bz (isI b J i) = 1 then hwI b J (2 - i).toNat else if (hwI b J (2 - i).toNat).1 = 1 then (0, i) else hwI b J (2 - i).toNat).2 := by
                rw [if_pos (bz_pos hI1)]
                rw [eμ16, mI_at, if_neg (by omega), eμ15, mI_at, if_pos (by omega)]
              refine v_iinc hx DX12_integrates_324 1 rfl [(2, iv (i + (-1))), (3, iv 1), (0, .ref ν), (1, iv fr)] rfl (by decide) ?_
              refine v_goto hx DX12_integrates_327 ?_
              exact v_sub [0, 2, 3] _ rfl (ih (i + (-1)) μ16 σ (by omega) (by omega) rn q2 q3 q4 q5 (by rw [show 2 - (i + (-1)) = 2 - i + 1 by omega, hwI_step b J (by omega)]; exact x17) (by rw [show 2 - (i + (-1)) = 2 - i + 1 by omega, hwI_step b J (by omega)]; exact x18) mx fx)
            · skip
              refine v_iload hx DX12_integrates_312 0 rfl ?_
              refine v_if_eq hx DX12_integrates_313 (by decide) (fun c313 => ?_) (fun c313 => ?_)
              · exact absurd c313 (by decide)
              · skip
                refine v_push hx DX12_integrates_316 ?_
                refine v_goto hx DX12_integrates_317 ?_
                refine v_pZ hx DX12_integrates_321 FPRX12_278 hR.o rfl (ki := 17) rfl (by omega) (fun μ17 eμ17 => ?_)
                have fp : FrN ν [] [17, 18] m μ17 := by rw [eμ17, eμ15]; exact (FrN.wJ (by simp)).trans (FrN.wJ (by simp))
                have rn : RA μ17 ν σ b := (h1).frN fp (by simp) (by simp) (by simp) (by simp)
                have q2 : ∀ j : Int, -2 ≤ j → j ≤ 3 → RFI σ (16 + j + 2) (igQ b J j) := fun j g0 g1 => h2 j g0 g1
                have q3 : ∀ j : Int, -2 ≤ j → j ≤ 2 → RFI σ (22 + j + 2) (igR b J j) := fun j g0 g1 => h3 j g0 g1
                have q4 : ∀ r : Nat, r < 30 ∨ (54 ≤ r ∧ r < 116) → σ r = ρ r := fun r hr => hk r hr
                have q5 : b.2.2.1 ≠ 0 → RFI σ 15 b.du := fun q => hd q
                have mx : ∃ X, MXI μ17 ν X := hM.elim (fun X h => ⟨X, h.fr (fp.1 _ (by omega) (by simp))⟩)
                have fx : FrN ν [ν + 1, ν + 2, ν + 7, ν + 8] [16, 17, 18] μ μ17 := (hf.trans FrN.rf).trans (fp.mono (by simp) (by simp))
                have x17 : (μ17).1 ν 17 = (if bz (isI b J i) = 1 then hwI b J (2 - i).toNat else if (hwI b J (2 - i).toNat).1 = 1 then (0, i) else hwI b J (2 - i).toNat).1 := by
                  rw [if_pos (bz_pos hI1)]
                  rw [eμ17, mI_at, if_pos (by omega)]
                  try (first | omega | rfl)
                have x18 : (μ17).1 ν 18 = (if bz (isI b J i) = 1 then hwI b J (2 - i).toNat else if (hwI b J (2 - i).toNat).1 = 1 then (0, i) else hwI b J (2 - i).toNat).2 := by
                  rw [if_pos (bz_pos hI1)]
                  rw [eμ17, mI_at, if_neg (by omega), eμ15, mI_at, if_pos (by omega)]
                refine v_iinc hx DX12_integrates_324 1 rfl [(2, iv (i + (-1))), (3, iv 1), (0, .ref ν), (1, iv fr)] rfl (by decide) ?_
                refine v_goto hx DX12_integrates_327 ?_
                exact v_sub [0, 2, 3] _ rfl (ih (i + (-1)) μ17 σ (by omega) (by omega) rn q2 q3 q4 q5 (by rw [show 2 - (i + (-1)) = 2 - i + 1 by omega, hwI_step b J (by omega)]; exact x17) (by rw [show 2 - (i + (-1)) = 2 - i + 1 by omega, hwI_step b J (by omega)]; exact x18) mx fx)
          · exact absurd c283 (by decide)
        · skip
          refine v_aload hx DX12_integrates_238 1 rfl ?_
          refine v_get hx DX12_integrates_239 FLRX12_125 hR.o (fv_i rfl h1.2.2.2.2.1 : _ = iv b.2.2.1) ?_
          refine v_push hx DX12_integrates_242 ?_
          refine v_icmp_ne hx DX12_integrates_243 (by omega) (by decide) (fun c243 => ?_) (fun c243 => ?_)
          · skip
            refine v_aload hx DX12_integrates_262 1 rfl ?_
            refine v_push hx DX12_integrates_263 ?_
            refine v_iload hx DX12_integrates_265 0 rfl ?_
            refine v_iadd hx DX12_integrates_266 ?_
            refine v_push hx DX12_integrates_267 ?_
            refine v_iadd hx DX12_integrates_268 ?_
            refine v_cVp hx DX12_integrates_269 CVRX12_186 [iv ((22 + i) + 2)] (r_isNoughtF l G Λ sz m hR h1.1 (by omega) (h3 i (by omega) (by omega))) hR.o rfl rfl (Nat.le_of_ble_eq_true rfl) (by decide) ⟨Nat.le_refl _, Nat.le_refl _⟩ ?_
            have br269 := bz_rng ((igR b J i).1 = PS.zero)
            refine v_if_eq hx DX12_integrates_272 (by omega) (fun c272 => ?_) (fun c272 => ?_)
            · skip
              have d272 := bzf c272
              have hI0 : ¬ isI b J i := fun w => w.elim (fun w => by omega) (fun w => w.elim (fun w => by omega) (fun w => d272 w.2))
              refine v_push hx DX12_integrates_279 ?_
              refine v_istore hx DX12_integrates_280 [(3, iv 0), (2, iv i), (0, .ref ν), (1, iv fr)] rfl (by decide) ?_
              refine v_aload hx DX12_integrates_281 2 rfl ?_
              refine v_iload hx DX12_integrates_282 0 rfl ?_
              refine v_if_ne hx DX12_integrates_283 (by decide) (fun c283 => ?_) (fun c283 => ?_)
              · exact absurd c283 (by decide)
              · skip
                refine v_aload hx DX12_integrates_286 2 rfl ?_
                refine v_get hx DX12_integrates_287 FLRX12_278 hR.o (fv_i rfl e17 : _ = iv ((hwI b J (2 - i).toNat).1)) ?_
                refine v_if_eq hx DX12_integrates_290 (by omega) (fun c290 => ?_) (fun c290 => ?_)
                · skip
                  refine v_aload hx DX12_integrates_297 2 rfl ?_
                  refine v_get hx DX12_integrates_298 FLRX12_281 hR.o (fv_i rfl e18 : _ = iv ((hwI b J (2 - i).toNat).2)) ?_
                  refine v_pI hx DX12_integrates_301 FPRX12_281 hR.o rfl (ki := 18) rfl (fun μ20 eμ20 => ?_)
                  refine v_aload hx DX12_integrates_304 2 rfl ?_
                  refine v_aload hx DX12_integrates_305 2 rfl ?_
                  refine v_get hx DX12_integrates_306 FLRX12_278 hR.o (fv_i rfl (by rw [eμ20, mI_at, if_neg (by omega)]; exact e17) : _ = iv ((hwI b J (2 - i).toNat).1)) ?_
                  refine v_if_eq hx DX12_integrates_309 (by omega) (fun c309 => ?_) (fun c309 => ?_)
                  · skip
                    refine v_push hx DX12_integrates_320 ?_
                    refine v_pZ hx DX12_integrates_321 FPRX12_278 hR.o rfl (ki := 17) rfl (by omega) (fun μ21 eμ21 => ?_)
                    have fp : FrN ν [] [17, 18] m μ21 := by rw [eμ21, eμ20]; exact (FrN.wJ (by simp)).trans (FrN.wJ (by simp))
                    have rn : RA μ21 ν σ b := (h1).frN fp (by simp) (by simp) (by simp) (by simp)
                    have q2 : ∀ j : Int, -2 ≤ j → j ≤ 3 → RFI σ (16 + j + 2) (igQ b J j) := fun j g0 g1 => h2 j g0 g1
                    have q3 : ∀ j : Int, -2 ≤ j → j ≤ 2 → RFI σ (22 + j + 2) (igR b J j) := fun j g0 g1 => h3 j g0 g1
                    have q4 : ∀ r : Nat, r < 30 ∨ (54 ≤ r ∧ r < 116) → σ r = ρ r := fun r hr => hk r hr
                    have q5 : b.2.2.1 ≠ 0 → RFI σ 15 b.du := fun q => hd q
                    have mx : ∃ X, MXI μ21 ν X := hM.elim (fun X h => ⟨X, h.fr (fp.1 _ (by omega) (by simp))⟩)
                    have fx : FrN ν [ν + 1, ν + 2, ν + 7, ν + 8] [16, 17, 18] μ μ21 := (hf.trans FrN.rf).trans (fp.mono (by simp) (by simp))
                    have x17 : (μ21).1 ν 17 = (if bz (isI b J i) = 1 then hwI b J (2 - i).toNat else if (hwI b J (2 - i).toNat).1 = 1 then (0, i) else hwI b J (2 - i).toNat).1 := by
                      rw [if_neg (by rw [bz_neg hI0]; omega)]; first | rw [if_pos (show (hwI b J (2 - i).toNat).1 = 1 by omega)] | rw [if_neg (show ¬ (hwI b J (2 - i).toNat).1 = 1 by omega)]
                      rw [eμ21, mI_at, if_pos (by omega)]
                      try (first | omega | rfl)
                    have x18 : (μ21).1 ν 18 = (if bz (isI b J i) = 1 then hwI b J (2 - i).toNat else if (hwI b J (2 - i).toNat).1 = 1 then (0, i) else hwI b J (2 - i).toNat).2 := by
                      rw [if_neg (by rw [bz_neg hI0]; omega)]; first | rw [if_pos (show (hwI b J (2 - i).toNat).1 = 1 by omega)] | rw [if_neg (show ¬ (hwI b J (2 - i).toNat).1 = 1 by omega)]
                      rw [eμ21, mI_at, if_neg (by omega), eμ20, mI_at, if_pos (by omega)]
                    refine v_iinc hx DX12_integrates_324 1 rfl [(2, iv (i + (-1))), (3, iv 0), (0, .ref ν), (1, iv fr)] rfl (by decide) ?_
                    refine v_goto hx DX12_integrates_327 ?_
                    exact v_sub [0, 2, 3] _ rfl (ih (i + (-1)) μ21 σ (by omega) (by omega) rn q2 q3 q4 q5 (by rw [show 2 - (i + (-1)) = 2 - i + 1 by omega, hwI_step b J (by omega)]; exact x17) (by rw [show 2 - (i + (-1)) = 2 - i + 1 by omega, hwI_step b J (by omega)]; exact x18) mx fx)
                  · exact absurd c309 (by omega)
                · skip
                  refine v_iload hx DX12_integrates_293 1 rfl ?_
                  refine v_goto hx DX12_integrates_294 ?_
                  refine v_pI hx DX12_integrates_301 FPRX12_281 hR.o rfl (ki := 18) rfl (fun μ22 eμ22 => ?_)
                  refine v_aload hx DX12_integrates_304 2 rfl ?_
                  refine v_aload hx DX12_integrates_305 2 rfl ?_
                  refine v_get hx DX12_integrates_306 FLRX12_278 hR.o (fv_i rfl (by rw [eμ22, mI_at, if_neg (by omega)]; exact e17) : _ = iv ((hwI b J (2 - i).toNat).1)) ?_
                  refine v_if_eq hx DX12_integrates_309 (by omega) (fun c309 => ?_) (fun c309 => ?_)
                  · exact absurd c309 (by omega)
                  · skip
                    refine v_iload hx DX12_integrates_312 0 rfl ?_
                    refine v_if_eq hx DX12_integrates_313 (by decide) (fun c313 => ?_) (fun c313 => ?_)
                    · skip
                      refine v_push hx DX12_integrates_320 ?_
                      refine v_pZ hx DX12_integrates_321 FPRX12_278 hR.o rfl (ki := 17) rfl (by omega) (fun μ23 eμ23 => ?_)
                      have fp : FrN ν [] [17, 18] m μ23 := by rw [eμ23, eμ22]; exact (FrN.wJ (by simp)).trans (FrN.wJ (by simp))
                      have rn : RA μ23 ν σ b := (h1).frN fp (by simp) (by simp) (by simp) (by simp)
                      have q2 : ∀ j : Int, -2 ≤ j → j ≤ 3 → RFI σ (16 + j + 2) (igQ b J j) := fun j g0 g1 => h2 j g0 g1
                      have q3 : ∀ j : Int, -2 ≤ j → j ≤ 2 → RFI σ (22 + j + 2) (igR b J j) := fun j g0 g1 => h3 j g0 g1
                      have q4 : ∀ r : Nat, r < 30 ∨ (54 ≤ r ∧ r < 116) → σ r = ρ r := fun r hr => hk r hr
                      have q5 : b.2.2.1 ≠ 0 → RFI σ 15 b.du := fun q => hd q
                      have mx : ∃ X, MXI μ23 ν X := hM.elim (fun X h => ⟨X, h.fr (fp.1 _ (by omega) (by simp))⟩)
                      have fx : FrN ν [ν + 1, ν + 2, ν + 7, ν + 8] [16, 17, 18] μ μ23 := (hf.trans FrN.rf).trans (fp.mono (by simp) (by simp))
                      have x17 : (μ23).1 ν 17 = (if bz (isI b J i) = 1 then hwI b J (2 - i).toNat else if (hwI b J (2 - i).toNat).1 = 1 then (0, i) else hwI b J (2 - i).toNat).1 := by
                        rw [if_neg (by rw [bz_neg hI0]; omega)]; first | rw [if_pos (show (hwI b J (2 - i).toNat).1 = 1 by omega)] | rw [if_neg (show ¬ (hwI b J (2 - i).toNat).1 = 1 by omega)]
                        rw [eμ23, mI_at, if_pos (by omega)]
                        try (first | omega | rfl)
                      have x18 : (μ23).1 ν 18 = (if bz (isI b J i) = 1 then hwI b J (2 - i).toNat else if (hwI b J (2 - i).toNat).1 = 1 then (0, i) else hwI b J (2 - i).toNat).2 := by
                        rw [if_neg (by rw [bz_neg hI0]; omega)]; first | rw [if_pos (show (hwI b J (2 - i).toNat).1 = 1 by omega)] | rw [if_neg (show ¬ (hwI b J (2 - i).toNat).1 = 1 by omega)]
                        rw [eμ23, mI_at, if_neg (by omega), eμ22, mI_at, if_pos (by omega)]
                      refine v_iinc hx DX12_integrates_324 1 rfl [(2, iv (i + (-1))), (3, iv 0), (0, .ref ν), (1, iv fr)] rfl (by decide) ?_
                      refine v_goto hx DX12_integrates_327 ?_
                      exact v_sub [0, 2, 3] _ rfl (ih (i + (-1)) μ23 σ (by omega) (by omega) rn q2 q3 q4 q5 (by rw [show 2 - (i + (-1)) = 2 - i + 1 by omega, hwI_step b J (by omega)]; exact x17) (by rw [show 2 - (i + (-1)) = 2 - i + 1 by omega, hwI_step b J (by omega)]; exact x18) mx fx)
                    · exact absurd c313 (by decide)
            · skip
              have d272 := bzt c272
              have hI1 : isI b J i := Or.inr (Or.inr ⟨by omega, d272⟩)
              refine v_push hx DX12_integrates_275 ?_
              refine v_goto hx DX12_integrates_276 ?_
              refine v_istore hx DX12_integrates_280 [(3, iv 1), (2, iv i), (0, .ref ν), (1, iv fr)] rfl (by decide) ?_
              refine v_aload hx DX12_integrates_281 2 rfl ?_
              refine v_iload hx DX12_integrates_282 0 rfl ?_
              refine v_if_ne hx DX12_integrates_283 (by decide) (fun c283 => ?_) (fun c283 => ?_)
              · skip
                refine v_aload hx DX12_integrates_297 2 rfl ?_
                refine v_get hx DX12_integrates_298 FLRX12_281 hR.o (fv_i rfl e18 : _ = iv ((hwI b J (2 - i).toNat).2)) ?_
                refine v_pI hx DX12_integrates_301 FPRX12_281 hR.o rfl (ki := 18) rfl (fun μ24 eμ24 => ?_)
                refine v_aload hx DX12_integrates_304 2 rfl ?_
                refine v_aload hx DX12_integrates_305 2 rfl ?_
                refine v_get hx DX12_integrates_306 FLRX12_278 hR.o (fv_i rfl (by rw [eμ24, mI_at, if_neg (by omega)]; exact e17) : _ = iv ((hwI b J (2 - i).toNat).1)) ?_
                refine v_if_eq hx DX12_integrates_309 (by omega) (fun c309 => ?_) (fun c309 => ?_)
                · skip
                  refine v_push hx DX12_integrates_320 ?_
                  refine v_pZ hx DX12_integrates_321 FPRX12_278 hR.o rfl (ki := 17) rfl (by omega) (fun μ25 eμ25 => ?_)
                  have fp : FrN ν [] [17, 18] m μ25 := by rw [eμ25, eμ24]; exact (FrN.wJ (by simp)).trans (FrN.wJ (by simp))
                  have rn : RA μ25 ν σ b := (h1).frN fp (by simp) (by simp) (by simp) (by simp)
                  have q2 : ∀ j : Int, -2 ≤ j → j ≤ 3 → RFI σ (16 + j + 2) (igQ b J j) := fun j g0 g1 => h2 j g0 g1
                  have q3 : ∀ j : Int, -2 ≤ j → j ≤ 2 → RFI σ (22 + j + 2) (igR b J j) := fun j g0 g1 => h3 j g0 g1
                  have q4 : ∀ r : Nat, r < 30 ∨ (54 ≤ r ∧ r < 116) → σ r = ρ r := fun r hr => hk r hr
                  have q5 : b.2.2.1 ≠ 0 → RFI σ 15 b.du := fun q => hd q
                  have mx : ∃ X, MXI μ25 ν X := hM.elim (fun X h => ⟨X, h.fr (fp.1 _ (by omega) (by simp))⟩)
                  have fx : FrN ν [ν + 1, ν + 2, ν + 7, ν + 8] [16, 17, 18] μ μ25 := (hf.trans FrN.rf).trans (fp.mono (by simp) (by simp))
                  have x17 : (μ25).1 ν 17 = (if bz (isI b J i) = 1 then hwI b J (2 - i).toNat else if (hwI b J (2 - i).toNat).1 = 1 then (0, i) else hwI b J (2 - i).toNat).1 := by
                    rw [if_pos (bz_pos hI1)]
                    rw [eμ25, mI_at, if_pos (by omega)]
                    try (first | omega | rfl)
                  have x18 : (μ25).1 ν 18 = (if bz (isI b J i) = 1 then hwI b J (2 - i).toNat else if (hwI b J (2 - i).toNat).1 = 1 then (0, i) else hwI b J (2 - i).toNat).2 := by
                    rw [if_pos (bz_pos hI1)]
                    rw [eμ25, mI_at, if_neg (by omega), eμ24, mI_at, if_pos (by omega)]
                  refine v_iinc hx DX12_integrates_324 1 rfl [(2, iv (i + (-1))), (3, iv 1), (0, .ref ν), (1, iv fr)] rfl (by decide) ?_
                  refine v_goto hx DX12_integrates_327 ?_
                  exact v_sub [0, 2, 3] _ rfl (ih (i + (-1)) μ25 σ (by omega) (by omega) rn q2 q3 q4 q5 (by rw [show 2 - (i + (-1)) = 2 - i + 1 by omega, hwI_step b J (by omega)]; exact x17) (by rw [show 2 - (i + (-1)) = 2 - i + 1 by omega, hwI_step b J (by omega)]; exact x18) mx fx)
                · skip
                  refine v_iload hx DX12_integrates_312 0 rfl ?_
                  refine v_if_eq hx DX12_integrates_313 (by decide) (fun c313 => ?_) (fun c313 => ?_)
                  · exact absurd c313 (by decide)
                  · skip
                    refine v_push hx DX12_integrates_316 ?_
                    refine v_goto hx DX12_integrates_317 ?_
                    refine v_pZ hx DX12_integrates_321 FPRX12_278 hR.o rfl (ki := 17) rfl (by omega) (fun μ26 eμ26 => ?_)
                    have fp : FrN ν [] [17, 18] m μ26 := by rw [eμ26, eμ24]; exact (FrN.wJ (by simp)).trans (FrN.wJ (by simp))
                    have rn : RA μ26 ν σ b := (h1).frN fp (by simp) (by simp) (by simp) (by simp)
                    have q2 : ∀ j : Int, -2 ≤ j → j ≤ 3 → RFI σ (16 + j + 2) (igQ b J j) := fun j g0 g1 => h2 j g0 g1
                    have q3 : ∀ j : Int, -2 ≤ j → j ≤ 2 → RFI σ (22 + j + 2) (igR b J j) := fun j g0 g1 => h3 j g0 g1
                    have q4 : ∀ r : Nat, r < 30 ∨ (54 ≤ r ∧ r < 116) → σ r = ρ r := fun r hr => hk r hr
                    have q5 : b.2.2.1 ≠ 0 → RFI σ 15 b.du := fun q => hd q
                    have mx : ∃ X, MXI μ26 ν X := hM.elim (fun X h => ⟨X, h.fr (fp.1 _ (by omega) (by simp))⟩)
                    have fx : FrN ν [ν + 1, ν + 2, ν + 7, ν + 8] [16, 17, 18] μ μ26 := (hf.trans FrN.rf).trans (fp.mono (by simp) (by simp))
                    have x17 : (μ26).1 ν 17 = (if bz (isI b J i) = 1 then hwI b J (2 - i).toNat else if (hwI b J (2 - i).toNat).1 = 1 then (0, i) else hwI b J (2 - i).toNat).1 := by
                      rw [if_pos (bz_pos hI1)]
                      rw [eμ26, mI_at, if_pos (by omega)]
                      try (first | omega | rfl)
                    have x18 : (μ26).1 ν 18 = (if bz (isI b J i) = 1 then hwI b J (2 - i).toNat else if (hwI b J (2 - i).toNat).1 = 1 then (0, i) else hwI b J (2 - i).toNat).2 := by
                      rw [if_pos (bz_pos hI1)]
                      rw [eμ26, mI_at, if_neg (by omega), eμ24, mI_at, if_pos (by omega)]
                    refine v_iinc hx DX12_integrates_324 1 rfl [(2, iv (i + (-1))), (3, iv 1), (0, .ref ν), (1, iv fr)] rfl (by decide) ?_
                    refine v_goto hx DX12_integrates_327 ?_
                    exact v_sub [0, 2, 3] _ rfl (ih (i + (-1)) μ26 σ (by omega) (by omega) rn q2 q3 q4 q5 (by rw [show 2 - (i + (-1)) = 2 - i + 1 by omega, hwI_step b J (by omega)]; exact x17) (by rw [show 2 - (i + (-1)) = 2 - i + 1 by omega, hwI_step b J (by omega)]; exact x18) mx fx)
              · exact absurd c283 (by decide)
          · skip
            refine v_aload hx DX12_integrates_246 1 rfl ?_
            refine v_push hx DX12_integrates_247 ?_
            refine v_iload hx DX12_integrates_249 0 rfl ?_
            refine v_iadd hx DX12_integrates_250 ?_
            refine v_push hx DX12_integrates_251 ?_
            refine v_iadd hx DX12_integrates_252 ?_
            refine v_cVi hx DX12_integrates_253 CVRX12_284 [iv ((22 + i) + 2)] (r_multiple (t := 22 + i + 2) (A := igR b J i) (B := b.du) l G Λ sz m hR h1.1 (by omega) (h3 i (by omega) (by omega)) (hd (by omega))) hR.o rfl rfl (Nat.le_of_ble_eq_true rfl) (by decide) ⟨Nat.le_refl _, Nat.le_refl _⟩ (fun z28 μ27 hμ27 => ?_)
            obtain ⟨ez, σ6, w6, k6, f6⟩ := hμ27
            subst ez
            refine v_if_lt hx DX12_integrates_256 (by omega) (fun c256 => ?_) (fun c256 => ?_)
            · skip
              have hI0 : ¬ isI b J i := fun w => w.elim (fun w => by omega) (fun w => w.elim (fun w => by omega) (fun w => by omega))
              refine v_push hx DX12_integrates_279 ?_
              refine v_istore hx DX12_integrates_280 [(3, iv 0), (2, iv i), (0, .ref ν), (1, iv fr)] rfl (by decide) ?_
              refine v_aload hx DX12_integrates_281 2 rfl ?_
              refine v_iload hx DX12_integrates_282 0 rfl ?_
              refine v_if_ne hx DX12_integrates_283 (by decide) (fun c283 => ?_) (fun c283 => ?_)
              · exact absurd c283 (by decide)
              · skip
                refine v_aload hx DX12_integrates_286 2 rfl ?_
                refine v_get hx DX12_integrates_287 FLRX12_278 hR.o (fv_i rfl ((congrFun (f6.1 ν (by simp)) 17).trans e17) : _ = iv ((hwI b J (2 - i).toNat).1)) ?_
                refine v_if_eq hx DX12_integrates_290 (by omega) (fun c290 => ?_) (fun c290 => ?_)
                · skip
                  refine v_aload hx DX12_integrates_297 2 rfl ?_
                  refine v_get hx DX12_integrates_298 FLRX12_281 hR.o (fv_i rfl ((congrFun (f6.1 ν (by simp)) 18).trans e18) : _ = iv ((hwI b J (2 - i).toNat).2)) ?_
                  refine v_pI hx DX12_integrates_301 FPRX12_281 hR.o rfl (ki := 18) rfl (fun μ29 eμ29 => ?_)
                  refine v_aload hx DX12_integrates_304 2 rfl ?_
                  refine v_aload hx DX12_integrates_305 2 rfl ?_
                  refine v_get hx DX12_integrates_306 FLRX12_278 hR.o (fv_i rfl (by rw [eμ29, mI_at, if_neg (by omega)]; exact (congrFun (f6.1 ν (by simp)) 17).trans e17) : _ = iv ((hwI b J (2 - i).toNat).1)) ?_
                  refine v_if_eq hx DX12_integrates_309 (by omega) (fun c309 => ?_) (fun c309 => ?_)
                  · skip
                    refine v_push hx DX12_integrates_320 ?_
                    refine v_pZ hx DX12_integrates_321 FPRX12_278 hR.o rfl (ki := 17) rfl (by omega) (fun μ30 eμ30 => ?_)
                    have fp : FrN ν [] [17, 18] μ27 μ30 := by rw [eμ30, eμ29]; exact (FrN.wJ (by simp)).trans (FrN.wJ (by simp))
                    have rn : RA μ30 ν σ6 b := (h1.rows w6 (fun r hr => k6 r (by omega) (by omega)) f6).frN fp (by simp) (by simp) (by simp) (by simp)
                    have q2 : ∀ j : Int, -2 ≤ j → j ≤ 3 → RFI σ6 (16 + j + 2) (igQ b J j) := fun j g0 g1 => ⟨(k6 _ (by omega) (by omega)).trans (h2 j g0 g1).1, (k6 _ (by omega) (by omega)).trans (h2 j g0 g1).2⟩
                    have q3 : ∀ j : Int, -2 ≤ j → j ≤ 2 → RFI σ6 (22 + j + 2) (igR b J j) := fun j g0 g1 => ⟨(k6 _ (by omega) (by omega)).trans (h3 j g0 g1).1, (k6 _ (by omega) (by omega)).trans (h3 j g0 g1).2⟩
                    have q4 : ∀ r : Nat, r < 30 ∨ (54 ≤ r ∧ r < 116) → σ6 r = ρ r := fun r hr => (k6 r (by omega) (by omega)).trans (hk r hr)
                    have q5 : b.2.2.1 ≠ 0 → RFI σ6 15 b.du := fun q => ⟨(k6 _ (by omega) (by omega)).trans (hd q).1, (k6 _ (by omega) (by omega)).trans (hd q).2⟩
                    have mx : ∃ X, MXI μ30 ν X := hM.elim (fun X h => ⟨X, (h.fr (f6.1 _ (by simp))).fr (fp.1 _ (by omega) (by simp))⟩)
                    have fx : FrN ν [ν + 1, ν + 2, ν + 7, ν + 8] [16, 17, 18] μ μ30 := (hf.trans (FrN.of (f6.mono (by simp)) (by simp))).trans (fp.mono (by simp) (by simp))
                    have x17 : (μ30).1 ν 17 = (if bz (isI b J i) = 1 then hwI b J (2 - i).toNat else if (hwI b J (2 - i).toNat).1 = 1 then (0, i) else hwI b J (2 - i).toNat).1 := by
                      rw [if_neg (by rw [bz_neg hI0]; omega)]; first | rw [if_pos (show (hwI b J (2 - i).toNat).1 = 1 by omega)] | rw [if_neg (show ¬ (hwI b J (2 - i).toNat).1 = 1 by omega)]
                      rw [eμ30, mI_at, if_pos (by omega)]
                      try (first | omega | rfl)
                    have x18 : (μ30).1 ν 18 = (if bz (isI b J i) = 1 then hwI b J (2 - i).toNat else if (hwI b J (2 - i).toNat).1 = 1 then (0, i) else hwI b J (2 - i).toNat).2 := by
                      rw [if_neg (by rw [bz_neg hI0]; omega)]; first | rw [if_pos (show (hwI b J (2 - i).toNat).1 = 1 by omega)] | rw [if_neg (show ¬ (hwI b J (2 - i).toNat).1 = 1 by omega)]
                      rw [eμ30, mI_at, if_neg (by omega), eμ29, mI_at, if_pos (by omega)]
                    refine v_iinc hx DX12_integrates_324 1 rfl [(2, iv (i + (-1))), (3, iv 0), (0, .ref ν), (1, iv fr)] rfl (by decide) ?_
                    refine v_goto hx DX12_integrates_327 ?_
                    exact v_sub [0, 2, 3] _ rfl (ih (i + (-1)) μ30 σ6 (by omega) (by omega) rn q2 q3 q4 q5 (by rw [show 2 - (i + (-1)) = 2 - i + 1 by omega, hwI_step b J (by omega)]; exact x17) (by rw [show 2 - (i + (-1)) = 2 - i + 1 by omega, hwI_step b J (by omega)]; exact x18) mx fx)
                  · exact absurd c309 (by omega)
                · skip
                  refine v_iload hx DX12_integrates_293 1 rfl ?_
                  refine v_goto hx DX12_integrates_294 ?_
                  refine v_pI hx DX12_integrates_301 FPRX12_281 hR.o rfl (ki := 18) rfl (fun μ31 eμ31 => ?_)
                  refine v_aload hx DX12_integrates_304 2 rfl ?_
                  refine v_aload hx DX12_integrates_305 2 rfl ?_
                  refine v_get hx DX12_integrates_306 FLRX12_278 hR.o (fv_i rfl (by rw [eμ31, mI_at, if_neg (by omega)]; exact (congrFun (f6.1 ν (by simp)) 17).trans e17) : _ = iv ((hwI b J (2 - i).toNat).1)) ?_
                  refine v_if_eq hx DX12_integrates_309 (by omega) (fun c309 => ?_) (fun c309 => ?_)
                  · exact absurd c309 (by omega)
                  · skip
                    refine v_iload hx DX12_integrates_312 0 rfl ?_
                    refine v_if_eq hx DX12_integrates_313 (by decide) (fun c313 => ?_) (fun c313 => ?_)
                    · skip
                      refine v_push hx DX12_integrates_320 ?_
                      refine v_pZ hx DX12_integrates_321 FPRX12_278 hR.o rfl (ki := 17) rfl (by omega) (fun μ32 eμ32 => ?_)
                      have fp : FrN ν [] [17, 18] μ27 μ32 := by rw [eμ32, eμ31]; exact (FrN.wJ (by simp)).trans (FrN.wJ (by simp))
                      have rn : RA μ32 ν σ6 b := (h1.rows w6 (fun r hr => k6 r (by omega) (by omega)) f6).frN fp (by simp) (by simp) (by simp) (by simp)
                      have q2 : ∀ j : Int, -2 ≤ j → j ≤ 3 → RFI σ6 (16 + j + 2) (igQ b J j) := fun j g0 g1 => ⟨(k6 _ (by omega) (by omega)).trans (h2 j g0 g1).1, (k6 _ (by omega) (by omega)).trans (h2 j g0 g1).2⟩
                      have q3 : ∀ j : Int, -2 ≤ j → j ≤ 2 → RFI σ6 (22 + j + 2) (igR b J j) := fun j g0 g1 => ⟨(k6 _ (by omega) (by omega)).trans (h3 j g0 g1).1, (k6 _ (by omega) (by omega)).trans (h3 j g0 g1).2⟩
                      have q4 : ∀ r : Nat, r < 30 ∨ (54 ≤ r ∧ r < 116) → σ6 r = ρ r := fun r hr => (k6 r (by omega) (by omega)).trans (hk r hr)
                      have q5 : b.2.2.1 ≠ 0 → RFI σ6 15 b.du := fun q => ⟨(k6 _ (by omega) (by omega)).trans (hd q).1, (k6 _ (by omega) (by omega)).trans (hd q).2⟩
                      have mx : ∃ X, MXI μ32 ν X := hM.elim (fun X h => ⟨X, (h.fr (f6.1 _ (by simp))).fr (fp.1 _ (by omega) (by simp))⟩)
                      have fx : FrN ν [ν + 1, ν + 2, ν + 7, ν + 8] [16, 17, 18] μ μ32 := (hf.trans (FrN.of (f6.mono (by simp)) (by simp))).trans (fp.mono (by simp) (by simp))
                      have x17 : (μ32).1 ν 17 = (if bz (isI b J i) = 1 then hwI b J (2 - i).toNat else if (hwI b J (2 - i).toNat).1 = 1 then (0, i) else hwI b J (2 - i).toNat).1 := by
                        rw [if_neg (by rw [bz_neg hI0]; omega)]; first | rw [if_pos (show (hwI b J (2 - i).toNat).1 = 1 by omega)] | rw [if_neg (show ¬ (hwI b J (2 - i).toNat).1 = 1 by omega)]
                        rw [eμ32, mI_at, if_pos (by omega)]
                        try (first | omega | rfl)
                      have x18 : (μ32).1 ν 18 = (if bz (isI b J i) = 1 then hwI b J (2 - i).toNat else if (hwI b J (2 - i).toNat).1 = 1 then (0, i) else hwI b J (2 - i).toNat).2 := by
                        rw [if_neg (by rw [bz_neg hI0]; omega)]; first | rw [if_pos (show (hwI b J (2 - i).toNat).1 = 1 by omega)] | rw [if_neg (show ¬ (hwI b J (2 - i).toNat).1 = 1 by omega)]
                        rw [eμ32, mI_at, if_neg (by omega), eμ31, mI_at, if_pos (by omega)]
                      refine v_iinc hx DX12_integrates_324 1 rfl [(2, iv (i + (-1))), (3, iv 0), (0, .ref ν), (1, iv fr)] rfl (by decide) ?_
                      refine v_goto hx DX12_integrates_327 ?_
                      exact v_sub [0, 2, 3] _ rfl (ih (i + (-1)) μ32 σ6 (by omega) (by omega) rn q2 q3 q4 q5 (by rw [show 2 - (i + (-1)) = 2 - i + 1 by omega, hwI_step b J (by omega)]; exact x17) (by rw [show 2 - (i + (-1)) = 2 - i + 1 by omega, hwI_step b J (by omega)]; exact x18) mx fx)
                    · exact absurd c313 (by decide)
            · skip
              have hI1 : isI b J i := Or.inr (Or.inl ⟨by omega, by omega⟩)
              refine v_goto hx DX12_integrates_259 ?_
              refine v_push hx DX12_integrates_275 ?_
              refine v_goto hx DX12_integrates_276 ?_
              refine v_istore hx DX12_integrates_280 [(3, iv 1), (2, iv i), (0, .ref ν), (1, iv fr)] rfl (by decide) ?_
              refine v_aload hx DX12_integrates_281 2 rfl ?_
              refine v_iload hx DX12_integrates_282 0 rfl ?_
              refine v_if_ne hx DX12_integrates_283 (by decide) (fun c283 => ?_) (fun c283 => ?_)
              · skip
                refine v_aload hx DX12_integrates_297 2 rfl ?_
                refine v_get hx DX12_integrates_298 FLRX12_281 hR.o (fv_i rfl ((congrFun (f6.1 ν (by simp)) 18).trans e18) : _ = iv ((hwI b J (2 - i).toNat).2)) ?_
                refine v_pI hx DX12_integrates_301 FPRX12_281 hR.o rfl (ki := 18) rfl (fun μ33 eμ33 => ?_)
                refine v_aload hx DX12_integrates_304 2 rfl ?_
                refine v_aload hx DX12_integrates_305 2 rfl ?_
                refine v_get hx DX12_integrates_306 FLRX12_278 hR.o (fv_i rfl (by rw [eμ33, mI_at, if_neg (by omega)]; exact (congrFun (f6.1 ν (by simp)) 17).trans e17) : _ = iv ((hwI b J (2 - i).toNat).1)) ?_
                refine v_if_eq hx DX12_integrates_309 (by omega) (fun c309 => ?_) (fun c309 => ?_)
                · skip
                  refine v_push hx DX12_integrates_320 ?_
                  refine v_pZ hx DX12_integrates_321 FPRX12_278 hR.o rfl (ki := 17) rfl (by omega) (fun μ34 eμ34 => ?_)
                  have fp : FrN ν [] [17, 18] μ27 μ34 := by rw [eμ34, eμ33]; exact (FrN.wJ (by simp)).trans (FrN.wJ (by simp))
                  have rn : RA μ34 ν σ6 b := (h1.rows w6 (fun r hr => k6 r (by omega) (by omega)) f6).frN fp (by simp) (by simp) (by simp) (by simp)
                  have q2 : ∀ j : Int, -2 ≤ j → j ≤ 3 → RFI σ6 (16 + j + 2) (igQ b J j) := fun j g0 g1 => ⟨(k6 _ (by omega) (by omega)).trans (h2 j g0 g1).1, (k6 _ (by omega) (by omega)).trans (h2 j g0 g1).2⟩
                  have q3 : ∀ j : Int, -2 ≤ j → j ≤ 2 → RFI σ6 (22 + j + 2) (igR b J j) := fun j g0 g1 => ⟨(k6 _ (by omega) (by omega)).trans (h3 j g0 g1).1, (k6 _ (by omega) (by omega)).trans (h3 j g0 g1).2⟩
                  have q4 : ∀ r : Nat, r < 30 ∨ (54 ≤ r ∧ r < 116) → σ6 r = ρ r := fun r hr => (k6 r (by omega) (by omega)).trans (hk r hr)
                  have q5 : b.2.2.1 ≠ 0 → RFI σ6 15 b.du := fun q => ⟨(k6 _ (by omega) (by omega)).trans (hd q).1, (k6 _ (by omega) (by omega)).trans (hd q).2⟩
                  have mx : ∃ X, MXI μ34 ν X := hM.elim (fun X h => ⟨X, (h.fr (f6.1 _ (by simp))).fr (fp.1 _ (by omega) (by simp))⟩)
                  have fx : FrN ν [ν + 1, ν + 2, ν + 7, ν + 8] [16, 17, 18] μ μ34 := (hf.trans (FrN.of (f6.mono (by simp)) (by simp))).trans (fp.mono (by simp) (by simp))
                  have x17 : (μ34).1 ν 17 = (if bz (isI b J i) = 1 then hwI b J (2 - i).toNat else if (hwI b J (2 - i).toNat).1 = 1 then (0, i) else hwI b J (2 - i).toNat).1 := by
                    rw [if_pos (bz_pos hI1)]
                    rw [eμ34, mI_at, if_pos (by omega)]
                    try (first | omega | rfl)
                  have x18 : (μ34).1 ν 18 = (if bz (isI b J i) = 1 then hwI b J (2 - i).toNat else if (hwI b J (2 - i).toNat).1 = 1 then (0, i) else hwI b J (2 - i).toNat).2 := by
                    rw [if_pos (bz_pos hI1)]
                    rw [eμ34, mI_at, if_neg (by omega), eμ33, mI_at, if_pos (by omega)]
                  refine v_iinc hx DX12_integrates_324 1 rfl [(2, iv (i + (-1))), (3, iv 1), (0, .ref ν), (1, iv fr)] rfl (by decide) ?_
                  refine v_goto hx DX12_integrates_327 ?_
                  exact v_sub [0, 2, 3] _ rfl (ih (i + (-1)) μ34 σ6 (by omega) (by omega) rn q2 q3 q4 q5 (by rw [show 2 - (i + (-1)) = 2 - i + 1 by omega, hwI_step b J (by omega)]; exact x17) (by rw [show 2 - (i + (-1)) = 2 - i + 1 by omega, hwI_step b J (by omega)]; exact x18) mx fx)
                · skip
                  refine v_iload hx DX12_integrates_312 0 rfl ?_
                  refine v_if_eq hx DX12_integrates_313 (by decide) (fun c313 => ?_) (fun c313 => ?_)
                  · exact absurd c313 (by decide)
                  · skip
                    refine v_push hx DX12_integrates_316 ?_
                    refine v_goto hx DX12_integrates_317 ?_
                    refine v_pZ hx DX12_integrates_321 FPRX12_278 hR.o rfl (ki := 17) rfl (by omega) (fun μ35 eμ35 => ?_)
                    have fp : FrN ν [] [17, 18] μ27 μ35 := by rw [eμ35, eμ33]; exact (FrN.wJ (by simp)).trans (FrN.wJ (by simp))
                    have rn : RA μ35 ν σ6 b := (h1.rows w6 (fun r hr => k6 r (by omega) (by omega)) f6).frN fp (by simp) (by simp) (by simp) (by simp)
                    have q2 : ∀ j : Int, -2 ≤ j → j ≤ 3 → RFI σ6 (16 + j + 2) (igQ b J j) := fun j g0 g1 => ⟨(k6 _ (by omega) (by omega)).trans (h2 j g0 g1).1, (k6 _ (by omega) (by omega)).trans (h2 j g0 g1).2⟩
                    have q3 : ∀ j : Int, -2 ≤ j → j ≤ 2 → RFI σ6 (22 + j + 2) (igR b J j) := fun j g0 g1 => ⟨(k6 _ (by omega) (by omega)).trans (h3 j g0 g1).1, (k6 _ (by omega) (by omega)).trans (h3 j g0 g1).2⟩
                    have q4 : ∀ r : Nat, r < 30 ∨ (54 ≤ r ∧ r < 116) → σ6 r = ρ r := fun r hr => (k6 r (by omega) (by omega)).trans (hk r hr)
                    have q5 : b.2.2.1 ≠ 0 → RFI σ6 15 b.du := fun q => ⟨(k6 _ (by omega) (by omega)).trans (hd q).1, (k6 _ (by omega) (by omega)).trans (hd q).2⟩
                    have mx : ∃ X, MXI μ35 ν X := hM.elim (fun X h => ⟨X, (h.fr (f6.1 _ (by simp))).fr (fp.1 _ (by omega) (by simp))⟩)
                    have fx : FrN ν [ν + 1, ν + 2, ν + 7, ν + 8] [16, 17, 18] μ μ35 := (hf.trans (FrN.of (f6.mono (by simp)) (by simp))).trans (fp.mono (by simp) (by simp))
                    have x17 : (μ35).1 ν 17 = (if bz (isI b J i) = 1 then hwI b J (2 - i).toNat else if (hwI b J (2 - i).toNat).1 = 1 then (0, i) else hwI b J (2 - i).toNat).1 := by
                      rw [if_pos (bz_pos hI1)]
                      rw [eμ35, mI_at, if_pos (by omega)]
                      try (first | omega | rfl)
                    have x18 : (μ35).1 ν 18 = (if bz (isI b J i) = 1 then hwI b J (2 - i).toNat else if (hwI b J (2 - i).toNat).1 = 1 then (0, i) else hwI b J (2 - i).toNat).2 := by
                      rw [if_pos (bz_pos hI1)]
                      rw [eμ35, mI_at, if_neg (by omega), eμ33, mI_at, if_pos (by omega)]
                    refine v_iinc hx DX12_integrates_324 1 rfl [(2, iv (i + (-1))), (3, iv 1), (0, .ref ν), (1, iv fr)] rfl (by decide) ?_
                    refine v_goto hx DX12_integrates_327 ?_
                    exact v_sub [0, 2, 3] _ rfl (ih (i + (-1)) μ35 σ6 (by omega) (by omega) rn q2 q3 q4 q5 (by rw [show 2 - (i + (-1)) = 2 - i + 1 by omega, hwI_step b J (by omega)]; exact x17) (by rw [show 2 - (i + (-1)) = 2 - i + 1 by omega, hwI_step b J (by omega)]; exact x18) mx fx)
              · exact absurd c283 (by decide)
  have L54 : ∀ (nf : Nat) (i : Int) (m : Mem) (σ : Nat → PS), (i + 3 < (nf : Int)) → (-3 ≤ i ∧ i ≤ 2) → (RA m ν σ b) → (IgR ρ σ b J i) → (∃ X, MXI m ν X) → (FrN ν [ν + 1, ν + 2, ν + 7, ν + 8] [16, 17, 18] μ m) → V G x (0, 0) Λ sz m 54 [(2, iv i), (0, .ref ν), (1, iv fr)] [] := by
    intro nf
    induction nf with
    | zero => intro i m σ hm hi h1 h2 hM hf; exact absurd hm (by omega)
    | succ nf ih =>
      intro i m σ hm hi h1 h2 hM hf
      obtain ⟨i1, i2, i3, i4, i5, i6⟩ := h2
      have h2 : IgR ρ σ b J i := ⟨i1, i2, i3, i4, i5, i6⟩
      refine v_iload hx DX12_integrates_54 0 rfl ?_
      refine v_push hx DX12_integrates_55 ?_
      refine v_icmp_lt hx DX12_integrates_57 (by omega) (by decide) (fun c57 => ?_) (fun c57 => ?_)
      · skip
        refine v_aload hx DX12_integrates_216 1 rfl ?_
        refine v_push hx DX12_integrates_217 ?_
        refine v_pZ hx DX12_integrates_218 FPRX12_278 hR.o rfl (ki := 17) rfl (by omega) (fun μ36 eμ36 => ?_)
        refine v_aload hx DX12_integrates_221 1 rfl ?_
        refine v_push hx DX12_integrates_222 ?_
        refine v_pI hx DX12_integrates_223 FPRX12_281 hR.o rfl (ki := 18) rfl (fun μ37 eμ37 => ?_)
        refine v_push hx DX12_integrates_226 ?_
        refine v_istore hx DX12_integrates_227 [(2, iv 2), (0, .ref ν), (1, iv fr)] rfl (by decide) ?_
        exact v_sub [0, 1, 2] _ rfl (L228 100 2 μ37 σ (by omega) (by omega) (h1.frN (S := []) (J := [17, 18]) (by rw [eμ37, eμ36]; exact (FrN.wJ (by simp)).trans (FrN.wJ (by simp))) (by simp) (by simp) (by simp) (by simp)) (fun j g0 g1 => by have q := i1 j g0 g1; rwa [if_pos (by omega)] at q) (fun j g0 g1 => by have q := i2 j g0 g1; rwa [if_pos (by omega)] at q) i3 i5 (by rw [eμ37, mI_at, if_neg (by omega), eμ36, mI_at, if_pos (by omega)]; rfl) (by rw [eμ37, mI_at, if_pos (by omega)]; rfl) (hM.elim (fun X h => ⟨X, h.fr (by rw [eμ37, mI_ne (by omega), eμ36, mI_ne (by omega)])⟩)) (hf.trans (by rw [eμ37, eμ36]; exact (FrN.wJ (by simp)).trans (FrN.wJ (by simp)))))
      · skip
        refine v_aload hx DX12_integrates_60 1 rfl ?_
        refine v_get hx DX12_integrates_61 FLRX12_125 hR.o (fv_i rfl h1.2.2.2.2.1 : _ = iv b.2.2.1) ?_
        refine v_push hx DX12_integrates_64 ?_
        refine v_icmp_ne hx DX12_integrates_65 (by omega) (by decide) (fun c65 => ?_) (fun c65 => ?_)
        · skip
          refine v_iload hx DX12_integrates_121 0 rfl ?_
          refine v_if_eq hx DX12_integrates_122 (by omega) (fun c122 => ?_) (fun c122 => ?_)
          · skip
            by_cases k2c : b.2.2.1 = 2
            · skip
              have ga := ig_at hgd hJ (by omega) (i := i) (by omega)
              have du := Bd.du_ok hgd (by omega)
              have ji := (hJ i (by omega) (by omega)).1
              have gv := ga.1.ml du (k := 26) (q := 21) (by omega) (by omega) (by omega)
              refine v_aload hx DX12_integrates_137 1 rfl ?_
              refine v_push hx DX12_integrates_138 ?_
              refine v_push hx DX12_integrates_140 ?_
              refine v_iload hx DX12_integrates_142 0 rfl ?_
              refine v_iadd hx DX12_integrates_143 ?_
              refine v_push hx DX12_integrates_144 ?_
              refine v_iadd hx DX12_integrates_145 ?_
              refine v_push hx DX12_integrates_146 ?_
              refine v_cVv hx DX12_integrates_148 CVRX12_220 [iv 59, iv ((16 + i) + 3), iv 15] (r_multipliesF (o := 59) (a := 16 + i + 3) (b := 15) (A := igQ b J (i + 1)) l G Λ sz m hR h1.1 (by omega) (by omega) (by omega) (by have q := i1 (i + 1) (by omega) (by omega); rwa [if_pos (by omega), show 16 + (i + 1) + 2 = 16 + i + 3 by omega] at q) (i5 (by omega)) ga.1.1.2.2.1 du.1.2.2.1 (by have := ga.1.2.1; have := du.2.1; omega) (by have := ga.1.2.2; have := du.2.2; omega)) hR.o rfl rfl (Nat.le_of_ble_eq_true rfl) (by decide) ⟨Nat.le_refl _, Nat.le_refl _⟩ (fun μ38 hμ38 => ?_)
              obtain ⟨σ1, w1, v1, v2, k1, f1⟩ := hμ38
              have k1 : ∀ r : Nat, r < 116 ∨ r = 148 → σ1 r = σ r := fun r hr => k1 r (by omega) (by omega) (by omega)
              refine v_aload hx DX12_integrates_151 1 rfl ?_
              refine v_push hx DX12_integrates_152 ?_
              refine v_iload hx DX12_integrates_154 2 rfl ?_
              refine v_iload hx DX12_integrates_155 0 rfl ?_
              refine v_iadd hx DX12_integrates_156 ?_
              refine v_push hx DX12_integrates_157 ?_
              refine v_iadd hx DX12_integrates_158 ?_
              refine v_cVv hx DX12_integrates_159 CVRX12_217 [iv 58, iv ((fr + i) + 2)] (r_takesF (o := 58) (a := fr + i + 2) (A := J i) l G Λ sz μ38 hR w1 (by omega) (by omega) ⟨(k1 _ (by omega)).trans ((i3 _ (by omega)).trans (hF i (by omega) (by omega)).1), (k1 _ (by omega)).trans ((i3 _ (by omega)).trans (hF i (by omega) (by omega)).2)⟩) hR.o rfl rfl (Nat.le_of_ble_eq_true rfl) (by decide) ⟨Nat.le_refl _, Nat.le_refl _⟩ (fun μ40 hμ40 => ?_)
              have h159 := hμ40
              obtain ⟨σ2, w2, a2, b2, k2⟩ : ∃ σ2, RW μ40 ν σ2 ∧ RFI σ2 58 (J i) ∧ (∀ r : Nat, r ≠ 116 → r ≠ 117 → σ2 r = σ1 r) ∧ True := ⟨_, h159.1, RFI.wr (o := 58) (J i), fun r g1 g2 => by show up (up σ1 116 _) 117 _ r = _; rw [up_ne g2, up_ne g1], trivial⟩
              have f2 := f1.trans (h159.2.mono (by simp))
              refine v_aload hx DX12_integrates_162 1 rfl ?_
              refine v_get hx DX12_integrates_163 FLRX12_125 hR.o (fv_i rfl ((congrFun (f2.1 ν (by simp)) 2).trans h1.2.2.2.2.1) : _ = iv b.2.2.1) ?_
              refine v_push hx DX12_integrates_166 ?_
              refine v_icmp_ne hx DX12_integrates_167 (by omega) (by decide) (fun c167 => ?_) (fun c167 => ?_)
              · exact absurd c167 (by omega)
              · skip
                refine v_aload hx DX12_integrates_170 1 rfl ?_
                refine v_push hx DX12_integrates_171 ?_
                refine v_push hx DX12_integrates_173 ?_
                refine v_push hx DX12_integrates_175 ?_
                refine v_iload hx DX12_integrates_177 0 rfl ?_
                refine v_push hx DX12_integrates_178 ?_
                refine v_iadd hx DX12_integrates_179 ?_
                refine v_ineg hx DX12_integrates_180 ?_
                refine v_cVv hx DX12_integrates_181 CVRX12_223 [iv 58, iv 58, iv 59, iv (-(i + 1))] (r_plusF (o := 58) (a := 58) (b := 59) (A := J i) (B := fml (igQ b J (i + 1)) b.du) l G Λ sz μ40 hR w2 (by omega) (by omega) (by omega) (by omega) a2 ⟨(b2 _ (by decide) (by decide)).trans v1, (b2 _ (by decide) (by decide)).trans v2⟩ ji.1.2.2.1 gv.1.2.2.1 (by have := ji.2.1; have := gv.2.2; omega) (by have := gv.2.1; have := ji.2.2; omega) (by have := gv.2.2; have := ji.2.2; omega)) hR.o rfl rfl (Nat.le_of_ble_eq_true rfl) (by decide) ⟨Nat.le_refl _, Nat.le_refl _⟩ (fun μ42 hμ42 => ?_)
                obtain ⟨σ3, w3, y1, y2, k3, f3⟩ := hμ42
                have f4 := f2.trans f3
                refine v_aload hx DX12_integrates_184 1 rfl ?_
                refine v_push hx DX12_integrates_185 ?_
                refine v_cVv hx DX12_integrates_187 CVRX12_7 [iv 118] (r_zero (s := 118) l G Λ sz μ42 hR w3 (by decide)) hR.o rfl rfl (Nat.le_of_ble_eq_true rfl) (by decide) ⟨Nat.le_refl _, Nat.le_refl _⟩ (fun μ44 hμ44 => ?_)
                obtain ⟨σ5, w5, a5, k5⟩ := RW.abs hμ44.1
                have f5 : Fr [ν + 1, ν + 2] m μ44 := f4.trans (hμ44.2.mono (by simp))
                have kk5 : ∀ r : Nat, r < 116 ∨ r = 148 → σ5 r = σ r := fun r hr => (k5 r (by omega)).trans ((k3 r (by omega) (by omega) (by omega)).trans ((b2 r (by omega) (by omega)).trans (k1 r hr)))
                refine v_aload hx DX12_integrates_190 1 rfl ?_
                refine v_push hx DX12_integrates_191 ?_
                refine v_push hx DX12_integrates_193 ?_
                refine v_iload hx DX12_integrates_195 0 rfl ?_
                refine v_iadd hx DX12_integrates_196 ?_
                refine v_push hx DX12_integrates_197 ?_
                refine v_iadd hx DX12_integrates_198 ?_
                refine v_push hx DX12_integrates_199 ?_
                refine v_iload hx DX12_integrates_201 0 rfl ?_
                refine v_iadd hx DX12_integrates_202 ?_
                refine v_push hx DX12_integrates_203 ?_
                refine v_iadd hx DX12_integrates_204 ?_
                refine v_push hx DX12_integrates_205 ?_
                refine v_cVv hx DX12_integrates_207 CVRX12_275 [iv 58, iv ((16 + i) + 2), iv ((22 + i) + 2), iv 118] (r_splitsF (t := 58) (q := 16 + i + 2) (lf := 22 + i + 2) (w := 118) (A := fpl (J i) (fml (igQ b J (i + 1)) b.du) (fi (-(i + 1)))) (W := PS.zero) l G Λ sz μ44 hR w5 (by omega) (by decide) (by omega) ⟨(k5 _ (by decide)).trans y1, (k5 _ (by decide)).trans y2⟩ a5 ga.2 (by omega) (by rw [PS.zero_sz]; omega) (hM.elim (fun X h => ⟨X, h.fr (f5.1 _ (by simp))⟩))) hR.o rfl rfl (Nat.le_of_ble_eq_true rfl) (by decide) ⟨Nat.le_refl _, Nat.le_refl _⟩ (fun μ46 hμ46 => ?_)
                obtain ⟨σ9, w9, x1, x2, k9, mx, f9⟩ := hμ46
                have is := ig_step b J (i := i) (by omega)
                have eS : igS b J i (igQ b J (i + 1)) = sp2 (fpl (J i) (fml (igQ b J (i + 1)) b.du) (fi (-(i + 1)))) PS.zero := by unfold igS; rw [if_neg (by omega), if_pos (by omega), if_pos (by omega)]
                rw [eS] at is
                have nx : IgR ρ σ9 b J (i + (-1)) := h2.next (by omega) (by rw [is.1]; exact x1) (by rw [is.2]; exact x2) (fun r g0 g1 g2 g3 g4 => (k9 r (by omega) g1 g2 g3 g4).trans (kk5 r (by omega)))
                have rn : RA μ46 ν σ9 b := (h1.rows w5 (fun r hr => kk5 r (by omega)) f5).rowsN w9 (fun r hr => k9 r (by omega) (by omega) (by omega) (by omega) (by omega)) f9 (by simp) (by simp) (by simp)
                have fx : FrN ν [ν + 1, ν + 2, ν + 7, ν + 8] [16, 17, 18] μ μ46 := (hf.trans (FrN.of (f5.mono (by simp)) (by simp))).trans (f9.mono (by simp) (by simp))
                refine v_iinc hx DX12_integrates_210 0 rfl [(2, iv (i + (-1))), (0, .ref ν), (1, iv fr)] rfl (by decide) ?_
                refine v_goto hx DX12_integrates_213 ?_
                exact v_sub [0, 1, 2] _ rfl (ih (i + (-1)) μ46 σ9 (by omega) (by omega) (rn) nx mx fx)
            · skip
              refine v_aload hx DX12_integrates_137 1 rfl ?_
              refine v_push hx DX12_integrates_138 ?_
              refine v_push hx DX12_integrates_140 ?_
              refine v_iload hx DX12_integrates_142 0 rfl ?_
              refine v_iadd hx DX12_integrates_143 ?_
              refine v_push hx DX12_integrates_144 ?_
              refine v_iadd hx DX12_integrates_145 ?_
              refine v_push hx DX12_integrates_146 ?_
              refine v_cVv hx DX12_integrates_148 CVRX12_220 [iv 59, iv ((16 + i) + 3), iv 15] (r_multipliesZ (o := 59) (a := 16 + i + 3) (b := 15) l G Λ sz m hR h1.1 (by omega) (by omega) (by omega) (i6 (by omega)).1 (i6 (by omega)).2) hR.o rfl rfl (Nat.le_of_ble_eq_true rfl) (by decide) ⟨Nat.le_refl _, Nat.le_refl _⟩ (fun μ48 hμ48 => ?_)
              obtain ⟨σ1, w1, k1, f1⟩ := hμ48
              have k1 : ∀ r : Nat, r < 116 ∨ r = 148 → σ1 r = σ r := fun r hr => k1 r (by omega) (by omega) (by omega)
              refine v_aload hx DX12_integrates_151 1 rfl ?_
              refine v_push hx DX12_integrates_152 ?_
              refine v_iload hx DX12_integrates_154 2 rfl ?_
              refine v_iload hx DX12_integrates_155 0 rfl ?_
              refine v_iadd hx DX12_integrates_156 ?_
              refine v_push hx DX12_integrates_157 ?_
              refine v_iadd hx DX12_integrates_158 ?_
              refine v_cVv hx DX12_integrates_159 CVRX12_217 [iv 58, iv ((fr + i) + 2)] (r_takesF (o := 58) (a := fr + i + 2) (A := J i) l G Λ sz μ48 hR w1 (by omega) (by omega) ⟨(k1 _ (by omega)).trans ((i3 _ (by omega)).trans (hF i (by omega) (by omega)).1), (k1 _ (by omega)).trans ((i3 _ (by omega)).trans (hF i (by omega) (by omega)).2)⟩) hR.o rfl rfl (Nat.le_of_ble_eq_true rfl) (by decide) ⟨Nat.le_refl _, Nat.le_refl _⟩ (fun μ50 hμ50 => ?_)
              have h159 := hμ50
              obtain ⟨σ2, w2, a2, b2, k2⟩ : ∃ σ2, RW μ50 ν σ2 ∧ RFI σ2 58 (J i) ∧ (∀ r : Nat, r ≠ 116 → r ≠ 117 → σ2 r = σ1 r) ∧ True := ⟨_, h159.1, RFI.wr (o := 58) (J i), fun r g1 g2 => by show up (up σ1 116 _) 117 _ r = _; rw [up_ne g2, up_ne g1], trivial⟩
              have f2 := f1.trans (h159.2.mono (by simp))
              refine v_aload hx DX12_integrates_162 1 rfl ?_
              refine v_get hx DX12_integrates_163 FLRX12_125 hR.o (fv_i rfl ((congrFun (f2.1 ν (by simp)) 2).trans h1.2.2.2.2.1) : _ = iv b.2.2.1) ?_
              refine v_push hx DX12_integrates_166 ?_
              refine v_icmp_ne hx DX12_integrates_167 (by omega) (by decide) (fun c167 => ?_) (fun c167 => ?_)
              · skip
                refine v_aload hx DX12_integrates_184 1 rfl ?_
                refine v_push hx DX12_integrates_185 ?_
                refine v_cVv hx DX12_integrates_187 CVRX12_7 [iv 118] (r_zero (s := 118) l G Λ sz μ50 hR w2 (by decide)) hR.o rfl rfl (Nat.le_of_ble_eq_true rfl) (by decide) ⟨Nat.le_refl _, Nat.le_refl _⟩ (fun μ52 hμ52 => ?_)
                obtain ⟨σ5, w5, a5, k5⟩ := RW.abs hμ52.1
                have f5 : Fr [ν + 1, ν + 2] m μ52 := f2.trans (hμ52.2.mono (by simp))
                have kk5 : ∀ r : Nat, r < 116 ∨ r = 148 → σ5 r = σ r := fun r hr => (k5 r (by omega)).trans (((b2 r (by omega) (by omega)).trans (k1 r hr)))
                refine v_aload hx DX12_integrates_190 1 rfl ?_
                refine v_push hx DX12_integrates_191 ?_
                refine v_push hx DX12_integrates_193 ?_
                refine v_iload hx DX12_integrates_195 0 rfl ?_
                refine v_iadd hx DX12_integrates_196 ?_
                refine v_push hx DX12_integrates_197 ?_
                refine v_iadd hx DX12_integrates_198 ?_
                refine v_push hx DX12_integrates_199 ?_
                refine v_iload hx DX12_integrates_201 0 rfl ?_
                refine v_iadd hx DX12_integrates_202 ?_
                refine v_push hx DX12_integrates_203 ?_
                refine v_iadd hx DX12_integrates_204 ?_
                refine v_push hx DX12_integrates_205 ?_
                refine v_cVv hx DX12_integrates_207 CVRX12_275 [iv 58, iv ((16 + i) + 2), iv ((22 + i) + 2), iv 118] (r_splitsF (t := 58) (q := 16 + i + 2) (lf := 22 + i + 2) (w := 118) (A := J i) (W := PS.zero) l G Λ sz μ52 hR w5 (by omega) (by decide) (by omega) ⟨(k5 _ (by decide)).trans a2.1, (k5 _ (by decide)).trans a2.2⟩ a5 (hJ i (by omega) (by omega)) (by omega) (by rw [PS.zero_sz]; omega) (hM.elim (fun X h => ⟨X, h.fr (f5.1 _ (by simp))⟩))) hR.o rfl rfl (Nat.le_of_ble_eq_true rfl) (by decide) ⟨Nat.le_refl _, Nat.le_refl _⟩ (fun μ54 hμ54 => ?_)
                obtain ⟨σ9, w9, x1, x2, k9, mx, f9⟩ := hμ54
                have is := ig_step b J (i := i) (by omega)
                have eS : igS b J i (igQ b J (i + 1)) = sp2 (J i) PS.zero := by unfold igS; rw [if_neg (by omega), if_pos (by omega), if_neg (by omega)]
                rw [eS] at is
                have nx : IgR ρ σ9 b J (i + (-1)) := h2.next (by omega) (by rw [is.1]; exact x1) (by rw [is.2]; exact x2) (fun r g0 g1 g2 g3 g4 => (k9 r (by omega) g1 g2 g3 g4).trans (kk5 r (by omega)))
                have rn : RA μ54 ν σ9 b := (h1.rows w5 (fun r hr => kk5 r (by omega)) f5).rowsN w9 (fun r hr => k9 r (by omega) (by omega) (by omega) (by omega) (by omega)) f9 (by simp) (by simp) (by simp)
                have fx : FrN ν [ν + 1, ν + 2, ν + 7, ν + 8] [16, 17, 18] μ μ54 := (hf.trans (FrN.of (f5.mono (by simp)) (by simp))).trans (f9.mono (by simp) (by simp))
                refine v_iinc hx DX12_integrates_210 0 rfl [(2, iv (i + (-1))), (0, .ref ν), (1, iv fr)] rfl (by decide) ?_
                refine v_goto hx DX12_integrates_213 ?_
                exact v_sub [0, 1, 2] _ rfl (ih (i + (-1)) μ54 σ9 (by omega) (by omega) (rn) nx mx fx)
              · exact absurd c167 (by omega)
          · skip
            refine v_aload hx DX12_integrates_125 1 rfl ?_
            refine v_get hx DX12_integrates_126 FLRX12_125 hR.o (fv_i rfl h1.2.2.2.2.1 : _ = iv b.2.2.1) ?_
            refine v_push hx DX12_integrates_129 ?_
            refine v_icmp_ne hx DX12_integrates_130 (by omega) (by decide) (fun c130 => ?_) (fun c130 => ?_)
            · skip
              have is := ig_step b J (i := i) (by omega)
              have eS : igS b J i (igQ b J (i + 1)) = (f00, f00) := by unfold igS; rw [if_neg (by omega), if_neg (by omega)]
              rw [eS] at is
              have nx : IgR ρ σ b J (i + (-1)) := h2.next (by omega) (by rw [is.1]; have q := i1 i (by omega) (by omega); rwa [if_neg (by omega)] at q) (by rw [is.2]; have q := i2 i (by omega) (by omega); rwa [if_neg (by omega)] at q) (fun r _ _ _ _ _ => rfl)
              have rn := h1
              have mx := hM
              have fx := hf
              refine v_iinc hx DX12_integrates_210 0 rfl [(2, iv (i + (-1))), (0, .ref ν), (1, iv fr)] rfl (by decide) ?_
              refine v_goto hx DX12_integrates_213 ?_
              exact v_sub [0, 1, 2] _ rfl (ih (i + (-1)) m σ (by omega) (by omega) (rn) nx mx fx)
            · skip
              refine v_iload hx DX12_integrates_133 0 rfl ?_
              refine v_if_le hx DX12_integrates_134 (by omega) (fun c134 => ?_) (fun c134 => ?_)
              · skip
                have is := ig_step b J (i := i) (by omega)
                have eS : igS b J i (igQ b J (i + 1)) = (f00, f00) := by unfold igS; rw [if_neg (by omega), if_neg (by omega)]
                rw [eS] at is
                have nx : IgR ρ σ b J (i + (-1)) := h2.next (by omega) (by rw [is.1]; have q := i1 i (by omega) (by omega); rwa [if_neg (by omega)] at q) (by rw [is.2]; have q := i2 i (by omega) (by omega); rwa [if_neg (by omega)] at q) (fun r _ _ _ _ _ => rfl)
                have rn := h1
                have mx := hM
                have fx := hf
                refine v_iinc hx DX12_integrates_210 0 rfl [(2, iv (i + (-1))), (0, .ref ν), (1, iv fr)] rfl (by decide) ?_
                refine v_goto hx DX12_integrates_213 ?_
                exact v_sub [0, 1, 2] _ rfl (ih (i + (-1)) m σ (by omega) (by omega) (rn) nx mx fx)
              · skip
                have ga := ig_at hgd hJ (by omega) (i := i) (by omega)
                have du := Bd.du_ok hgd (by omega)
                have ji := (hJ i (by omega) (by omega)).1
                have gv := ga.1.ml du (k := 26) (q := 21) (by omega) (by omega) (by omega)
                refine v_aload hx DX12_integrates_137 1 rfl ?_
                refine v_push hx DX12_integrates_138 ?_
                refine v_push hx DX12_integrates_140 ?_
                refine v_iload hx DX12_integrates_142 0 rfl ?_
                refine v_iadd hx DX12_integrates_143 ?_
                refine v_push hx DX12_integrates_144 ?_
                refine v_iadd hx DX12_integrates_145 ?_
                refine v_push hx DX12_integrates_146 ?_
                refine v_cVv hx DX12_integrates_148 CVRX12_220 [iv 59, iv ((16 + i) + 3), iv 15] (r_multipliesF (o := 59) (a := 16 + i + 3) (b := 15) (A := igQ b J (i + 1)) l G Λ sz m hR h1.1 (by omega) (by omega) (by omega) (by have q := i1 (i + 1) (by omega) (by omega); rwa [if_pos (by omega), show 16 + (i + 1) + 2 = 16 + i + 3 by omega] at q) (i5 (by omega)) ga.1.1.2.2.1 du.1.2.2.1 (by have := ga.1.2.1; have := du.2.1; omega) (by have := ga.1.2.2; have := du.2.2; omega)) hR.o rfl rfl (Nat.le_of_ble_eq_true rfl) (by decide) ⟨Nat.le_refl _, Nat.le_refl _⟩ (fun μ56 hμ56 => ?_)
                obtain ⟨σ1, w1, v1, v2, k1, f1⟩ := hμ56
                have k1 : ∀ r : Nat, r < 116 ∨ r = 148 → σ1 r = σ r := fun r hr => k1 r (by omega) (by omega) (by omega)
                refine v_aload hx DX12_integrates_151 1 rfl ?_
                refine v_push hx DX12_integrates_152 ?_
                refine v_iload hx DX12_integrates_154 2 rfl ?_
                refine v_iload hx DX12_integrates_155 0 rfl ?_
                refine v_iadd hx DX12_integrates_156 ?_
                refine v_push hx DX12_integrates_157 ?_
                refine v_iadd hx DX12_integrates_158 ?_
                refine v_cVv hx DX12_integrates_159 CVRX12_217 [iv 58, iv ((fr + i) + 2)] (r_takesF (o := 58) (a := fr + i + 2) (A := J i) l G Λ sz μ56 hR w1 (by omega) (by omega) ⟨(k1 _ (by omega)).trans ((i3 _ (by omega)).trans (hF i (by omega) (by omega)).1), (k1 _ (by omega)).trans ((i3 _ (by omega)).trans (hF i (by omega) (by omega)).2)⟩) hR.o rfl rfl (Nat.le_of_ble_eq_true rfl) (by decide) ⟨Nat.le_refl _, Nat.le_refl _⟩ (fun μ58 hμ58 => ?_)
                have h159 := hμ58
                obtain ⟨σ2, w2, a2, b2, k2⟩ : ∃ σ2, RW μ58 ν σ2 ∧ RFI σ2 58 (J i) ∧ (∀ r : Nat, r ≠ 116 → r ≠ 117 → σ2 r = σ1 r) ∧ True := ⟨_, h159.1, RFI.wr (o := 58) (J i), fun r g1 g2 => by show up (up σ1 116 _) 117 _ r = _; rw [up_ne g2, up_ne g1], trivial⟩
                have f2 := f1.trans (h159.2.mono (by simp))
                refine v_aload hx DX12_integrates_162 1 rfl ?_
                refine v_get hx DX12_integrates_163 FLRX12_125 hR.o (fv_i rfl ((congrFun (f2.1 ν (by simp)) 2).trans h1.2.2.2.2.1) : _ = iv b.2.2.1) ?_
                refine v_push hx DX12_integrates_166 ?_
                refine v_icmp_ne hx DX12_integrates_167 (by omega) (by decide) (fun c167 => ?_) (fun c167 => ?_)
                · exact absurd c167 (by omega)
                · skip
                  refine v_aload hx DX12_integrates_170 1 rfl ?_
                  refine v_push hx DX12_integrates_171 ?_
                  refine v_push hx DX12_integrates_173 ?_
                  refine v_push hx DX12_integrates_175 ?_
                  refine v_iload hx DX12_integrates_177 0 rfl ?_
                  refine v_push hx DX12_integrates_178 ?_
                  refine v_iadd hx DX12_integrates_179 ?_
                  refine v_ineg hx DX12_integrates_180 ?_
                  refine v_cVv hx DX12_integrates_181 CVRX12_223 [iv 58, iv 58, iv 59, iv (-(i + 1))] (r_plusF (o := 58) (a := 58) (b := 59) (A := J i) (B := fml (igQ b J (i + 1)) b.du) l G Λ sz μ58 hR w2 (by omega) (by omega) (by omega) (by omega) a2 ⟨(b2 _ (by decide) (by decide)).trans v1, (b2 _ (by decide) (by decide)).trans v2⟩ ji.1.2.2.1 gv.1.2.2.1 (by have := ji.2.1; have := gv.2.2; omega) (by have := gv.2.1; have := ji.2.2; omega) (by have := gv.2.2; have := ji.2.2; omega)) hR.o rfl rfl (Nat.le_of_ble_eq_true rfl) (by decide) ⟨Nat.le_refl _, Nat.le_refl _⟩ (fun μ60 hμ60 => ?_)
                  obtain ⟨σ3, w3, y1, y2, k3, f3⟩ := hμ60
                  have f4 := f2.trans f3
                  refine v_aload hx DX12_integrates_184 1 rfl ?_
                  refine v_push hx DX12_integrates_185 ?_
                  refine v_cVv hx DX12_integrates_187 CVRX12_7 [iv 118] (r_zero (s := 118) l G Λ sz μ60 hR w3 (by decide)) hR.o rfl rfl (Nat.le_of_ble_eq_true rfl) (by decide) ⟨Nat.le_refl _, Nat.le_refl _⟩ (fun μ62 hμ62 => ?_)
                  obtain ⟨σ5, w5, a5, k5⟩ := RW.abs hμ62.1
                  have f5 : Fr [ν + 1, ν + 2] m μ62 := f4.trans (hμ62.2.mono (by simp))
                  have kk5 : ∀ r : Nat, r < 116 ∨ r = 148 → σ5 r = σ r := fun r hr => (k5 r (by omega)).trans ((k3 r (by omega) (by omega) (by omega)).trans ((b2 r (by omega) (by omega)).trans (k1 r hr)))
                  refine v_aload hx DX12_integrates_190 1 rfl ?_
                  refine v_push hx DX12_integrates_191 ?_
                  refine v_push hx DX12_integrates_193 ?_
                  refine v_iload hx DX12_integrates_195 0 rfl ?_
                  refine v_iadd hx DX12_integrates_196 ?_
                  refine v_push hx DX12_integrates_197 ?_
                  refine v_iadd hx DX12_integrates_198 ?_
                  refine v_push hx DX12_integrates_199 ?_
                  refine v_iload hx DX12_integrates_201 0 rfl ?_
                  refine v_iadd hx DX12_integrates_202 ?_
                  refine v_push hx DX12_integrates_203 ?_
                  refine v_iadd hx DX12_integrates_204 ?_
                  refine v_push hx DX12_integrates_205 ?_
                  refine v_cVv hx DX12_integrates_207 CVRX12_275 [iv 58, iv ((16 + i) + 2), iv ((22 + i) + 2), iv 118] (r_splitsF (t := 58) (q := 16 + i + 2) (lf := 22 + i + 2) (w := 118) (A := fpl (J i) (fml (igQ b J (i + 1)) b.du) (fi (-(i + 1)))) (W := PS.zero) l G Λ sz μ62 hR w5 (by omega) (by decide) (by omega) ⟨(k5 _ (by decide)).trans y1, (k5 _ (by decide)).trans y2⟩ a5 ga.2 (by omega) (by rw [PS.zero_sz]; omega) (hM.elim (fun X h => ⟨X, h.fr (f5.1 _ (by simp))⟩))) hR.o rfl rfl (Nat.le_of_ble_eq_true rfl) (by decide) ⟨Nat.le_refl _, Nat.le_refl _⟩ (fun μ64 hμ64 => ?_)
                  obtain ⟨σ9, w9, x1, x2, k9, mx, f9⟩ := hμ64
                  have is := ig_step b J (i := i) (by omega)
                  have eS : igS b J i (igQ b J (i + 1)) = sp2 (fpl (J i) (fml (igQ b J (i + 1)) b.du) (fi (-(i + 1)))) PS.zero := by unfold igS; rw [if_neg (by omega), if_pos (by omega), if_pos (by omega)]
                  rw [eS] at is
                  have nx : IgR ρ σ9 b J (i + (-1)) := h2.next (by omega) (by rw [is.1]; exact x1) (by rw [is.2]; exact x2) (fun r g0 g1 g2 g3 g4 => (k9 r (by omega) g1 g2 g3 g4).trans (kk5 r (by omega)))
                  have rn : RA μ64 ν σ9 b := (h1.rows w5 (fun r hr => kk5 r (by omega)) f5).rowsN w9 (fun r hr => k9 r (by omega) (by omega) (by omega) (by omega) (by omega)) f9 (by simp) (by simp) (by simp)
                  have fx : FrN ν [ν + 1, ν + 2, ν + 7, ν + 8] [16, 17, 18] μ μ64 := (hf.trans (FrN.of (f5.mono (by simp)) (by simp))).trans (f9.mono (by simp) (by simp))
                  refine v_iinc hx DX12_integrates_210 0 rfl [(2, iv (i + (-1))), (0, .ref ν), (1, iv fr)] rfl (by decide) ?_
                  refine v_goto hx DX12_integrates_213 ?_
                  exact v_sub [0, 1, 2] _ rfl (ih (i + (-1)) μ64 σ9 (by omega) (by omega) (rn) nx mx fx)
        · skip
          refine v_aload hx DX12_integrates_68 1 rfl ?_
          refine v_push hx DX12_integrates_69 ?_
          refine v_push hx DX12_integrates_72 ?_
          refine v_cVv hx DX12_integrates_75 CVRX12_27 [iv 141, iv 148] (r_lays (s := 141) (t := 148) l G Λ sz m hR h1.1 (by decide) (by decide)) hR.o rfl rfl (Nat.le_of_ble_eq_true rfl) (by decide) ⟨Nat.le_refl _, Nat.le_refl _⟩ (fun μ66 hμ66 => ?_)
          obtain ⟨σ1, w1, a1, k1⟩ := RW.abs hμ66.1
          have f1 := hμ66.2
          refine v_aload hx DX12_integrates_78 1 rfl ?_
          refine v_push hx DX12_integrates_79 ?_
          refine v_iload hx DX12_integrates_82 0 rfl ?_
          refine v_cVv hx DX12_integrates_83 CVRX12_35 [iv 141, iv i] (r_scale (s := 141) l G Λ sz μ66 hR w1 (by decide) (by omega)) hR.o rfl rfl (Nat.le_of_ble_eq_true rfl) (by decide) ⟨Nat.le_refl _, Nat.le_refl _⟩ (fun μ68 hμ68 => ?_)
          obtain ⟨σ2, w2, a2, k2⟩ := RW.abs hμ68.1
          have f2 := hμ68.2
          refine v_aload hx DX12_integrates_86 1 rfl ?_
          refine v_push hx DX12_integrates_87 ?_
          refine v_push hx DX12_integrates_89 ?_
          refine v_cVv hx DX12_integrates_92 CVRX12_27 [iv 116, iv 141] (r_lays (s := 116) (t := 141) l G Λ sz μ68 hR w2 (by decide) (by decide)) hR.o rfl rfl (Nat.le_of_ble_eq_true rfl) (by decide) ⟨Nat.le_refl _, Nat.le_refl _⟩ (fun μ70 hμ70 => ?_)
          obtain ⟨σ3, w3, a3, k3⟩ := RW.abs hμ70.1
          have f3 := hμ70.2
          have kk3 : ∀ r : Nat, r ≠ 116 → r ≠ 141 → σ3 r = σ r := fun r g1 g2 => (k3 r g1).trans ((k2 r g2).trans (k1 r g2))
          have f123 := (f1.trans f2).trans f3
          have eW : σ3 116 = b.uP.der.sm (fi i) := by rw [a3, a2, a1, i4]
          have jf : RFI σ3 (fr + i + 2) (J i) := ⟨(kk3 _ (by omega) (by omega)).trans ((i3 _ (by omega)).trans (hF i (by omega) (by omega)).1), (kk3 _ (by omega) (by omega)).trans ((i3 _ (by omega)).trans (hF i (by omega) (by omega)).2)⟩
          refine v_aload hx DX12_integrates_95 1 rfl ?_
          refine v_iload hx DX12_integrates_96 2 rfl ?_
          refine v_iload hx DX12_integrates_97 0 rfl ?_
          refine v_iadd hx DX12_integrates_98 ?_
          refine v_push hx DX12_integrates_99 ?_
          refine v_iadd hx DX12_integrates_100 ?_
          refine v_push hx DX12_integrates_101 ?_
          refine v_iload hx DX12_integrates_103 0 rfl ?_
          refine v_iadd hx DX12_integrates_104 ?_
          refine v_push hx DX12_integrates_105 ?_
          refine v_iadd hx DX12_integrates_106 ?_
          refine v_push hx DX12_integrates_107 ?_
          refine v_iload hx DX12_integrates_109 0 rfl ?_
          refine v_iadd hx DX12_integrates_110 ?_
          refine v_push hx DX12_integrates_111 ?_
          refine v_iadd hx DX12_integrates_112 ?_
          refine v_push hx DX12_integrates_113 ?_
          refine v_cVv hx DX12_integrates_115 CVRX12_275 [iv ((fr + i) + 2), iv ((16 + i) + 2), iv ((22 + i) + 2), iv 116] (r_splitsF (t := fr + i + 2) (q := 16 + i + 2) (lf := 22 + i + 2) (w := 116) l G Λ sz μ70 hR w3 (by omega) (by decide) (by omega) jf eW (hJ i (by omega) (by omega)) (by omega) (Nat.le_trans (PS.size_le (PS.lt_sm _ (PS.flt (PS.fin_der ⟨_, b.uP_lt⟩)))) (Nat.le_trans b.uP_sz.2 (by omega))) (hM.elim (fun X h => ⟨X, h.fr (f123.1 _ (by simp))⟩))) hR.o rfl rfl (Nat.le_of_ble_eq_true rfl) (by decide) ⟨Nat.le_refl _, Nat.le_refl _⟩ (fun μ72 hμ72 => ?_)
          obtain ⟨σ9, w9, x1, x2, k9, mx, f9⟩ := hμ72
          have is := ig_step b J (i := i) (by omega)
          have eS : igS b J i (igQ b J (i + 1)) = sp2 (J i) (b.uP.der.sm (fi i)) := by unfold igS; rw [if_pos (by omega)]
          rw [eS] at is
          have nx : IgR ρ σ9 b J (i + (-1)) := h2.next (by omega) (by rw [is.1]; exact x1) (by rw [is.2]; exact x2) (fun r g0 g1 g2 g3 g4 => (k9 r (by omega) g1 g2 g3 g4).trans (kk3 r (by omega) (by omega)))
          have rn : RA μ72 ν σ9 b := (h1.rows w3 (fun r hr => kk3 r (by omega) (by omega)) f123).rowsN w9 (fun r hr => k9 r (by omega) (by omega) (by omega) (by omega) (by omega)) f9 (by simp) (by simp) (by simp)
          have fx : FrN ν [ν + 1, ν + 2, ν + 7, ν + 8] [16, 17, 18] μ μ72 := (hf.trans (FrN.of (f123.mono (by simp)) (by simp))).trans (f9.mono (by simp) (by simp))
          refine v_goto hx DX12_integrates_118 ?_
          refine v_iinc hx DX12_integrates_210 0 rfl [(2, iv (i + (-1))), (0, .ref ν), (1, iv fr)] rfl (by decide) ?_
          refine v_goto hx DX12_integrates_213 ?_
          exact v_sub [0, 1, 2] _ rfl (ih (i + (-1)) μ72 σ9 (by omega) (by omega) (rn) nx mx fx)
  have L27 : ∀ (nf : Nat) (i : Int) (m : Mem) (σ : Nat → PS), (3 - i < (nf : Int)) → (-2 ≤ i ∧ i ≤ 3) → (RW m ν σ) → (∀ j : Int, -2 ≤ j → j ≤ 3 → RFI σ (16 + j + 2) f00) → (∀ j : Int, -2 ≤ j → j < i → RFI σ (22 + j + 2) f00) → (∀ r : Nat, r < 30 ∨ 54 ≤ r → σ r = ρ r) → (Fr [ν + 1] μ m) → V G x (0, 0) Λ sz m 27 [(2, iv i), (0, .ref ν), (1, iv fr)] [] := by
    intro nf
    induction nf with
    | zero => intro i m σ hm hi h1 hq h2 h3 hf; exact absurd hm (by omega)
    | succ nf ih =>
      intro i m σ hm hi h1 hq h2 h3 hf
      refine v_iload hx DX12_integrates_27 0 rfl ?_
      refine v_push hx DX12_integrates_28 ?_
      refine v_icmp_gt hx DX12_integrates_29 (by omega) (by decide) (fun c29 => ?_) (fun c29 => ?_)
      · skip
        refine v_aload hx DX12_integrates_48 1 rfl ?_
        refine v_cVv hx DX12_integrates_49 CVRX12_239 [] (r_laysTower l G Λ sz m hR (ha.rows h1 (fun r hr => h3 r (by omega)) hf) hgd) hR.o rfl rfl (Nat.le_of_ble_eq_true rfl) (by decide) ⟨Nat.le_refl _, Nat.le_refl _⟩ (fun μ74 hμ74 => ?_)
        obtain ⟨τ, wτ, uτ, dτ, zτ, kτ, fτ⟩ := hμ74
        refine v_push hx DX12_integrates_52 ?_
        refine v_istore hx DX12_integrates_53 [(2, iv 2), (0, .ref ν), (1, iv fr)] rfl (by decide) ?_
        exact v_sub [0, 1, 2] _ rfl (L54 100 2 μ74 τ (by omega) (by omega) (ha.rows wτ (fun r hr => (kτ r (by omega)).trans (h3 r (by omega))) (hf.trans fτ)) ⟨fun j g0 g1 => by rw [if_neg3 g1]; exact ⟨(kτ _ (by omega)).trans (hq j g0 g1).1, (kτ _ (by omega)).trans (hq j g0 g1).2⟩, fun j g0 g1 => by rw [if_neg (by omega)]; exact ⟨(kτ _ (by omega)).trans (h2 j g0 (by omega)).1, (kτ _ (by omega)).trans (h2 j g0 (by omega)).2⟩, fun r hr => (kτ r (by omega)).trans (h3 r (by omega)), uτ, dτ, fun q => ⟨by rw [(zτ q).1, uP_zero hgd q, PS.der_zero], by rw [(zτ q).2, uP_zero hgd q]⟩⟩ (hX.elim (fun X h => ⟨X, h.fr ((hf.trans fτ).1 _ (by simp))⟩)) (FrN.of ((hf.trans fτ).mono (by simp)) (by simp)))
      · skip
        refine v_aload hx DX12_integrates_32 1 rfl ?_
        refine v_push hx DX12_integrates_33 ?_
        refine v_iload hx DX12_integrates_35 0 rfl ?_
        refine v_iadd hx DX12_integrates_36 ?_
        refine v_push hx DX12_integrates_37 ?_
        refine v_iadd hx DX12_integrates_38 ?_
        refine v_cVv hx DX12_integrates_39 CVRX12_118 [iv ((22 + i) + 2)] (r_noughtI (t := 22 + i + 2) l G Λ sz m hR h1 (by omega)) hR.o rfl rfl (Nat.le_of_ble_eq_true rfl) (by decide) ⟨Nat.le_refl _, Nat.le_refl _⟩ (fun μ76 hμ76 => ?_)
        refine v_iinc hx DX12_integrates_42 0 rfl [(2, iv (i + 1)), (0, .ref ν), (1, iv fr)] rfl (by decide) ?_
        refine v_goto hx DX12_integrates_45 ?_
        exact v_sub [0, 1, 2] _ rfl (ih (i + 1) μ76 _ (by omega) (by omega) hμ76.1 (fun j g0 g1 => RFI.wro (A := f00) (hq j g0 g1) (by omega) (by omega) (by omega)) (fun j g0 g1 => (Classical.em (j = i)).elim (fun q => by rw [q]; exact RFI.wr f00) (fun q => RFI.wro (A := f00) (h2 j g0 (by omega)) (by omega) (by omega) (by omega))) (fun r hr => by rw [up_ne (by omega), up_ne (by omega)]; exact h3 r hr) (hf.trans hμ76.2))
  have L3 : ∀ (nf : Nat) (i : Int) (m : Mem) (σ : Nat → PS), (4 - i < (nf : Int)) → (-2 ≤ i ∧ i ≤ 4) → (RW m ν σ) → (∀ j : Int, -2 ≤ j → j < i → RFI σ (16 + j + 2) f00) → (∀ r : Nat, r < 30 ∨ 44 ≤ r → σ r = ρ r) → (Fr [ν + 1] μ m) → V G x (0, 0) Λ sz m 3 [(2, iv i), (0, .ref ν), (1, iv fr)] [] := by
    intro nf
    induction nf with
    | zero => intro i m σ hm hi h1 h2 h3 hf; exact absurd hm (by omega)
    | succ nf ih =>
      intro i m σ hm hi h1 h2 h3 hf
      refine v_iload hx DX12_integrates_3 0 rfl ?_
      refine v_push hx DX12_integrates_4 ?_
      refine v_icmp_gt hx DX12_integrates_5 (by omega) (by decide) (fun c5 => ?_) (fun c5 => ?_)
      · skip
        refine v_push hx DX12_integrates_24 ?_
        refine v_istore hx DX12_integrates_26 [(2, iv (-2)), (0, .ref ν), (1, iv fr)] rfl (by decide) ?_
        exact v_sub [0, 1, 2] _ rfl (L27 100 (-2) m σ (by omega) (by omega) h1 (fun j g0 g1 => h2 j g0 (by omega)) (fun j g0 g1 => by omega) (fun r hr => h3 r (by omega)) hf)
      · skip
        refine v_aload hx DX12_integrates_8 1 rfl ?_
        refine v_push hx DX12_integrates_9 ?_
        refine v_iload hx DX12_integrates_11 0 rfl ?_
        refine v_iadd hx DX12_integrates_12 ?_
        refine v_push hx DX12_integrates_13 ?_
        refine v_iadd hx DX12_integrates_14 ?_
        refine v_cVv hx DX12_integrates_15 CVRX12_118 [iv ((16 + i) + 2)] (r_noughtI (t := 16 + i + 2) l G Λ sz m hR h1 (by omega)) hR.o rfl rfl (Nat.le_of_ble_eq_true rfl) (by decide) ⟨Nat.le_refl _, Nat.le_refl _⟩ (fun μ78 hμ78 => ?_)
        refine v_iinc hx DX12_integrates_18 0 rfl [(2, iv (i + 1)), (0, .ref ν), (1, iv fr)] rfl (by decide) ?_
        refine v_goto hx DX12_integrates_21 ?_
        exact v_sub [0, 1, 2] _ rfl (ih (i + 1) μ78 _ (by omega) (by omega) hμ78.1 (fun j g0 g1 => (Classical.em (j = i)).elim (fun q => by rw [q]; exact RFI.wr f00) (fun q => RFI.wro (A := f00) (h2 j g0 (by omega)) (by omega) (by omega) (by omega))) (fun r hr => by rw [up_ne (by omega), up_ne (by omega)]; exact h3 r hr) (hf.trans hμ78.2))
  refine v_push hx DX12_integrates_0 ?_
  refine v_istore hx DX12_integrates_2 [(2, iv (-2)), (0, .ref ν), (1, iv fr)] rfl (by decide) ?_
  exact v_sub [0, 1, 2] _ rfl (L3 100 (-2) μ ρ (by omega) (by omega) ha.1 (fun j g0 g1 => by omega) (fun r hr => rfl) Fr.rf)
