/-! ===== the class: join ===== -/
theorem BA.oth2 {Λ : Lay} {S : Nat → Prop} {μ μ' : Mem} {β : Nat} {b : Bd} {π π' : Nat → PS} (h : BA μ β b) (hK : boardK Λ β) (hc : Chg Λ S μ μ' π π') : BA μ' β b := h.oth hK hc.2.2
theorem jn_add {b : Bd} {act f1 f2 s fac : Int} (hf : (act = 0 ∧ fac = 1) ∨ (act = 1 ∧ fac = 100)) (hs : -2 ≤ s ∧ s ≤ 2) : jn b act f1 f2 s = fpl (b.tm (5 * f1 + s + 2)) (b.tm (5 * f2 + s + 2)) (fi fac) := by
  unfold jn
  rw [if_neg (by omega), if_neg (by omega), if_pos hs]
  congr 1
  rcases hf with ⟨h1, h2⟩ | ⟨h1, h2⟩
  · rw [if_pos h1, h2]
  · rw [if_neg (by omega), h2]; exact fi_eq (by decide)
theorem jn_out {b : Bd} {act f1 f2 s : Int} (ha : act = 0 ∨ act = 1) (hs : ¬ (-2 ≤ s ∧ s ≤ 2)) : jn b act f1 f2 s = f00 := by
  unfold jn
  rw [if_neg (by omega), if_neg (by omega), if_neg hs]
theorem isT_00 : isT f00.1 f00.2 = 1 := by
  unfold isT
  rw [if_pos ⟨by show PS.zero.size ≤ 7; rw [PS.zero_sz]; omega, by show PS.one.size ≤ 5; rw [PS.one_sz]; omega⟩]
theorem okJ_add {b : Bd} {act f1 f2 : Int} (ha : act = 0 ∨ act = 1) : okJ (jn b act f1 f2) ↔ ∀ s : Int, -2 ≤ s → s < 3 → isT (jn b act f1 f2 s).1 (jn b act f1 f2 s).2 = 1 := by
  refine ⟨fun h s h0 h1 => (h s (by omega) (by omega)).1, fun h s h0 h1 => ?_⟩
  by_cases c : -2 ≤ s ∧ s ≤ 2
  · exact ⟨h s c.1 (by omega), fun q => absurd q (by omega)⟩
  · rw [jn_out ha c]; exact ⟨isT_00, fun _ => rfl⟩
theorem p_addTerms (l : Launch) (G : Gl) (Λ : Lay) (sz : Nat) (μ : Mem) {g : Nat} {π : Nat → PS} {b : Bd} {act f1 f2 fac : Int} (hG : GK Λ g) (hA : AB Λ μ π) (hb : BA μ (g + 1) b) (hI : INV G Λ) (hgd : b.good) (h1 : 0 ≤ f1 ∧ f1 ≤ 2) (h2 : 0 ≤ f2 ∧ f2 ≤ 2) (hfac : (act = 0 ∧ fac = 1) ∨ (act = 1 ∧ fac = 100)) : Sp l G yX11_addTerms cX11_addTerms 5 (some FieldType.boolean) 5 [.ref g, iv f1, iv f2, iv fac] Λ sz μ (pI (fun z μ' => z = bz (okJ (jn b act f1 f2)) ∧ ∃ π', Chg Λ (fun c => (g + 350 < c ∧ c < g + 366) ∨ (g + 375 < c ∧ c < g + 401) ∨ (g + 48 < c ∧ c < g + 65)) μ μ' π π' ∧ (okJ (jn b act f1 f2) → ∀ s : Int, -2 ≤ s → s ≤ 2 → s < 5 → π' ((g + 376 + 5 * (s + 2).toNat) + 1) = ((jn b act f1 f2) s).1 ∧ π' ((g + 376 + 5 * (s + 2).toNat) + 3) = ((jn b act f1 f2) s).2))) := by
  refine Sp.intro (by decide) (Nat.le_of_ble_eq_true rfl) (fun x hx hBD => ?_)
  refine v_lv [(0, .ref g), (1, iv f1), (2, iv f2), (3, iv fac)] rfl ?_
  have hGG := hG
  obtain ⟨hG0, ⟨kB, kH, kB2, kH2⟩, ⟨kSh, kRs⟩, ⟨kK, kSp, kP, kQ, kRe, kRd, kW⟩, ⟨kGi, kSe, kTo, kAn⟩, kS4, kR5, kOut⟩ := hG
  have hG := hGG
  have hch0 : Chg Λ (fun c => (g + 350 < c ∧ c < g + 366) ∨ (g + 375 < c ∧ c < g + 401) ∨ (g + 48 < c ∧ c < g + 65)) μ μ π π := Chg.rf hA
  have L4 : ∀ (nf : Nat) (i : Int) (m : Mem) (πk : Nat → PS), (3 - i < (nf : Int)) → (Chg Λ (fun c => (g + 350 < c ∧ c < g + 366) ∨ (g + 375 < c ∧ c < g + 401) ∨ (g + 48 < c ∧ c < g + 65)) μ m π πk) → (-2 ≤ i ∧ i ≤ 3) → (∀ s : Int, -2 ≤ s → s ≤ 2 → s < i → πk ((g + 376 + 5 * (s + 2).toNat) + 1) = ((jn b act f1 f2) s).1 ∧ πk ((g + 376 + 5 * (s + 2).toNat) + 3) = ((jn b act f1 f2) s).2) → (∀ s : Int, -2 ≤ s → s < i → isT (jn b act f1 f2 s).1 (jn b act f1 f2 s).2 = 1) → V G x (0, 0) Λ sz m 4 [(4, iv i), (0, .ref g), (1, iv f1), (2, iv f2), (3, iv fac)] [] := by
    intro nf
    induction nf with
    | zero => intro i m πk hm hchπk hi hR ht; exact absurd hm (by omega)
    | succ nf ih =>
      intro i m πk hm hchπk hi hR ht
      have hAπk := hchπk.1
      have hbm := hb.oth2 kB hchπk
      refine v_iload hx DX11_addTerms_4 0 rfl ?_
      refine v_push hx DX11_addTerms_6 ?_
      refine v_icmp_gt hx DX11_addTerms_7 (by omega) (by decide) (fun c7 => ?_) (fun c7 => ?_)
      · skip
        refine v_push hx DX11_addTerms_86 ?_
        exact v_rz hx hBD (by omega) DX11_addTerms_87 (⟨(bz_pos ((okJ_add (by omega)).mpr (fun s h0 h1 => ht s h0 (by omega)))).symm, πk, hchπk, fun _ s h0 h1 h2 => hR s h0 h1 (by omega)⟩)
      · skip
        have kRi : fracK Λ (g + 376 + 5 * (i + 2).toNat) := kR5 (i + 2).toNat (by omega)
        have t1 := hgd.tm (t := 5 * f1 + i + 2) (by omega)
        have t2 := hgd.tm (t := 5 * f2 + i + 2) (by omega)
        have z1 := PS.size_le (b.num_lt (5 * f1 + i + 2))
        have z2 := PS.size_le (b.den_lt (5 * f1 + i + 2))
        have z3 := PS.size_le (b.num_lt (5 * f2 + i + 2))
        have z4 := PS.size_le (b.den_lt (5 * f2 + i + 2))
        refine v_aload hx DX11_addTerms_10 1 rfl ?_
        refine v_get hx DX11_addTerms_11 FLRX11_12 hG.1 (v := .ref (g + 1)) rfl ?_
        refine v_iload hx DX11_addTerms_14 2 rfl ?_
        refine v_iload hx DX11_addTerms_15 0 rfl ?_
        refine v_cSp hx DX11_addTerms_17 CSRX11_113 [iv f1, iv i] (c_termOf l G Λ sz m (by omega) (by omega)) rfl rfl (Nat.le_of_ble_eq_true rfl) (by decide) ⟨Nat.le_refl _, Nat.le_refl _⟩ ?_
        refine v_top (z' := (5 * f1 + i + 2)) (if1 ⟨by omega, by omega, by omega, by omega⟩) ?_
        refine v_aload hx DX11_addTerms_20 1 rfl ?_
        refine v_get hx DX11_addTerms_21 FLRX11_95 hG.1 (v := .ref (g + 351)) rfl ?_
        refine v_cVv hx DX11_addTerms_24 CVRX11_124 [iv (5 * f1 + i + 2), .ref (g + 351)] (b_load (t := 5 * f1 + i + 2) l G Λ sz m hAπk kB (hb.oth2 kB hchπk) kGi (by omega)) kB.1 rfl rfl (Nat.le_of_ble_eq_true rfl) (by decide) ⟨Nat.le_refl _, Nat.le_refl _⟩ (fun μ3 hμ3 => ?_)
        obtain ⟨π3, hc3, he3_0, he3_1⟩ := hμ3
        have hA3 := hc3.1
        have hch3 := hchπk.trans (hc3.mono (fun c hc => by first | omega | (dsimp only at hc ⊢; omega)))
        refine v_aload hx DX11_addTerms_27 1 rfl ?_
        refine v_get hx DX11_addTerms_28 FLRX11_12 hG.1 (v := .ref (g + 1)) rfl ?_
        refine v_iload hx DX11_addTerms_31 3 rfl ?_
        refine v_iload hx DX11_addTerms_32 0 rfl ?_
        refine v_cSp hx DX11_addTerms_34 CSRX11_113 [iv f2, iv i] (c_termOf l G Λ sz μ3 (by omega) (by omega)) rfl rfl (Nat.le_of_ble_eq_true rfl) (by decide) ⟨Nat.le_refl _, Nat.le_refl _⟩ ?_
        refine v_top (z' := (5 * f2 + i + 2)) (if1 ⟨by omega, by omega, by omega, by omega⟩) ?_
        refine v_aload hx DX11_addTerms_37 1 rfl ?_
        refine v_get hx DX11_addTerms_38 FLRX11_99 hG.1 (v := .ref (g + 356)) rfl ?_
        refine v_cVv hx DX11_addTerms_41 CVRX11_124 [iv (5 * f2 + i + 2), .ref (g + 356)] (b_load (t := 5 * f2 + i + 2) l G Λ sz μ3 hA3 kB (hb.oth2 kB hch3) kSe (by omega)) kB.1 rfl rfl (Nat.le_of_ble_eq_true rfl) (by decide) ⟨Nat.le_refl _, Nat.le_refl _⟩ (fun μ6 hμ6 => ?_)
        obtain ⟨π6, hc6, he6_0, he6_1⟩ := hμ6
        have hA6 := hc6.1
        have hch6 := hch3.trans (hc6.mono (fun c hc => by first | omega | (dsimp only at hc ⊢; omega)))
        have v6_0 : π6 (g + 351 + 1) = b.num (5 * f1 + i + 2) := (hc6.2.1 (g + 351 + 1) (by first | omega | (dsimp only; omega))).trans he3_0
        have v6_1 : π6 (g + 351 + 3) = b.den (5 * f1 + i + 2) := (hc6.2.1 (g + 351 + 3) (by first | omega | (dsimp only; omega))).trans he3_1
        refine v_aload hx DX11_addTerms_44 1 rfl ?_
        refine v_get hx DX11_addTerms_45 FLRX11_42 hG.1 (v := .ref (g + 48)) rfl ?_
        refine v_aload hx DX11_addTerms_48 1 rfl ?_
        refine v_iload hx DX11_addTerms_49 0 rfl ?_
        refine v_cVr hx DX11_addTerms_51 CVRX11_223 [iv i] (p_result (i := i) l G Λ sz μ6 hG (by omega)) hG.1 rfl rfl (Nat.le_of_ble_eq_true rfl) (by decide) ⟨Nat.le_refl _, Nat.le_refl _⟩ (fun z8 μ7 hμ7 => ?_)
        obtain ⟨ea, em⟩ := hμ7
        rw [ea, em]
        refine v_aload hx DX11_addTerms_54 1 rfl ?_
        refine v_get hx DX11_addTerms_55 FLRX11_95 hG.1 (v := .ref (g + 351)) rfl ?_
        refine v_aload hx DX11_addTerms_58 1 rfl ?_
        refine v_get hx DX11_addTerms_59 FLRX11_99 hG.1 (v := .ref (g + 356)) rfl ?_
        refine v_iload hx DX11_addTerms_62 4 rfl ?_
        refine v_cVv hx DX11_addTerms_63 CVRX11_369 [.ref (g + 376 + 5 * (i + 2).toNat), .ref (g + 351), .ref (g + 356), iv fac] (q_sum (f := fac) l G Λ sz μ6 hA6 hI kK kRi kGi kSe (by omega) (by omega) (by omega) (by omega) (by omega) (by omega) (by rw [v6_0, he6_1]; omega) (by rw [he6_0, v6_1]; omega) (by rw [v6_1, he6_1]; omega) (by rw [v6_1, he6_1]; exact PS.fmul_ne t1.1.2.1 t2.1.2.1 t1.1.2.2.1 t2.1.2.2.1)) kK.1 rfl rfl (Nat.le_of_ble_eq_true rfl) (by decide) ⟨Nat.le_refl _, Nat.le_refl _⟩ (fun μ9 hμ9 => ?_)
        obtain ⟨π9, hc9, he9_0, he9_1⟩ := hμ9
        have hA9 := hc9.1
        have hch9 := hch6.trans (hc9.mono (fun c hc => by first | omega | (dsimp only at hc ⊢; omega)))
        have v9_0 : π9 (g + 351 + 1) = b.num (5 * f1 + i + 2) := (hc9.2.1 (g + 351 + 1) (by first | omega | (dsimp only; omega))).trans v6_0
        have v9_1 : π9 (g + 351 + 3) = b.den (5 * f1 + i + 2) := (hc9.2.1 (g + 351 + 3) (by first | omega | (dsimp only; omega))).trans v6_1
        have v9_2 : π9 (g + 356 + 1) = b.num (5 * f2 + i + 2) := (hc9.2.1 (g + 356 + 1) (by first | omega | (dsimp only; omega))).trans he6_0
        have v9_3 : π9 (g + 356 + 3) = b.den (5 * f2 + i + 2) := (hc9.2.1 (g + 356 + 3) (by first | omega | (dsimp only; omega))).trans he6_1
        have g9_0 : π9 ((g + 376 + 5 * (i + 2).toNat) + 1) = (jn b act f1 f2 i).1 := he9_0.trans (by rw [v6_0, v6_1, he6_0, he6_1, jn_add hfac (by omega), PS.am0]; rfl)
        have g9_1 : π9 ((g + 376 + 5 * (i + 2).toNat) + 3) = (jn b act f1 f2 i).2 := he9_1.trans (by rw [v6_0, v6_1, he6_0, he6_1, jn_add hfac (by omega), PS.am0]; rfl)
        have itr := isT_rng (jn b act f1 f2 i).1 (jn b act f1 f2 i).2
        refine v_aload hx DX11_addTerms_66 1 rfl ?_
        refine v_iload hx DX11_addTerms_67 0 rfl ?_
        refine v_cVr hx DX11_addTerms_69 CVRX11_223 [iv i] (p_result (i := i) l G Λ sz μ9 hG (by omega)) hG.1 rfl rfl (Nat.le_of_ble_eq_true rfl) (by decide) ⟨Nat.le_refl _, Nat.le_refl _⟩ (fun z11 μ10 hμ10 => ?_)
        obtain ⟨ea, em⟩ := hμ10
        rw [ea, em]
        refine v_cVp hx DX11_addTerms_72 CVRX11_231 [] (q_isTerm l G Λ sz μ9 kRi (AB.get (A := (jn b act f1 f2 i).1) hA9 kRi.2.1 g9_0) (AB.get (A := (jn b act f1 f2 i).2) hA9 kRi.2.2 g9_1)) kRi.1 rfl rfl (Nat.le_of_ble_eq_true rfl) (by decide) ⟨Nat.le_refl _, Nat.le_refl _⟩ ?_
        refine v_if_ne hx DX11_addTerms_75 (by omega) (fun c75 => ?_) (fun c75 => ?_)
        · skip
          have fr : ∀ a : Nat, (g + 375 < a ∧ a < g + 376 + 5 * (i + 2).toNat) → π9 a = πk a := fun a ha => ((hc9.2.1 a (by first | omega | (dsimp only; omega))).trans ((hc6.2.1 a (by first | omega | (dsimp only; omega))).trans (hc3.2.1 a (by first | omega | (dsimp only; omega)))))
          refine v_iinc hx DX11_addTerms_80 0 rfl [(4, iv (i + 1)), (0, .ref g), (1, iv f1), (2, iv f2), (3, iv fac)] rfl (by decide) ?_
          refine v_goto hx DX11_addTerms_83 ?_
          exact v_sub [0, 1, 2, 3, 4] _ rfl (ih (i + 1) μ9 π9 (by omega) hch9 (by omega) (fun s h0 h1 h2 => Classical.byCases (fun q : s = i => q ▸ ⟨g9_0, g9_1⟩) (fun q => ⟨(fr _ (by omega)).trans (hR s h0 h1 (by omega)).1, (fr _ (by omega)).trans (hR s h0 h1 (by omega)).2⟩)) (fun s h0 h1 => Classical.byCases (fun q : s = i => q ▸ (by omega)) (fun q => ht s h0 (by omega))))
        · skip
          refine v_push hx DX11_addTerms_78 ?_
          exact v_rz hx hBD (by omega) DX11_addTerms_79 (⟨(bz_neg (fun q => by have := (okJ_add (by omega)).mp q i (by omega) (by omega); omega)).symm, π9, hch9, fun q => absurd ((okJ_add (by omega)).mp q i (by omega) (by omega)) (by omega)⟩)
  refine v_push hx DX11_addTerms_0 ?_
  refine v_istore hx DX11_addTerms_2 [(4, iv (-2)), (0, .ref g), (1, iv f1), (2, iv f2), (3, iv fac)] rfl (by decide) ?_
  exact v_sub [0, 1, 2, 3, 4] _ rfl (L4 10 (-2) μ π (by omega) hch0 (by omega) (fun s h0 h1 h2 => absurd h2 (by omega)) (fun s h0 h1 => absurd h1 (by omega)))
theorem p_keepTerm (l : Launch) (G : Gl) (Λ : Lay) (sz : Nat) (μ : Mem) {g : Nat} {π : Nat → PS} {b : Bd} {k : Int} {t : Nat} {A : FP2} (hG : GK Λ g) (hA : AB Λ μ π) (hF : fracK Λ t) (ht : g + 350 < t ∧ t + 4 < g + 366) (hk : -4 ≤ k ∧ k ≤ 4) (h1 : π (t + 1) = A.1) (h3 : π (t + 3) = A.2) (hAf : A.1.fin) : Sp l G yX11_keepTerm cX11_keepTerm 3 (some FieldType.boolean) 4 [.ref g, iv k, .ref t] Λ sz μ (pI (fun z μ' => z = (if -2 ≤ k ∧ k ≤ 2 then isT A.1 A.2 else bz (A.1 = PS.zero)) ∧ ∃ π', Chg Λ (fun c => -2 ≤ k ∧ k ≤ 2 ∧ (c = (g + 376 + 5 * (k + 2).toNat) + 1 ∨ c = (g + 376 + 5 * (k + 2).toNat) + 3)) μ μ' π π' ∧ (-2 ≤ k ∧ k ≤ 2 → π' ((g + 376 + 5 * (k + 2).toNat) + 1) = A.1 ∧ π' ((g + 376 + 5 * (k + 2).toNat) + 3) = A.2))) := by
  refine Sp.intro (by decide) (Nat.le_of_ble_eq_true rfl) (fun x hx hBD => ?_)
  refine v_lv [(0, .ref g), (1, iv k), (2, .ref t)] rfl ?_
  have hGG := hG
  obtain ⟨hG0, ⟨kB, kH, kB2, kH2⟩, ⟨kSh, kRs⟩, ⟨kK, kSp, kP, kQ, kRe, kRd, kW⟩, ⟨kGi, kSe, kTo, kAn⟩, kS4, kR5, kOut⟩ := hG
  have hG := hGG
  have itr := isT_rng A.1 A.2
  have az := PS.size_le (hA _ hF.2.1).1.1
  rw [h1] at az
  have hch0 : Chg Λ (fun c => -2 ≤ k ∧ k ≤ 2 ∧ (c = (g + 376 + 5 * (k + 2).toNat) + 1 ∨ c = (g + 376 + 5 * (k + 2).toNat) + 3)) μ μ π π := Chg.rf hA
  refine v_iload hx DX11_keepTerm_0 1 rfl ?_
  refine v_push hx DX11_keepTerm_1 ?_
  refine v_push hx DX11_keepTerm_3 ?_
  refine v_cSp hx DX11_keepTerm_4 CSRX11_117 [iv k, iv (-2), iv 2] (c_within l G Λ sz μ (by omega) (by omega) (by omega)) rfl rfl (Nat.le_of_ble_eq_true rfl) (by decide) ⟨Nat.le_refl _, Nat.le_refl _⟩ ?_
  have br4 := bz_rng ((-2) ≤ k ∧ k ≤ 2)
  refine v_if_ne hx DX11_keepTerm_7 (by omega) (fun c7 => ?_) (fun c7 => ?_)
  · skip
    have d7 := bzt c7
    have kRk : fracK Λ (g + 376 + 5 * (k + 2).toNat) := kR5 (k + 2).toNat (by omega)
    refine v_aload hx DX11_keepTerm_26 0 rfl ?_
    refine v_iload hx DX11_keepTerm_27 1 rfl ?_
    refine v_cVr hx DX11_keepTerm_28 CVRX11_223 [iv k] (p_result (i := k) l G Λ sz μ hG (by omega)) hG.1 rfl rfl (Nat.le_of_ble_eq_true rfl) (by decide) ⟨Nat.le_refl _, Nat.le_refl _⟩ (fun z4 μ3 hμ3 => ?_)
    obtain ⟨ea, em⟩ := hμ3
    rw [ea, em]
    refine v_aload hx DX11_keepTerm_31 2 rfl ?_
    refine v_cVv hx DX11_keepTerm_32 CVRX11_391 [.ref t] (q_fbecome l G Λ sz μ hA kRk hF (by omega)) kRk.1 rfl rfl (Nat.le_of_ble_eq_true rfl) (by decide) ⟨Nat.le_refl _, Nat.le_refl _⟩ (fun μ5 hμ5 => ?_)
    obtain ⟨π5, hc5, he5_0, he5_1⟩ := hμ5
    have hA5 := hc5.1
    have hch5 := hch0.trans (hc5.mono (fun c hc => by first | omega | (dsimp only at hc ⊢; omega)))
    have v5_0 : π5 (t + 1) = A.1 := (hc5.2.1 (t + 1) (by first | omega | (dsimp only; omega))).trans h1
    have v5_1 : π5 (t + 3) = A.2 := (hc5.2.1 (t + 3) (by first | omega | (dsimp only; omega))).trans h3
    have g5_0 : π5 ((g + 376 + 5 * (k + 2).toNat) + 1) = A.1 := he5_0.trans (by rw [h1])
    have g5_1 : π5 ((g + 376 + 5 * (k + 2).toNat) + 3) = A.2 := he5_1.trans (by rw [h3])
    refine v_aload hx DX11_keepTerm_35 2 rfl ?_
    refine v_cVp hx DX11_keepTerm_36 CVRX11_231 [] (q_isTerm l G Λ sz μ5 hF (AB.get (A := A.1) hA5 hF.2.1 v5_0) (AB.get (A := A.2) hA5 hF.2.2 v5_1)) hF.1 rfl rfl (Nat.le_of_ble_eq_true rfl) (by decide) ⟨Nat.le_refl _, Nat.le_refl _⟩ ?_
    exact v_rz hx hBD (by omega) DX11_keepTerm_39 (⟨by rw [if_pos (by omega)], π5, hch5, fun _ => ⟨g5_0, g5_1⟩⟩)
  · skip
    have d7 := bzf c7
    refine v_aload hx DX11_keepTerm_10 2 rfl ?_
    refine v_get hx DX11_keepTerm_11 FLRX11_238 hF.1 (v := .ref (t + 1)) rfl ?_
    refine v_get hx DX11_keepTerm_14 FLRX11_299 hF.2.1.1 (fv_i rfl ((AB.get (A := A.1) hA hF.2.1 h1).2) : _ = iv ((A.1.size : Int) - 1)) ?_
    refine v_if_ge hx DX11_keepTerm_17 (by omega) (fun c17 => ?_) (fun c17 => ?_)
    · skip
      refine v_push hx DX11_keepTerm_24 ?_
      exact v_rz hx hBD (by omega) DX11_keepTerm_25 (⟨by rw [if_neg (by omega)]; exact (bz_neg (fun q => by have t := PS.zero_sz; rw [← q] at t; omega)).symm, π, hch0, fun q => absurd q (by omega)⟩)
    · skip
      refine v_push hx DX11_keepTerm_20 ?_
      refine v_goto hx DX11_keepTerm_21 ?_
      exact v_rz hx hBD (by omega) DX11_keepTerm_25 (⟨by rw [if_neg (by omega)]; exact (bz_pos ((PS.fsz0 hAf).mp (by omega))).symm, π, hch0, fun q => absurd q (by omega)⟩)
