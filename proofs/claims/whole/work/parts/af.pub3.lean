/-! ===== the class: read ===== -/
theorem rd_all {T : List Int} (hT : T.length ≤ 90) (dg : Int) : FIN (fltA T) (rdM T) (cmR T dg) :=
  rd_main hT 92 92 0 0 0 0 f00 (-1) (fun _ => 0) (fun _ => 0) (fun _ => f00) (fun _ => f00) 0 [] [] 0 dg (by omega) (by omega) (by omega) (by omega)
    ⟨Or.inl ⟨rfl, rfl, rfl⟩, rfl, by omega, rfl, fun j _ _ => ⟨Or.inl rfl, Or.inl rfl⟩, True.intro, by simp⟩ ⟨fun q => absurd rfl q, fun _ => ⟨fun _ => rfl, fun q => absurd rfl q⟩⟩
theorem PA.keep {μ μ' : Mem} {t : Nat} {p : PS} (h : PA μ t p) (e1 : μ'.1 t = μ.1 t) (e2 : μ'.1 (t + 1) = μ.1 (t + 1)) : PA μ' t p := by
  unfold PA CA at h ⊢
  rw [e1, e2]; exact h
theorem red_f {T : List Int} (h90 : T.length ≤ 90) {dg : Int} (h : (cmR T dg).1 ≠ 0) : (cmR T dg).1 = redE T ∧ redE T ≠ 0 := by
  have F := rd_all h90 dg
  have r := flt_rng T 92 0 0 0 (by omega)
  have r : -1 ≤ fltA T := r
  by_cases c : fltA T = -1
  · exact absurd (F.2 c).1 h
  · have e := F.1 c
    have e2 := redE_f (T := T) (by omega)
    exact ⟨e.trans e2.symm, by rw [e2]; omega⟩
theorem red_w {T : List Int} (h90 : T.length ≤ 90) {dg : Int} (h : (cmR T dg).1 = 0) : wlC (cmR T dg).2 ∧ (cmR T dg).2.length ≤ 90 ∧ (evC (cmR T dg).2).1 = redE T ∧ ((evC (cmR T dg).2).1 = 0 → (evC (cmR T dg).2).2 = [(rdM T).2]) := by
  have F := rd_all h90 dg
  have r := flt_rng T 92 0 0 0 (by omega)
  have r : -1 ≤ fltA T := r
  by_cases c : fltA T = -1
  · obtain ⟨f1, f2, f3, f4, f5⟩ := F.2 c
    exact ⟨f2, f3, by rw [redE_w c]; exact f4, fun q => f5 (by rw [← f4]; exact q)⟩
  · have e := F.1 c
    exact absurd e (by omega)
theorem KS.rd2 {Λ : Lay} {g : Nat} {μ0 μ μ' : Mem} {b : Bd} {h : Hs} {im : Option (Bd × Hs)} {T : List Int} {S : Int → Sht} {X : Nat → Prop} {w : Int → Int} {π π' : Nat → PS} (hK : GK Λ g) (c : KS Λ μ0 μ g b h im T S) (cx : ChgX Λ X (g + 263) w μ μ' π π') (wo : ∀ j : Int, j ≠ 10 → w j = μ.1 (g + 263) j) : KS Λ μ0 μ' g b h im T S := by
  have kR := hK.2.2.2.1.2.2.2.2.2.1
  have t := c.2.2.2.2.1
  have d := c.2.2.2.2.2.1
  refine c.rdr hK (cx.fc (X := fun a => g + 263 ≤ a ∧ a ≤ g + 266) ⟨by omega, by omega⟩) ⟨t.1, ?_, fun i hi => ?_, t.2.2.2⟩ ?_
  · rw [cx.2.2.2.1, wo 2 (by decide)]; exact t.2.1
  · rw [cx.2.2.1.1 _ kR.off.2.1 (by omega)]; exact t.2.2.1 i hi
  · rw [cx.2.2.2.1, wo 8 (by decide)]; exact d
theorem redS_no {Λ : Lay} {g : Nat} {μ0 μ : Mem} {b : Bd} {h : Hs} {im : Option (Bd × Hs)} {T : List Int} {S : Int → Sht} {f i : Int} (c : KS Λ μ0 μ g b h im [] S) (t : isTO f i) (e : redE T ≠ 0) : KS Λ μ0 μ g (redB b T f i) (redH b h T f i) im (redT T f i) S := by
  unfold redB redH redT
  rw [if_neg (fun q => e q.2), if_neg (fun q => e q.2), if_pos t]; exact c
theorem p_read (l : Launch) (G : Gl) (Λ : Lay) (sz : Nat) (μ : Mem) {g : Nat} {μ0 : Mem} {b : Bd} {h : Hs} {im : Option (Bd × Hs)} {T : List Int} {S : Int → Sht} {f i : Int} (hG : GK Λ g) (hC : KS Λ μ0 μ g b h im T S) (hI : INV G Λ) (hgd : b.good) (rf : inR f) (ri : inR i) : Sp l G yX11_read cX11_read 5 (some FieldType.int) 7 [.ref g, iv f, iv i] Λ sz μ (pI (fun z μ' => z = redA T f i ∧ KS Λ μ μ' g (redB b T f i) (redH b h T f i) im (redT T f i) S)) := by
  refine Sp.intro (by decide) (Nat.le_of_ble_eq_true rfl) (fun x hx hBD => ?_)
  refine v_lv [(0, .ref g), (1, iv f), (2, iv i)] rfl ?_
  have hGG := hG
  obtain ⟨hG0, ⟨kB, kH, kB2, kH2⟩, ⟨kSh, kRs⟩, ⟨kK, kSp, kP, kQ, kRe, kRd, kW⟩, ⟨kGi, kSe, kTo, kAn⟩, kS4, kR5, kOut⟩ := hG
  have hG := hGG
  have hCs := hC.start
  obtain ⟨⟨π, hA⟩, hb, hh, him, hT, hdg, hSh, hWr, hout⟩ := hC
  have bok := hb.1
  have h90 := hT.1
  have flr := flt_rng T 92 0 0 0 (by omega)
  have flr : -1 ≤ fltA T := flr
  have flu := flt_up T 92 0 0 0 (by omega) (by omega)
  have flu : fltA T ≤ (T.length : Int) := flu
  have rer : -110 ≤ redE T ∧ redE T ≤ 0 := by
    unfold redE
    have := run_rng T 92 0 0 0 0 f00 (-1) (fun _ => 0) (fun _ => 0) (fun _ => f00) (fun _ => f00) (by omega)
    have : -3 ≤ (rdM T).1 ∧ (rdM T).1 ≤ 0 := this
    split <;> omega
  by_cases hto : isTO f i
  · skip
    have hn := hto.n
    refine v_iload hx DX11_read_0 1 rfl ?_
    refine v_iload hx DX11_read_1 2 rfl ?_
    refine v_cSp hx DX11_read_2 CSRX11_113 [iv f, iv i] (c_termOf l G Λ sz μ (by omega) (by omega)) rfl rfl (Nat.le_of_ble_eq_true rfl) (by decide) ⟨Nat.le_refl _, Nat.le_refl _⟩ ?_
    refine v_top (z' := (5 * f + i + 2)) (if1 hto) ?_
    refine v_istore hx DX11_read_5 [(3, iv (5 * f + i + 2)), (0, .ref g), (1, iv f), (2, iv i)] rfl (by decide) ?_
    refine v_iload hx DX11_read_6 0 rfl ?_
    refine v_if_ge hx DX11_read_7 (by omega) (fun c7 => ?_) (fun c7 => ?_)
    · skip
      refine v_aload hx DX11_read_12 1 rfl ?_
      refine v_get hx DX11_read_13 FLRX11_77 hG.1 (v := .ref (g + 263)) rfl ?_
      refine v_cVi hx DX11_read_16 CVRX11_171 [] (d_compile (T := T) (dg0 := μ.1 (g + 263) 8) l G Λ sz μ kRd hT ⟨rfl, hdg⟩) kRd.1 rfl rfl (Nat.le_of_ble_eq_true rfl) (by decide) ⟨Nat.le_refl _, Nat.le_refl _⟩ (fun z4 μ3 hμ3 => ?_)
      obtain ⟨ez, cd, dg1, f1⟩ := hμ3
      subst ez
      have k1 : KS Λ μ μ3 g b h im T S := hCs.rdr hGG (f1.fc hA (fun a q => by simp at q; rcases q with rfl | rfl | rfl; (· exact kRd.off.1); (· exact kRd.off.2.2.1); (· exact kRd.off.2.2.2)) (fun a q => by simp at q; omega)) (hT.frN f1 (by simp) (by simp)) dg1
      have cmr : -110 ≤ (cmR T (μ.1 (g + 263) 8)).1 ∧ (cmR T (μ.1 (g + 263) 8)).1 ≤ 0 := by
        by_cases q : (cmR T (μ.1 (g + 263) 8)).1 = 0
        · omega
        · have := red_f h90 q; omega
      refine v_istore hx DX11_read_19 [(4, iv ((cmR T (μ.1 (g + 263) 8)).1)), (3, iv (5 * f + i + 2)), (0, .ref g), (1, iv f), (2, iv i)] rfl (by decide) ?_
      refine v_iload hx DX11_read_21 0 rfl ?_
      refine v_if_ne hx DX11_read_23 (by omega) (fun c23 => ?_) (fun c23 => ?_)
      · skip
        refine v_aload hx DX11_read_39 2 rfl ?_
        refine v_get hx DX11_read_40 FLRX11_77 hG.1 (v := .ref (g + 263)) rfl ?_
        refine v_cVv hx DX11_read_43 CVRX11_179 [] (d_empty l G Λ sz μ3 kRd) kRd.1 rfl rfl (Nat.le_of_ble_eq_true rfl) (by decide) ⟨Nat.le_refl _, Nat.le_refl _⟩ (fun μ5 hμ5 => ?_)
        obtain ⟨t3, f3⟩ := hμ5
        obtain ⟨π3, hA3⟩ := k1.1
        have k3 : KS Λ μ μ5 g b h im [] S := k1.rdr hGG (f3.fc hA3 (fun a q => by simp at q; rw [q]; exact kRd.off.1) (fun a q => by simp at q; omega)) t3 (by rw [f3.2.1 8 (by simp)]; exact k1.2.2.2.2.2.1)
        refine v_iload hx DX11_read_46 0 rfl ?_
        refine v_if_eq hx DX11_read_48 (by omega) (fun c48 => ?_) (fun c48 => ?_)
        · exact absurd c48 (by omega)
        · skip
          refine v_iload hx DX11_read_51 0 rfl ?_
          exact v_ri hx hBD DX11_read_53 (⟨by unfold redA; rw [if1 hto, if_pos (red_f h90 (by omega)).2]; exact (red_f h90 (by omega)).1, redS_no k3 hto (red_f h90 (by omega)).2⟩)
      · skip
        obtain ⟨π1, hA1⟩ := k1.1
        have rw := red_w (dg := μ.1 (g + 263) 8) h90 (by omega)
        refine v_aload hx DX11_read_26 2 rfl ?_
        refine v_get hx DX11_read_27 FLRX11_77 hG.1 (v := .ref (g + 263)) rfl ?_
        refine v_aload hx DX11_read_30 2 rfl ?_
        refine v_get hx DX11_read_31 FLRX11_95 hG.1 (v := .ref (g + 351)) rfl ?_
        refine v_cVi hx DX11_read_34 CVRX11_175 [.ref (g + 351)] (d_evaluate (r := g + 263) (κ := g + 48) (o := g + 351) (C := (cmR T (μ.1 (g + 263) 8)).2) (v := (rdM T).2) l G Λ sz μ3 hA1 hI kK kRd (by omega) kGi (by omega) (cd (by omega)) rw.1 rw.2.1 rw.2.2.2) kRd.1 rfl rfl (Nat.le_of_ble_eq_true rfl) (by decide) ⟨Nat.le_refl _, Nat.le_refl _⟩ (fun z8 μ7 hμ7 => ?_)
        obtain ⟨ez2, π2, w2, cx, wo, fx⟩ := hμ7
        rw [rw.2.2.1] at ez2
        subst ez2
        have k2 : KS Λ μ μ7 g b h im T S := k1.rd2 hGG cx wo
        refine v_istore hx DX11_read_37 [(4, iv (redE T)), (3, iv (5 * f + i + 2)), (0, .ref g), (1, iv f), (2, iv i)] rfl (by decide) ?_
        refine v_aload hx DX11_read_39 2 rfl ?_
        refine v_get hx DX11_read_40 FLRX11_77 hG.1 (v := .ref (g + 263)) rfl ?_
        refine v_cVv hx DX11_read_43 CVRX11_179 [] (d_empty l G Λ sz μ7 kRd) kRd.1 rfl rfl (Nat.le_of_ble_eq_true rfl) (by decide) ⟨Nat.le_refl _, Nat.le_refl _⟩ (fun μ9 hμ9 => ?_)
        obtain ⟨t3, f3⟩ := hμ9
        obtain ⟨π3, hA3⟩ := k2.1
        have k3 : KS Λ μ μ9 g b h im [] S := k2.rdr hGG (f3.fc hA3 (fun a q => by simp at q; rw [q]; exact kRd.off.1) (fun a q => by simp at q; omega)) t3 (by rw [f3.2.1 8 (by simp)]; exact k2.2.2.2.2.2.1)
        refine v_iload hx DX11_read_46 0 rfl ?_
        refine v_if_eq hx DX11_read_48 (by omega) (fun c48 => ?_) (fun c48 => ?_)
        · skip
          have re0 : redE T = 0 := by omega
          have v3 := fx re0
          have fk : FOK (rdM T).2 7 5 := wlC.fok rw.1 (by rw [rw.2.2.1]; exact re0) _ (by rw [rw.2.2.2 (by rw [rw.2.2.1]; exact re0)]; simp)
          have n3 : PA μ9 (g + 351 + 1) (rdM T).2.1 := (cx.1.get kGi.2.1 v3.1).keep (f3.1 _ (by omega) (by simp)) (f3.1 _ (by omega) (by simp))
          have d3 : PA μ9 (g + 351 + 3) (rdM T).2.2 := (cx.1.get kGi.2.2 v3.2).keep (f3.1 _ (by omega) (by simp)) (f3.1 _ (by omega) (by simp))
          refine v_aload hx DX11_read_54 2 rfl ?_
          refine v_get hx DX11_read_55 FLRX11_19 hG.1 (v := .ref (g + 4)) rfl ?_
          refine v_aload hx DX11_read_58 2 rfl ?_
          refine v_get hx DX11_read_59 FLRX11_12 hG.1 (v := .ref (g + 1)) rfl ?_
          refine v_cVv hx DX11_read_62 CVRX11_182 [.ref (g + 1)] (h_push l G Λ sz μ9 kH kB k3.2.2.1 k3.2.1 (by omega)) kH.1 rfl rfl (Nat.le_of_ble_eq_true rfl) (by decide) ⟨Nat.le_refl _, Nat.le_refl _⟩ (fun μ11 hμ11 => ?_)
          obtain ⟨q4, f4⟩ := hμ11
          have k4 := k3.hst hGG q4 f4
          have n4 := n3.keep (f4.1 _ (by omega)) (f4.1 _ (by omega))
          have d4 := d3.keep (f4.1 _ (by omega)) (f4.1 _ (by omega))
          refine v_aload hx DX11_read_65 2 rfl ?_
          refine v_get hx DX11_read_66 FLRX11_12 hG.1 (v := .ref (g + 1)) rfl ?_
          refine v_iload hx DX11_read_69 1 rfl ?_
          refine v_aload hx DX11_read_70 2 rfl ?_
          refine v_get hx DX11_read_71 FLRX11_95 hG.1 (v := .ref (g + 351)) rfl ?_
          refine v_cVv hx DX11_read_74 CVRX11_186 [iv (5 * f + i + 2), .ref (g + 351)] (b_store (t := 5 * f + i + 2) l G Λ sz μ11 kB k4.2.1 kGi n4 d4 (by omega)) kB.1 rfl rfl (Nat.le_of_ble_eq_true rfl) (by decide) ⟨Nat.le_refl _, Nat.le_refl _⟩ (fun μ13 hμ13 => ?_)
          obtain ⟨q5, f5⟩ := hμ13
          have k5 := k4.brd hGG q5 f5
          have n5 := n4.keep (f5.i.1 _ (by omega)) (f5.i.1 _ (by omega))
          have d5 := d4.keep (f5.i.1 _ (by omega)) (f5.i.1 _ (by omega))
          obtain ⟨W0, hW0⟩ := k5.2.2.2.2.2.2.2.1
          refine v_aload hx DX11_read_77 2 rfl ?_
          refine v_get hx DX11_read_78 FLRX11_84 hG.1 (v := .ref (g + 348)) rfl ?_
          refine v_aload hx DX11_read_81 2 rfl ?_
          refine v_get hx DX11_read_82 FLRX11_95 hG.1 (v := .ref (g + 351)) rfl ?_
          refine v_cVv hx DX11_read_85 CVRX11_128 [.ref (g + 351)] (w_frac (T := W0) l G Λ sz μ13 kW hW0 kGi n5 d5 fk.2.1 fk.2.2) kW.1 rfl rfl (Nat.le_of_ble_eq_true rfl) (by decide) ⟨Nat.le_refl _, Nat.le_refl _⟩ (fun μ15 hμ15 => ?_)
          obtain ⟨q6, f6⟩ := hμ15
          have k6 := k5.wri hGG q6 f6
          refine v_aload hx DX11_read_88 2 rfl ?_
          refine v_get hx DX11_read_89 FLRX11_84 hG.1 (v := .ref (g + 348)) rfl ?_
          refine v_get hx DX11_read_92 FLRX11_189 kW.1 (fv_i rfl q6.2.1 : _ = iv ((ftxt (rdM T).2.1 (rdM T).2.2).length : Int)) ?_
          exact v_ri hx hBD DX11_read_95 (⟨by unfold redA; rw [if1 hto, if_neg (by omega)], by unfold redB redH redT; rw [if_pos ⟨hto, re0⟩, if_pos ⟨hto, re0⟩, if_pos hto]; exact k6⟩)
        · skip
          refine v_iload hx DX11_read_51 0 rfl ?_
          exact v_ri hx hBD DX11_read_53 (⟨by unfold redA; rw [if1 hto, if_pos (by omega)], redS_no k3 hto (by omega)⟩)
    · skip
      refine v_push hx DX11_read_10 ?_
      exact v_ri hx hBD DX11_read_11 (absurd c7 (by omega))
  · skip
    refine v_iload hx DX11_read_0 1 rfl ?_
    refine v_iload hx DX11_read_1 2 rfl ?_
    refine v_cSp hx DX11_read_2 CSRX11_113 [iv f, iv i] (c_termOf l G Λ sz μ (by omega) (by omega)) rfl rfl (Nat.le_of_ble_eq_true rfl) (by decide) ⟨Nat.le_refl _, Nat.le_refl _⟩ ?_
    refine v_top (z' := -1) (if0 hto) ?_
    refine v_istore hx DX11_read_5 [(3, iv (-1)), (0, .ref g), (1, iv f), (2, iv i)] rfl (by decide) ?_
    refine v_iload hx DX11_read_6 0 rfl ?_
    refine v_if_ge hx DX11_read_7 (by decide) (fun c7 => ?_) (fun c7 => ?_)
    · exact absurd c7 (by decide)
    · skip
      refine v_push hx DX11_read_10 ?_
      exact v_ri hx hBD DX11_read_11 (⟨by unfold redA; rw [if0 hto], by unfold redB redH redT; rw [if_neg (fun q => hto q.1), if_neg (fun q => hto q.1), if_neg hto]; exact hCs⟩)
