/-! ===== the class: differentiate ===== -/
def dfX (N D W : PS) (c : F) : PS := ((N.der.am (W.mul N) c 0).mul D).am (N.mul D.der) (fi 100) 0
def dfY (N D : PS) : PS := (N.der.mul D).am (N.mul D.der) (fi 100) 0
noncomputable def dfS (n : FP2) (u s : PS) (i : Int) : FP2 := frd ((n.1.mul s).sm (fi (i + 1))) (n.2.mul u)
noncomputable def dfP (kd i : Int) (a n : FP2) (u s : PS) : FP2 :=
  if kd = 2 then frd (((dfY a.1 a.2).mul (dfS n u s i).2).am ((dfS n u s i).1.mul (a.2.mul a.2)) (fi 1) 0) ((a.2.mul a.2).mul (dfS n u s i).2)
  else frd (dfX a.1 a.2 s (fi i)) (a.2.mul a.2)
theorem am_sz {p q : PS} {c : F} {n : Nat} (hp : p.fin) (hq : q.fin) (h1 : p.size ≤ n) (h2 : q.size ≤ n) : (p.am q c 0).size ≤ n := PS.size_le (PS.am_lt (PS.lt_mono (PS.flt hp) h1) (PS.lt_mono (PS.flt hq) h2) (by omega))
theorem der_sz {p : PS} {n : Nat} (hp : p.fin) (h : p.size ≤ n + 1) : p.der.size ≤ n := PS.size_le (PS.der_lt (PS.lt_mono (PS.flt hp) h))
theorem am_fin {p q : PS} {c : F} (hp : p.fin) (hq : q.fin) : (p.am q c 0).fin := ⟨max p.size q.size, PS.am_lt (PS.lt_mono (PS.flt hp) (Nat.le_max_left _ _)) (PS.lt_mono (PS.flt hq) (Nat.le_max_right p.size q.size)) (Nat.le_refl _)⟩
theorem dfY_ok {N D : PS} (hN : N.fin) (hD : D.fin) (h1 : N.size ≤ 7) (h2 : D.size ≤ 5) : (dfY N D).fin ∧ (dfY N D).size ≤ 11 := by
  have hd := der_sz (n := 6) hN (by omega)
  have he := der_sz (n := 4) hD (by omega)
  have a := PS.mul_sz (n := 11) (PS.fin_der hN) hD (by omega)
  have b := PS.mul_sz (n := 11) hN (PS.fin_der hD) (by omega)
  exact ⟨am_fin (PS.fin_mul (PS.fin_der hN) hD) (PS.fin_mul hN (PS.fin_der hD)), am_sz (PS.fin_mul (PS.fin_der hN) hD) (PS.fin_mul hN (PS.fin_der hD)) a b⟩
theorem dfS_ok {n : FP2} {u s : PS} {i : Int} (hN : n.1.fin) (hD : n.2.fin) (hu : u.fin) (hs : s.fin) (h1 : n.1.size ≤ 7) (h2 : n.2.size ≤ 5) (h3 : u.size ≤ 4) (h4 : s.size ≤ 3) (h0 : n.2 ≠ PS.zero) (hu0 : u ≠ PS.zero) : FOK (dfS n u s i) 9 8 := by
  have a := PS.mul_sz (n := 9) hN hs (by omega)
  have b := PS.mul_sz (n := 8) hD hu (by omega)
  exact FOK.rd (PS.fin_sm _ (PS.fin_mul hN hs)) (PS.fin_mul hD hu) (PS.fmul_ne hD hu h0 hu0) (PS.size_le (PS.lt_sm _ (PS.lt_mono (PS.flt (PS.fin_mul hN hs)) a))) b (by omega)
theorem c_differentiate (l : Launch) (G : Gl) (Λ : Lay) (sz : Nat) (μ : Mem) {π : Nat → PS} {p κ σ f n0 o : Nat} {i kd : Int} (hA : AB Λ μ π) (hI : INV G Λ) (hK : kitK Λ κ) (hP : partK Λ p κ σ) (hF : fracK Λ f) (hN : fracK Λ n0) (hO : fracK Λ o) (hord : κ + 16 < p ∧ p + 81 < f ∧ f + 4 < n0 ∧ n0 + 4 < o) (hkd : μ.1 p 13 = kd ∧ 0 ≤ kd ∧ kd ≤ 2) (hi : -2 ≤ i ∧ i ≤ 2) (h1 : (π (f + 1)).size ≤ 7 ∧ (π (f + 3)).size ≤ 5 ∧ (π (n0 + 1)).size ≤ 7 ∧ (π (n0 + 3)).size ≤ 5 ∧ (π (p + 13)).size ≤ 4 ∧ (π (p + 15)).size ≤ 3) (h2 : π (f + 3) ≠ PS.zero ∧ π (n0 + 3) ≠ PS.zero) (h3 : kd = 2 → π (p + 13) ≠ PS.zero) : Sp l G yX4_differentiate cX4_differentiate 5 none 5 [.ref p, iv i, .ref f, .ref n0, .ref o] Λ sz μ (pV (fun μ' => ∃ π', Chg Λ (fun c => c = p + 17 ∨ c = p + 19 ∨ c = p + 23 ∨ c = p + 4 ∨ c = p + 6 ∨ c = o + 1 ∨ c = o + 3 ∨ (κ < c ∧ c < κ + 17)) μ μ' π π' ∧ π' (o + 1) = (dfP kd i (π (f + 1), π (f + 3)) (π (n0 + 1), π (n0 + 3)) (π (p + 13)) (π (p + 15))).1 ∧ π' (o + 3) = (dfP kd i (π (f + 1), π (f + 3)) (π (n0 + 1), π (n0 + 3)) (π (p + 13)) (π (p + 15))).2)) := by
  refine Sp.intro (by decide) (Nat.le_of_ble_eq_true rfl) (fun x hx hBD => ?_)
  refine v_lv [(0, .ref p), (1, iv i), (2, .ref f), (3, .ref n0), (4, .ref o)] rfl ?_
  have hoff := hP.off
  have gN : (π (f + 1)).fin := ⟨_, (hA _ hF.2.1).1.1⟩
  have gD : (π (f + 3)).fin := ⟨_, (hA _ hF.2.2).1.1⟩
  have gn : (π (n0 + 1)).fin := ⟨_, (hA _ hN.2.1).1.1⟩
  have gd : (π (n0 + 3)).fin := ⟨_, (hA _ hN.2.2).1.1⟩
  have gu : (π (p + 13)).fin := ⟨_, (hA _ hP.2.2.2.2.2.1.1).1.1⟩
  have gs : (π (p + 15)).fin := ⟨_, (hA _ hP.2.2.2.2.2.1.2.1).1.1⟩
  have z1 := der_sz (n := 6) gN (by omega)
  have z2 := der_sz (n := 4) gD (by omega)
  have z3 := PS.mul_sz (n := 9) gs gN (by omega)
  have z4 := am_sz (c := fi i) (n := 9) (PS.fin_der gN) (PS.fin_mul gs gN) (by omega) z3
  have z5 := dfY_ok gN gD h1.1 h1.2.1
  have z6 := PS.mul_sz (n := 9) gD gD (by omega)
  have z7 := PS.fmul_ne gD gD h2.1 h2.1
  have z8 := PS.mul_sz (n := 11) gN (PS.fin_der gD) (by omega)
  have hch0 : Chg Λ (fun c => c = p + 17 ∨ c = p + 19 ∨ c = p + 23 ∨ c = p + 4 ∨ c = p + 6 ∨ c = o + 1 ∨ c = o + 3 ∨ (κ < c ∧ c < κ + 17)) μ μ π π := Chg.rf hA
  refine v_aload hx DX4_differentiate_0 0 rfl ?_
  refine v_get hx DX4_differentiate_1 FLRX4_38 hP.1 (v := .ref (p + 17)) rfl ?_
  refine v_aload hx DX4_differentiate_4 2 rfl ?_
  refine v_get hx DX4_differentiate_5 FLRX4_82 hF.1 (v := .ref (f + 1)) rfl ?_
  refine v_cVv hx DX4_differentiate_8 CVRX4_80 [.ref (f + 1)] (s_slope l G Λ sz μ hP.2.2.2.2.2.1.2.2.1 hF.2.1 (by omega) (AB.get (A := π (p + 17)) hA hP.2.2.2.2.2.1.2.2.1 rfl) (AB.get (A := π (f + 1)) hA hF.2.1 rfl)) hP.2.2.2.2.2.1.2.2.1.1 rfl rfl (Nat.le_of_ble_eq_true rfl) (by decide) ⟨Nat.le_refl _, Nat.le_refl _⟩ (fun μ1 hμ1 => ?_)
  obtain ⟨π1, hc1, he1, ho1⟩ := Chg.one (S := fun c => c = p + 17 ∨ c = p + 19 ∨ c = p + 23 ∨ c = p + 4 ∨ c = p + 6 ∨ c = o + 1 ∨ c = o + 3 ∨ (κ < c ∧ c < κ + 17)) (R := PS.der (π (f + 1))) hA hP.2.2.2.2.2.1.2.2.1 (by first | omega | (dsimp only; omega)) hμ1
  have hA1 := hc1.1
  have hch1 := hch0.trans hc1
  have v1_0 : π1 (f + 1) = π (f + 1) := (ho1 (f + 1) (by omega)).trans rfl
  have v1_1 : π1 (f + 3) = π (f + 3) := (ho1 (f + 3) (by omega)).trans rfl
  have v1_2 : π1 (n0 + 1) = π (n0 + 1) := (ho1 (n0 + 1) (by omega)).trans rfl
  have v1_3 : π1 (n0 + 3) = π (n0 + 3) := (ho1 (n0 + 3) (by omega)).trans rfl
  have v1_4 : π1 (p + 15) = π (p + 15) := (ho1 (p + 15) (by omega)).trans rfl
  have v1_5 : π1 (p + 13) = π (p + 13) := (ho1 (p + 13) (by omega)).trans rfl
  refine v_aload hx DX4_differentiate_11 0 rfl ?_
  refine v_get hx DX4_differentiate_12 FLRX4_54 hP.1 (fv_i rfl (by rw [hch1.2.2.1 p hoff]; exact hkd.1) : _ = iv kd) ?_
  refine v_push hx DX4_differentiate_15 ?_
  refine v_icmp_eq hx DX4_differentiate_16 (by omega) (by decide) (fun c16 => ?_) (fun c16 => ?_)
  · skip
    refine v_aload hx DX4_differentiate_52 4 rfl ?_
    refine v_get hx DX4_differentiate_54 FLRX4_82 hO.1 (v := .ref (o + 1)) rfl ?_
    refine v_aload hx DX4_differentiate_57 0 rfl ?_
    refine v_get hx DX4_differentiate_58 FLRX4_38 hP.1 (v := .ref (p + 17)) rfl ?_
    refine v_aload hx DX4_differentiate_61 2 rfl ?_
    refine v_get hx DX4_differentiate_62 FLRX4_99 hF.1 (v := .ref (f + 3)) rfl ?_
    refine v_cVv hx DX4_differentiate_65 CVRX4_85 [.ref (p + 17), .ref (f + 3)] (s_product l G Λ sz μ1 hO.2.1 hP.2.2.2.2.2.1.2.2.1 hF.2.2 (by omega) (by omega) (AB.get (A := π1 (o + 1)) hA1 hO.2.1 rfl) (AB.get (A := PS.der (π (f + 1))) hA1 hP.2.2.2.2.2.1.2.2.1 he1) (AB.get (A := π (f + 3)) hA1 hF.2.2 v1_1) (by omega)) hO.2.1.1 rfl rfl (Nat.le_of_ble_eq_true rfl) (by decide) ⟨Nat.le_refl _, Nat.le_refl _⟩ (fun μ2 hμ2 => ?_)
    obtain ⟨π2, hc2, he2, ho2⟩ := Chg.one (S := fun c => c = p + 17 ∨ c = p + 19 ∨ c = p + 23 ∨ c = p + 4 ∨ c = p + 6 ∨ c = o + 1 ∨ c = o + 3 ∨ (κ < c ∧ c < κ + 17)) (R := PS.mul (PS.der (π (f + 1))) (π (f + 3))) hA1 hO.2.1 (by first | omega | (dsimp only; omega)) hμ2
    have hA2 := hc2.1
    have hch2 := hch1.trans hc2
    have v2_0 : π2 (f + 1) = π (f + 1) := (ho2 (f + 1) (by omega)).trans v1_0
    have v2_1 : π2 (f + 3) = π (f + 3) := (ho2 (f + 3) (by omega)).trans v1_1
    have v2_2 : π2 (n0 + 1) = π (n0 + 1) := (ho2 (n0 + 1) (by omega)).trans v1_2
    have v2_3 : π2 (n0 + 3) = π (n0 + 3) := (ho2 (n0 + 3) (by omega)).trans v1_3
    have v2_4 : π2 (p + 15) = π (p + 15) := (ho2 (p + 15) (by omega)).trans v1_4
    have v2_5 : π2 (p + 13) = π (p + 13) := (ho2 (p + 13) (by omega)).trans v1_5
    have v2_6 : π2 (p + 17) = PS.der (π (f + 1)) := (ho2 (p + 17) (by omega)).trans he1
    refine v_aload hx DX4_differentiate_68 0 rfl ?_
    refine v_get hx DX4_differentiate_69 FLRX4_41 hP.1 (v := .ref (p + 19)) rfl ?_
    refine v_aload hx DX4_differentiate_72 2 rfl ?_
    refine v_get hx DX4_differentiate_73 FLRX4_99 hF.1 (v := .ref (f + 3)) rfl ?_
    refine v_cVv hx DX4_differentiate_76 CVRX4_80 [.ref (f + 3)] (s_slope l G Λ sz μ2 hP.2.2.2.2.2.1.2.2.2.1 hF.2.2 (by omega) (AB.get (A := π2 (p + 19)) hA2 hP.2.2.2.2.2.1.2.2.2.1 rfl) (AB.get (A := π (f + 3)) hA2 hF.2.2 v2_1)) hP.2.2.2.2.2.1.2.2.2.1.1 rfl rfl (Nat.le_of_ble_eq_true rfl) (by decide) ⟨Nat.le_refl _, Nat.le_refl _⟩ (fun μ3 hμ3 => ?_)
    obtain ⟨π3, hc3, he3, ho3⟩ := Chg.one (S := fun c => c = p + 17 ∨ c = p + 19 ∨ c = p + 23 ∨ c = p + 4 ∨ c = p + 6 ∨ c = o + 1 ∨ c = o + 3 ∨ (κ < c ∧ c < κ + 17)) (R := PS.der (π (f + 3))) hA2 hP.2.2.2.2.2.1.2.2.2.1 (by first | omega | (dsimp only; omega)) hμ3
    have hA3 := hc3.1
    have hch3 := hch2.trans hc3
    have v3_0 : π3 (f + 1) = π (f + 1) := (ho3 (f + 1) (by omega)).trans v2_0
    have v3_1 : π3 (f + 3) = π (f + 3) := (ho3 (f + 3) (by omega)).trans v2_1
    have v3_2 : π3 (n0 + 1) = π (n0 + 1) := (ho3 (n0 + 1) (by omega)).trans v2_2
    have v3_3 : π3 (n0 + 3) = π (n0 + 3) := (ho3 (n0 + 3) (by omega)).trans v2_3
    have v3_4 : π3 (p + 15) = π (p + 15) := (ho3 (p + 15) (by omega)).trans v2_4
    have v3_5 : π3 (p + 13) = π (p + 13) := (ho3 (p + 13) (by omega)).trans v2_5
    have v3_6 : π3 (p + 17) = PS.der (π (f + 1)) := (ho3 (p + 17) (by omega)).trans v2_6
    have v3_7 : π3 (o + 1) = PS.mul (PS.der (π (f + 1))) (π (f + 3)) := (ho3 (o + 1) (by omega)).trans he2
    refine v_aload hx DX4_differentiate_79 0 rfl ?_
    refine v_get hx DX4_differentiate_80 FLRX4_47 hP.1 (v := .ref (p + 23)) rfl ?_
    refine v_aload hx DX4_differentiate_83 2 rfl ?_
    refine v_get hx DX4_differentiate_84 FLRX4_82 hF.1 (v := .ref (f + 1)) rfl ?_
    refine v_aload hx DX4_differentiate_87 0 rfl ?_
    refine v_get hx DX4_differentiate_88 FLRX4_41 hP.1 (v := .ref (p + 19)) rfl ?_
    refine v_cVv hx DX4_differentiate_91 CVRX4_85 [.ref (f + 1), .ref (p + 19)] (s_product l G Λ sz μ3 hP.2.2.2.2.2.1.2.2.2.2.2 hF.2.1 hP.2.2.2.2.2.1.2.2.2.1 (by omega) (by omega) (AB.get (A := π3 (p + 23)) hA3 hP.2.2.2.2.2.1.2.2.2.2.2 rfl) (AB.get (A := π (f + 1)) hA3 hF.2.1 v3_0) (AB.get (A := PS.der (π (f + 3))) hA3 hP.2.2.2.2.2.1.2.2.2.1 he3) (by omega)) hP.2.2.2.2.2.1.2.2.2.2.2.1 rfl rfl (Nat.le_of_ble_eq_true rfl) (by decide) ⟨Nat.le_refl _, Nat.le_refl _⟩ (fun μ4 hμ4 => ?_)
    obtain ⟨π4, hc4, he4, ho4⟩ := Chg.one (S := fun c => c = p + 17 ∨ c = p + 19 ∨ c = p + 23 ∨ c = p + 4 ∨ c = p + 6 ∨ c = o + 1 ∨ c = o + 3 ∨ (κ < c ∧ c < κ + 17)) (R := PS.mul (π (f + 1)) (PS.der (π (f + 3)))) hA3 hP.2.2.2.2.2.1.2.2.2.2.2 (by first | omega | (dsimp only; omega)) hμ4
    have hA4 := hc4.1
    have hch4 := hch3.trans hc4
    have v4_0 : π4 (f + 1) = π (f + 1) := (ho4 (f + 1) (by omega)).trans v3_0
    have v4_1 : π4 (f + 3) = π (f + 3) := (ho4 (f + 3) (by omega)).trans v3_1
    have v4_2 : π4 (n0 + 1) = π (n0 + 1) := (ho4 (n0 + 1) (by omega)).trans v3_2
    have v4_3 : π4 (n0 + 3) = π (n0 + 3) := (ho4 (n0 + 3) (by omega)).trans v3_3
    have v4_4 : π4 (p + 15) = π (p + 15) := (ho4 (p + 15) (by omega)).trans v3_4
    have v4_5 : π4 (p + 13) = π (p + 13) := (ho4 (p + 13) (by omega)).trans v3_5
    have v4_6 : π4 (p + 17) = PS.der (π (f + 1)) := (ho4 (p + 17) (by omega)).trans v3_6
    have v4_7 : π4 (o + 1) = PS.mul (PS.der (π (f + 1))) (π (f + 3)) := (ho4 (o + 1) (by omega)).trans v3_7
    have v4_8 : π4 (p + 19) = PS.der (π (f + 3)) := (ho4 (p + 19) (by omega)).trans he3
    refine v_aload hx DX4_differentiate_94 4 rfl ?_
    refine v_get hx DX4_differentiate_96 FLRX4_82 hO.1 (v := .ref (o + 1)) rfl ?_
    refine v_aload hx DX4_differentiate_99 0 rfl ?_
    refine v_get hx DX4_differentiate_100 FLRX4_47 hP.1 (v := .ref (p + 23)) rfl ?_
    refine v_push hx DX4_differentiate_103 ?_
    refine v_push hx DX4_differentiate_105 ?_
    refine v_cVv hx DX4_differentiate_106 CVRX4_95 [.ref (p + 23), iv 100, iv 0] (s_addMultiple l G Λ sz μ4 hO.2.1 hP.2.2.2.2.2.1.2.2.2.2.2 (by omega) (AB.get (A := PS.mul (PS.der (π (f + 1))) (π (f + 3))) hA4 hO.2.1 v4_7) (AB.get (A := PS.mul (π (f + 1)) (PS.der (π (f + 3)))) hA4 hP.2.2.2.2.2.1.2.2.2.2.2 he4) (by omega) (by omega) (by omega)) hO.2.1.1 rfl rfl (Nat.le_of_ble_eq_true rfl) (by decide) ⟨Nat.le_refl _, Nat.le_refl _⟩ (fun μ5 hμ5 => ?_)
    obtain ⟨π5, hc5, he5, ho5⟩ := Chg.one (S := fun c => c = p + 17 ∨ c = p + 19 ∨ c = p + 23 ∨ c = p + 4 ∨ c = p + 6 ∨ c = o + 1 ∨ c = o + 3 ∨ (κ < c ∧ c < κ + 17)) (R := PS.am (PS.mul (PS.der (π (f + 1))) (π (f + 3))) (PS.mul (π (f + 1)) (PS.der (π (f + 3)))) (fi 100) (Int.toNat 0)) hA4 hO.2.1 (by first | omega | (dsimp only; omega)) hμ5
    have hA5 := hc5.1
    have hch5 := hch4.trans hc5
    have v5_0 : π5 (f + 1) = π (f + 1) := (ho5 (f + 1) (by omega)).trans v4_0
    have v5_1 : π5 (f + 3) = π (f + 3) := (ho5 (f + 3) (by omega)).trans v4_1
    have v5_2 : π5 (n0 + 1) = π (n0 + 1) := (ho5 (n0 + 1) (by omega)).trans v4_2
    have v5_3 : π5 (n0 + 3) = π (n0 + 3) := (ho5 (n0 + 3) (by omega)).trans v4_3
    have v5_4 : π5 (p + 15) = π (p + 15) := (ho5 (p + 15) (by omega)).trans v4_4
    have v5_5 : π5 (p + 13) = π (p + 13) := (ho5 (p + 13) (by omega)).trans v4_5
    have v5_6 : π5 (p + 17) = PS.der (π (f + 1)) := (ho5 (p + 17) (by omega)).trans v4_6
    have v5_8 : π5 (p + 19) = PS.der (π (f + 3)) := (ho5 (p + 19) (by omega)).trans v4_8
    have v5_9 : π5 (p + 23) = PS.mul (π (f + 1)) (PS.der (π (f + 3))) := (ho5 (p + 23) (by omega)).trans he4
    have w6 : π5 (o + 1) = dfY (π (f + 1)) (π (f + 3)) := he5.trans rfl
    refine v_aload hx DX4_differentiate_109 4 rfl ?_
    refine v_get hx DX4_differentiate_111 FLRX4_99 hO.1 (v := .ref (o + 3)) rfl ?_
    refine v_aload hx DX4_differentiate_114 2 rfl ?_
    refine v_get hx DX4_differentiate_115 FLRX4_99 hF.1 (v := .ref (f + 3)) rfl ?_
    refine v_aload hx DX4_differentiate_118 2 rfl ?_
    refine v_get hx DX4_differentiate_119 FLRX4_99 hF.1 (v := .ref (f + 3)) rfl ?_
    refine v_cVv hx DX4_differentiate_122 CVRX4_85 [.ref (f + 3), .ref (f + 3)] (s_product l G Λ sz μ5 hO.2.2 hF.2.2 hF.2.2 (by omega) (by omega) (AB.get (A := π5 (o + 3)) hA5 hO.2.2 rfl) (AB.get (A := π (f + 3)) hA5 hF.2.2 v5_1) (AB.get (A := π (f + 3)) hA5 hF.2.2 v5_1) (by omega)) hO.2.2.1 rfl rfl (Nat.le_of_ble_eq_true rfl) (by decide) ⟨Nat.le_refl _, Nat.le_refl _⟩ (fun μ7 hμ7 => ?_)
    obtain ⟨π7, hc7, he7, ho7⟩ := Chg.one (S := fun c => c = p + 17 ∨ c = p + 19 ∨ c = p + 23 ∨ c = p + 4 ∨ c = p + 6 ∨ c = o + 1 ∨ c = o + 3 ∨ (κ < c ∧ c < κ + 17)) (R := PS.mul (π (f + 3)) (π (f + 3))) hA5 hO.2.2 (by first | omega | (dsimp only; omega)) hμ7
    have hA7 := hc7.1
    have hch7 := hch5.trans hc7
    have v7_0 : π7 (f + 1) = π (f + 1) := (ho7 (f + 1) (by omega)).trans v5_0
    have v7_1 : π7 (f + 3) = π (f + 3) := (ho7 (f + 3) (by omega)).trans v5_1
    have v7_2 : π7 (n0 + 1) = π (n0 + 1) := (ho7 (n0 + 1) (by omega)).trans v5_2
    have v7_3 : π7 (n0 + 3) = π (n0 + 3) := (ho7 (n0 + 3) (by omega)).trans v5_3
    have v7_4 : π7 (p + 15) = π (p + 15) := (ho7 (p + 15) (by omega)).trans v5_4
    have v7_5 : π7 (p + 13) = π (p + 13) := (ho7 (p + 13) (by omega)).trans v5_5
    have v7_6 : π7 (p + 17) = PS.der (π (f + 1)) := (ho7 (p + 17) (by omega)).trans v5_6
    have v7_7 : π7 (p + 19) = PS.der (π (f + 3)) := (ho7 (p + 19) (by omega)).trans v5_8
    have v7_8 : π7 (p + 23) = PS.mul (π (f + 1)) (PS.der (π (f + 3))) := (ho7 (p + 23) (by omega)).trans v5_9
    have v7_9 : π7 (o + 1) = dfY (π (f + 1)) (π (f + 3)) := (ho7 (o + 1) (by omega)).trans w6
    refine v_aload hx DX4_differentiate_125 0 rfl ?_
    refine v_get hx DX4_differentiate_126 FLRX4_54 hP.1 (fv_i rfl (by rw [hch7.2.2.1 p hoff]; exact hkd.1) : _ = iv kd) ?_
    refine v_push hx DX4_differentiate_129 ?_
    refine v_icmp_ne hx DX4_differentiate_130 (by omega) (by decide) (fun c130 => ?_) (fun c130 => ?_)
    · exact absurd c130 (by omega)
    · skip
      refine v_aload hx DX4_differentiate_133 0 rfl ?_
      refine v_aload hx DX4_differentiate_134 3 rfl ?_
      refine v_iload hx DX4_differentiate_135 1 rfl ?_
      refine v_push hx DX4_differentiate_136 ?_
      refine v_iadd hx DX4_differentiate_137 ?_
      refine v_cVv hx DX4_differentiate_138 CVRX4_102 [.ref n0, iv (i + 1)] (c_multiplyBySlope l G Λ sz μ7 hA7 hI hK hP hN (by omega) (by omega) (by rw [v7_2, v7_4]; omega) (by rw [v7_3, v7_5]; omega) (by rw [v7_3, v7_5]; exact PS.fmul_ne gd gu h2.2 (h3 (by omega)))) hP.1 rfl rfl (Nat.le_of_ble_eq_true rfl) (by decide) ⟨Nat.le_refl _, Nat.le_refl _⟩ (fun μ8 hμ8 => ?_)
      obtain ⟨π8, hc8, he8_0, he8_1⟩ := hμ8
      have hA8 := hc8.1
      have hch8 := hch7.trans (hc8.mono (fun c hc => by first | omega | (dsimp only at hc ⊢; omega)))
      have v8_0 : π8 (f + 1) = π (f + 1) := (hc8.2.1 (f + 1) (by first | omega | (dsimp only; omega))).trans v7_0
      have v8_1 : π8 (f + 3) = π (f + 3) := (hc8.2.1 (f + 3) (by first | omega | (dsimp only; omega))).trans v7_1
      have v8_2 : π8 (n0 + 1) = π (n0 + 1) := (hc8.2.1 (n0 + 1) (by first | omega | (dsimp only; omega))).trans v7_2
      have v8_3 : π8 (n0 + 3) = π (n0 + 3) := (hc8.2.1 (n0 + 3) (by first | omega | (dsimp only; omega))).trans v7_3
      have v8_4 : π8 (p + 15) = π (p + 15) := (hc8.2.1 (p + 15) (by first | omega | (dsimp only; omega))).trans v7_4
      have v8_5 : π8 (p + 13) = π (p + 13) := (hc8.2.1 (p + 13) (by first | omega | (dsimp only; omega))).trans v7_5
      have v8_6 : π8 (p + 17) = PS.der (π (f + 1)) := (hc8.2.1 (p + 17) (by first | omega | (dsimp only; omega))).trans v7_6
      have v8_7 : π8 (p + 19) = PS.der (π (f + 3)) := (hc8.2.1 (p + 19) (by first | omega | (dsimp only; omega))).trans v7_7
      have v8_8 : π8 (p + 23) = PS.mul (π (f + 1)) (PS.der (π (f + 3))) := (hc8.2.1 (p + 23) (by first | omega | (dsimp only; omega))).trans v7_8
      have v8_9 : π8 (o + 1) = dfY (π (f + 1)) (π (f + 3)) := (hc8.2.1 (o + 1) (by first | omega | (dsimp only; omega))).trans v7_9
      have v8_10 : π8 (o + 3) = PS.mul (π (f + 3)) (π (f + 3)) := (hc8.2.1 (o + 3) (by first | omega | (dsimp only; omega))).trans he7
      have g8_0 : π8 (p + 3 + 1) = (dfS (π (n0 + 1), π (n0 + 3)) (π (p + 13)) (π (p + 15)) i).1 := he8_0.trans (by rw [v7_2, v7_4, v7_3, v7_5]; rfl)
      have g8_1 : π8 (p + 3 + 3) = (dfS (π (n0 + 1), π (n0 + 3)) (π (p + 13)) (π (p + 15)) i).2 := he8_1.trans (by rw [v7_2, v7_4, v7_3, v7_5]; rfl)
      have s9 := dfS_ok (i := i) (n := (π (n0 + 1), π (n0 + 3))) gn gd gu gs h1.2.2.1 h1.2.2.2.1 h1.2.2.2.2.1 h1.2.2.2.2.2 h2.2 (h3 (by omega))
      refine v_aload hx DX4_differentiate_141 0 rfl ?_
      refine v_get hx DX4_differentiate_142 FLRX4_65 hP.1 (v := .ref κ) rfl ?_
      refine v_aload hx DX4_differentiate_145 4 rfl ?_
      refine v_aload hx DX4_differentiate_147 4 rfl ?_
      refine v_aload hx DX4_differentiate_149 0 rfl ?_
      refine v_get hx DX4_differentiate_150 FLRX4_21 hP.1 (v := .ref (p + 3)) rfl ?_
      refine v_push hx DX4_differentiate_153 ?_
      refine v_cVv hx DX4_differentiate_154 CVRX4_106 [.ref o, .ref o, .ref (p + 3), iv 1] (q_sum l G Λ sz μ8 hA8 hI hK hO hO hP.2.2.2.2.1.1 (by omega) (by omega) (by omega) (by omega) (by omega) (by omega) (by rw [v8_9, g8_1]; have := s9.2.2; omega) (by rw [g8_0, v8_10]; have := s9.2.1; omega) (by rw [v8_10, g8_1]; have := s9.2.2; omega) (by rw [v8_10, g8_1]; exact PS.fmul_ne (PS.fin_mul gD gD) s9.1.2.1 z7 s9.1.2.2.1)) hK.1 rfl rfl (Nat.le_of_ble_eq_true rfl) (by decide) ⟨Nat.le_refl _, Nat.le_refl _⟩ (fun μ9 hμ9 => ?_)
      obtain ⟨π9, hc9, he9_0, he9_1⟩ := hμ9
      have hA9 := hc9.1
      have hch9 := hch8.trans (hc9.mono (fun c hc => by first | omega | (dsimp only at hc ⊢; omega)))
      have v9_0 : π9 (f + 1) = π (f + 1) := (hc9.2.1 (f + 1) (by first | omega | (dsimp only; omega))).trans v8_0
      have v9_1 : π9 (f + 3) = π (f + 3) := (hc9.2.1 (f + 3) (by first | omega | (dsimp only; omega))).trans v8_1
      have v9_2 : π9 (n0 + 1) = π (n0 + 1) := (hc9.2.1 (n0 + 1) (by first | omega | (dsimp only; omega))).trans v8_2
      have v9_3 : π9 (n0 + 3) = π (n0 + 3) := (hc9.2.1 (n0 + 3) (by first | omega | (dsimp only; omega))).trans v8_3
      have v9_4 : π9 (p + 15) = π (p + 15) := (hc9.2.1 (p + 15) (by first | omega | (dsimp only; omega))).trans v8_4
      have v9_5 : π9 (p + 13) = π (p + 13) := (hc9.2.1 (p + 13) (by first | omega | (dsimp only; omega))).trans v8_5
      have v9_6 : π9 (p + 17) = PS.der (π (f + 1)) := (hc9.2.1 (p + 17) (by first | omega | (dsimp only; omega))).trans v8_6
      have v9_7 : π9 (p + 19) = PS.der (π (f + 3)) := (hc9.2.1 (p + 19) (by first | omega | (dsimp only; omega))).trans v8_7
      have v9_8 : π9 (p + 23) = PS.mul (π (f + 1)) (PS.der (π (f + 3))) := (hc9.2.1 (p + 23) (by first | omega | (dsimp only; omega))).trans v8_8
      have v9_11 : π9 (p + 3 + 1) = (dfS (π (n0 + 1), π (n0 + 3)) (π (p + 13)) (π (p + 15)) i).1 := (hc9.2.1 (p + 3 + 1) (by first | omega | (dsimp only; omega))).trans g8_0
      have v9_12 : π9 (p + 3 + 3) = (dfS (π (n0 + 1), π (n0 + 3)) (π (p + 13)) (π (p + 15)) i).2 := (hc9.2.1 (p + 3 + 3) (by first | omega | (dsimp only; omega))).trans g8_1
      have g9_0 : π9 (o + 1) = (dfP kd i (π (f + 1), π (f + 3)) (π (n0 + 1), π (n0 + 3)) (π (p + 13)) (π (p + 15))).1 := he9_0.trans (by rw [v8_9, v8_10, g8_0, g8_1]; unfold dfP; rw [if_pos (by omega)]; rfl)
      have g9_1 : π9 (o + 3) = (dfP kd i (π (f + 1), π (f + 3)) (π (n0 + 1), π (n0 + 3)) (π (p + 13)) (π (p + 15))).2 := he9_1.trans (by rw [v8_9, v8_10, g8_0, g8_1]; unfold dfP; rw [if_pos (by omega)]; rfl)
      refine v_goto hx DX4_differentiate_157 ?_
      exact v_rv hx hBD DX4_differentiate_169 (⟨π9, hch9, g9_0, g9_1⟩)
  · skip
    refine v_aload hx DX4_differentiate_19 0 rfl ?_
    refine v_get hx DX4_differentiate_20 FLRX4_47 hP.1 (v := .ref (p + 23)) rfl ?_
    refine v_aload hx DX4_differentiate_23 0 rfl ?_
    refine v_get hx DX4_differentiate_24 FLRX4_35 hP.1 (v := .ref (p + 15)) rfl ?_
    refine v_aload hx DX4_differentiate_27 2 rfl ?_
    refine v_get hx DX4_differentiate_28 FLRX4_82 hF.1 (v := .ref (f + 1)) rfl ?_
    refine v_cVv hx DX4_differentiate_31 CVRX4_85 [.ref (p + 15), .ref (f + 1)] (s_product l G Λ sz μ1 hP.2.2.2.2.2.1.2.2.2.2.2 hP.2.2.2.2.2.1.2.1 hF.2.1 (by omega) (by omega) (AB.get (A := π1 (p + 23)) hA1 hP.2.2.2.2.2.1.2.2.2.2.2 rfl) (AB.get (A := π (p + 15)) hA1 hP.2.2.2.2.2.1.2.1 v1_4) (AB.get (A := π (f + 1)) hA1 hF.2.1 v1_0) (by omega)) hP.2.2.2.2.2.1.2.2.2.2.2.1 rfl rfl (Nat.le_of_ble_eq_true rfl) (by decide) ⟨Nat.le_refl _, Nat.le_refl _⟩ (fun μ10 hμ10 => ?_)
    obtain ⟨π10, hc10, he10, ho10⟩ := Chg.one (S := fun c => c = p + 17 ∨ c = p + 19 ∨ c = p + 23 ∨ c = p + 4 ∨ c = p + 6 ∨ c = o + 1 ∨ c = o + 3 ∨ (κ < c ∧ c < κ + 17)) (R := PS.mul (π (p + 15)) (π (f + 1))) hA1 hP.2.2.2.2.2.1.2.2.2.2.2 (by first | omega | (dsimp only; omega)) hμ10
    have hA10 := hc10.1
    have hch10 := hch1.trans hc10
    have v10_0 : π10 (f + 1) = π (f + 1) := (ho10 (f + 1) (by omega)).trans v1_0
    have v10_1 : π10 (f + 3) = π (f + 3) := (ho10 (f + 3) (by omega)).trans v1_1
    have v10_2 : π10 (n0 + 1) = π (n0 + 1) := (ho10 (n0 + 1) (by omega)).trans v1_2
    have v10_3 : π10 (n0 + 3) = π (n0 + 3) := (ho10 (n0 + 3) (by omega)).trans v1_3
    have v10_4 : π10 (p + 15) = π (p + 15) := (ho10 (p + 15) (by omega)).trans v1_4
    have v10_5 : π10 (p + 13) = π (p + 13) := (ho10 (p + 13) (by omega)).trans v1_5
    have v10_6 : π10 (p + 17) = PS.der (π (f + 1)) := (ho10 (p + 17) (by omega)).trans he1
    refine v_aload hx DX4_differentiate_34 0 rfl ?_
    refine v_get hx DX4_differentiate_35 FLRX4_38 hP.1 (v := .ref (p + 17)) rfl ?_
    refine v_aload hx DX4_differentiate_38 0 rfl ?_
    refine v_get hx DX4_differentiate_39 FLRX4_47 hP.1 (v := .ref (p + 23)) rfl ?_
    refine v_iload hx DX4_differentiate_42 1 rfl ?_
    refine v_push hx DX4_differentiate_43 ?_
    refine v_cSp hx DX4_differentiate_45 CSRX4_89 [iv i, iv 101] (j_fmod l G Λ sz μ10 (by omega)) rfl rfl (Nat.le_of_ble_eq_true rfl) (by decide) ⟨Nat.le_refl _, Nat.le_refl _⟩ ?_
    refine v_push hx DX4_differentiate_48 ?_
    refine v_cVv hx DX4_differentiate_49 CVRX4_95 [.ref (p + 23), iv (i % 101), iv 0] (s_addMultiple l G Λ sz μ10 hP.2.2.2.2.2.1.2.2.1 hP.2.2.2.2.2.1.2.2.2.2.2 (by omega) (AB.get (A := PS.der (π (f + 1))) hA10 hP.2.2.2.2.2.1.2.2.1 v10_6) (AB.get (A := PS.mul (π (p + 15)) (π (f + 1))) hA10 hP.2.2.2.2.2.1.2.2.2.2.2 he10) (by omega) (by omega) (by omega)) hP.2.2.2.2.2.1.2.2.1.1 rfl rfl (Nat.le_of_ble_eq_true rfl) (by decide) ⟨Nat.le_refl _, Nat.le_refl _⟩ (fun μ13 hμ13 => ?_)
    obtain ⟨π13, hc13, he13, ho13⟩ := Chg.one (S := fun c => c = p + 17 ∨ c = p + 19 ∨ c = p + 23 ∨ c = p + 4 ∨ c = p + 6 ∨ c = o + 1 ∨ c = o + 3 ∨ (κ < c ∧ c < κ + 17)) (R := PS.am (PS.der (π (f + 1))) (PS.mul (π (p + 15)) (π (f + 1))) (fi (i % 101)) (Int.toNat 0)) hA10 hP.2.2.2.2.2.1.2.2.1 (by first | omega | (dsimp only; omega)) hμ13
    have hA13 := hc13.1
    have hch13 := hch10.trans hc13
    have v13_0 : π13 (f + 1) = π (f + 1) := (ho13 (f + 1) (by omega)).trans v10_0
    have v13_1 : π13 (f + 3) = π (f + 3) := (ho13 (f + 3) (by omega)).trans v10_1
    have v13_2 : π13 (n0 + 1) = π (n0 + 1) := (ho13 (n0 + 1) (by omega)).trans v10_2
    have v13_3 : π13 (n0 + 3) = π (n0 + 3) := (ho13 (n0 + 3) (by omega)).trans v10_3
    have v13_4 : π13 (p + 15) = π (p + 15) := (ho13 (p + 15) (by omega)).trans v10_4
    have v13_5 : π13 (p + 13) = π (p + 13) := (ho13 (p + 13) (by omega)).trans v10_5
    have v13_7 : π13 (p + 23) = PS.mul (π (p + 15)) (π (f + 1)) := (ho13 (p + 23) (by omega)).trans he10
    have w14 : π13 (p + 17) = ((π (f + 1)).der.am ((π (p + 15)).mul (π (f + 1))) (fi i) 0) := he13.trans (by rw [fi_mod]; rfl)
    refine v_aload hx DX4_differentiate_52 4 rfl ?_
    refine v_get hx DX4_differentiate_54 FLRX4_82 hO.1 (v := .ref (o + 1)) rfl ?_
    refine v_aload hx DX4_differentiate_57 0 rfl ?_
    refine v_get hx DX4_differentiate_58 FLRX4_38 hP.1 (v := .ref (p + 17)) rfl ?_
    refine v_aload hx DX4_differentiate_61 2 rfl ?_
    refine v_get hx DX4_differentiate_62 FLRX4_99 hF.1 (v := .ref (f + 3)) rfl ?_
    refine v_cVv hx DX4_differentiate_65 CVRX4_85 [.ref (p + 17), .ref (f + 3)] (s_product l G Λ sz μ13 hO.2.1 hP.2.2.2.2.2.1.2.2.1 hF.2.2 (by omega) (by omega) (AB.get (A := π13 (o + 1)) hA13 hO.2.1 rfl) (AB.get (A := ((π (f + 1)).der.am ((π (p + 15)).mul (π (f + 1))) (fi i) 0)) hA13 hP.2.2.2.2.2.1.2.2.1 w14) (AB.get (A := π (f + 3)) hA13 hF.2.2 v13_1) (by omega)) hO.2.1.1 rfl rfl (Nat.le_of_ble_eq_true rfl) (by decide) ⟨Nat.le_refl _, Nat.le_refl _⟩ (fun μ15 hμ15 => ?_)
    obtain ⟨π15, hc15, he15, ho15⟩ := Chg.one (S := fun c => c = p + 17 ∨ c = p + 19 ∨ c = p + 23 ∨ c = p + 4 ∨ c = p + 6 ∨ c = o + 1 ∨ c = o + 3 ∨ (κ < c ∧ c < κ + 17)) (R := PS.mul ((π (f + 1)).der.am ((π (p + 15)).mul (π (f + 1))) (fi i) 0) (π (f + 3))) hA13 hO.2.1 (by first | omega | (dsimp only; omega)) hμ15
    have hA15 := hc15.1
    have hch15 := hch13.trans hc15
    have v15_0 : π15 (f + 1) = π (f + 1) := (ho15 (f + 1) (by omega)).trans v13_0
    have v15_1 : π15 (f + 3) = π (f + 3) := (ho15 (f + 3) (by omega)).trans v13_1
    have v15_2 : π15 (n0 + 1) = π (n0 + 1) := (ho15 (n0 + 1) (by omega)).trans v13_2
    have v15_3 : π15 (n0 + 3) = π (n0 + 3) := (ho15 (n0 + 3) (by omega)).trans v13_3
    have v15_4 : π15 (p + 15) = π (p + 15) := (ho15 (p + 15) (by omega)).trans v13_4
    have v15_5 : π15 (p + 13) = π (p + 13) := (ho15 (p + 13) (by omega)).trans v13_5
    have v15_6 : π15 (p + 23) = PS.mul (π (p + 15)) (π (f + 1)) := (ho15 (p + 23) (by omega)).trans v13_7
    have v15_7 : π15 (p + 17) = ((π (f + 1)).der.am ((π (p + 15)).mul (π (f + 1))) (fi i) 0) := (ho15 (p + 17) (by omega)).trans w14
    refine v_aload hx DX4_differentiate_68 0 rfl ?_
    refine v_get hx DX4_differentiate_69 FLRX4_41 hP.1 (v := .ref (p + 19)) rfl ?_
    refine v_aload hx DX4_differentiate_72 2 rfl ?_
    refine v_get hx DX4_differentiate_73 FLRX4_99 hF.1 (v := .ref (f + 3)) rfl ?_
    refine v_cVv hx DX4_differentiate_76 CVRX4_80 [.ref (f + 3)] (s_slope l G Λ sz μ15 hP.2.2.2.2.2.1.2.2.2.1 hF.2.2 (by omega) (AB.get (A := π15 (p + 19)) hA15 hP.2.2.2.2.2.1.2.2.2.1 rfl) (AB.get (A := π (f + 3)) hA15 hF.2.2 v15_1)) hP.2.2.2.2.2.1.2.2.2.1.1 rfl rfl (Nat.le_of_ble_eq_true rfl) (by decide) ⟨Nat.le_refl _, Nat.le_refl _⟩ (fun μ16 hμ16 => ?_)
    obtain ⟨π16, hc16, he16, ho16⟩ := Chg.one (S := fun c => c = p + 17 ∨ c = p + 19 ∨ c = p + 23 ∨ c = p + 4 ∨ c = p + 6 ∨ c = o + 1 ∨ c = o + 3 ∨ (κ < c ∧ c < κ + 17)) (R := PS.der (π (f + 3))) hA15 hP.2.2.2.2.2.1.2.2.2.1 (by first | omega | (dsimp only; omega)) hμ16
    have hA16 := hc16.1
    have hch16 := hch15.trans hc16
    have v16_0 : π16 (f + 1) = π (f + 1) := (ho16 (f + 1) (by omega)).trans v15_0
    have v16_1 : π16 (f + 3) = π (f + 3) := (ho16 (f + 3) (by omega)).trans v15_1
    have v16_2 : π16 (n0 + 1) = π (n0 + 1) := (ho16 (n0 + 1) (by omega)).trans v15_2
    have v16_3 : π16 (n0 + 3) = π (n0 + 3) := (ho16 (n0 + 3) (by omega)).trans v15_3
    have v16_4 : π16 (p + 15) = π (p + 15) := (ho16 (p + 15) (by omega)).trans v15_4
    have v16_5 : π16 (p + 13) = π (p + 13) := (ho16 (p + 13) (by omega)).trans v15_5
    have v16_6 : π16 (p + 23) = PS.mul (π (p + 15)) (π (f + 1)) := (ho16 (p + 23) (by omega)).trans v15_6
    have v16_7 : π16 (p + 17) = ((π (f + 1)).der.am ((π (p + 15)).mul (π (f + 1))) (fi i) 0) := (ho16 (p + 17) (by omega)).trans v15_7
    have v16_8 : π16 (o + 1) = PS.mul ((π (f + 1)).der.am ((π (p + 15)).mul (π (f + 1))) (fi i) 0) (π (f + 3)) := (ho16 (o + 1) (by omega)).trans he15
    refine v_aload hx DX4_differentiate_79 0 rfl ?_
    refine v_get hx DX4_differentiate_80 FLRX4_47 hP.1 (v := .ref (p + 23)) rfl ?_
    refine v_aload hx DX4_differentiate_83 2 rfl ?_
    refine v_get hx DX4_differentiate_84 FLRX4_82 hF.1 (v := .ref (f + 1)) rfl ?_
    refine v_aload hx DX4_differentiate_87 0 rfl ?_
    refine v_get hx DX4_differentiate_88 FLRX4_41 hP.1 (v := .ref (p + 19)) rfl ?_
    refine v_cVv hx DX4_differentiate_91 CVRX4_85 [.ref (f + 1), .ref (p + 19)] (s_product l G Λ sz μ16 hP.2.2.2.2.2.1.2.2.2.2.2 hF.2.1 hP.2.2.2.2.2.1.2.2.2.1 (by omega) (by omega) (AB.get (A := PS.mul (π (p + 15)) (π (f + 1))) hA16 hP.2.2.2.2.2.1.2.2.2.2.2 v16_6) (AB.get (A := π (f + 1)) hA16 hF.2.1 v16_0) (AB.get (A := PS.der (π (f + 3))) hA16 hP.2.2.2.2.2.1.2.2.2.1 he16) (by omega)) hP.2.2.2.2.2.1.2.2.2.2.2.1 rfl rfl (Nat.le_of_ble_eq_true rfl) (by decide) ⟨Nat.le_refl _, Nat.le_refl _⟩ (fun μ17 hμ17 => ?_)
    obtain ⟨π17, hc17, he17, ho17⟩ := Chg.one (S := fun c => c = p + 17 ∨ c = p + 19 ∨ c = p + 23 ∨ c = p + 4 ∨ c = p + 6 ∨ c = o + 1 ∨ c = o + 3 ∨ (κ < c ∧ c < κ + 17)) (R := PS.mul (π (f + 1)) (PS.der (π (f + 3)))) hA16 hP.2.2.2.2.2.1.2.2.2.2.2 (by first | omega | (dsimp only; omega)) hμ17
    have hA17 := hc17.1
    have hch17 := hch16.trans hc17
    have v17_0 : π17 (f + 1) = π (f + 1) := (ho17 (f + 1) (by omega)).trans v16_0
    have v17_1 : π17 (f + 3) = π (f + 3) := (ho17 (f + 3) (by omega)).trans v16_1
    have v17_2 : π17 (n0 + 1) = π (n0 + 1) := (ho17 (n0 + 1) (by omega)).trans v16_2
    have v17_3 : π17 (n0 + 3) = π (n0 + 3) := (ho17 (n0 + 3) (by omega)).trans v16_3
    have v17_4 : π17 (p + 15) = π (p + 15) := (ho17 (p + 15) (by omega)).trans v16_4
    have v17_5 : π17 (p + 13) = π (p + 13) := (ho17 (p + 13) (by omega)).trans v16_5
    have v17_7 : π17 (p + 17) = ((π (f + 1)).der.am ((π (p + 15)).mul (π (f + 1))) (fi i) 0) := (ho17 (p + 17) (by omega)).trans v16_7
    have v17_8 : π17 (o + 1) = PS.mul ((π (f + 1)).der.am ((π (p + 15)).mul (π (f + 1))) (fi i) 0) (π (f + 3)) := (ho17 (o + 1) (by omega)).trans v16_8
    have v17_9 : π17 (p + 19) = PS.der (π (f + 3)) := (ho17 (p + 19) (by omega)).trans he16
    refine v_aload hx DX4_differentiate_94 4 rfl ?_
    refine v_get hx DX4_differentiate_96 FLRX4_82 hO.1 (v := .ref (o + 1)) rfl ?_
    refine v_aload hx DX4_differentiate_99 0 rfl ?_
    refine v_get hx DX4_differentiate_100 FLRX4_47 hP.1 (v := .ref (p + 23)) rfl ?_
    refine v_push hx DX4_differentiate_103 ?_
    refine v_push hx DX4_differentiate_105 ?_
    refine v_cVv hx DX4_differentiate_106 CVRX4_95 [.ref (p + 23), iv 100, iv 0] (s_addMultiple l G Λ sz μ17 hO.2.1 hP.2.2.2.2.2.1.2.2.2.2.2 (by omega) (AB.get (A := PS.mul ((π (f + 1)).der.am ((π (p + 15)).mul (π (f + 1))) (fi i) 0) (π (f + 3))) hA17 hO.2.1 v17_8) (AB.get (A := PS.mul (π (f + 1)) (PS.der (π (f + 3)))) hA17 hP.2.2.2.2.2.1.2.2.2.2.2 he17) (by omega) (by omega) (by omega)) hO.2.1.1 rfl rfl (Nat.le_of_ble_eq_true rfl) (by decide) ⟨Nat.le_refl _, Nat.le_refl _⟩ (fun μ18 hμ18 => ?_)
    obtain ⟨π18, hc18, he18, ho18⟩ := Chg.one (S := fun c => c = p + 17 ∨ c = p + 19 ∨ c = p + 23 ∨ c = p + 4 ∨ c = p + 6 ∨ c = o + 1 ∨ c = o + 3 ∨ (κ < c ∧ c < κ + 17)) (R := PS.am (PS.mul ((π (f + 1)).der.am ((π (p + 15)).mul (π (f + 1))) (fi i) 0) (π (f + 3))) (PS.mul (π (f + 1)) (PS.der (π (f + 3)))) (fi 100) (Int.toNat 0)) hA17 hO.2.1 (by first | omega | (dsimp only; omega)) hμ18
    have hA18 := hc18.1
    have hch18 := hch17.trans hc18
    have v18_0 : π18 (f + 1) = π (f + 1) := (ho18 (f + 1) (by omega)).trans v17_0
    have v18_1 : π18 (f + 3) = π (f + 3) := (ho18 (f + 3) (by omega)).trans v17_1
    have v18_2 : π18 (n0 + 1) = π (n0 + 1) := (ho18 (n0 + 1) (by omega)).trans v17_2
    have v18_3 : π18 (n0 + 3) = π (n0 + 3) := (ho18 (n0 + 3) (by omega)).trans v17_3
    have v18_4 : π18 (p + 15) = π (p + 15) := (ho18 (p + 15) (by omega)).trans v17_4
    have v18_5 : π18 (p + 13) = π (p + 13) := (ho18 (p + 13) (by omega)).trans v17_5
    have v18_6 : π18 (p + 17) = ((π (f + 1)).der.am ((π (p + 15)).mul (π (f + 1))) (fi i) 0) := (ho18 (p + 17) (by omega)).trans v17_7
    have v18_8 : π18 (p + 19) = PS.der (π (f + 3)) := (ho18 (p + 19) (by omega)).trans v17_9
    have v18_9 : π18 (p + 23) = PS.mul (π (f + 1)) (PS.der (π (f + 3))) := (ho18 (p + 23) (by omega)).trans he17
    have w19 : π18 (o + 1) = dfX (π (f + 1)) (π (f + 3)) (π (p + 15)) (fi i) := he18.trans rfl
    refine v_aload hx DX4_differentiate_109 4 rfl ?_
    refine v_get hx DX4_differentiate_111 FLRX4_99 hO.1 (v := .ref (o + 3)) rfl ?_
    refine v_aload hx DX4_differentiate_114 2 rfl ?_
    refine v_get hx DX4_differentiate_115 FLRX4_99 hF.1 (v := .ref (f + 3)) rfl ?_
    refine v_aload hx DX4_differentiate_118 2 rfl ?_
    refine v_get hx DX4_differentiate_119 FLRX4_99 hF.1 (v := .ref (f + 3)) rfl ?_
    refine v_cVv hx DX4_differentiate_122 CVRX4_85 [.ref (f + 3), .ref (f + 3)] (s_product l G Λ sz μ18 hO.2.2 hF.2.2 hF.2.2 (by omega) (by omega) (AB.get (A := π18 (o + 3)) hA18 hO.2.2 rfl) (AB.get (A := π (f + 3)) hA18 hF.2.2 v18_1) (AB.get (A := π (f + 3)) hA18 hF.2.2 v18_1) (by omega)) hO.2.2.1 rfl rfl (Nat.le_of_ble_eq_true rfl) (by decide) ⟨Nat.le_refl _, Nat.le_refl _⟩ (fun μ20 hμ20 => ?_)
    obtain ⟨π20, hc20, he20, ho20⟩ := Chg.one (S := fun c => c = p + 17 ∨ c = p + 19 ∨ c = p + 23 ∨ c = p + 4 ∨ c = p + 6 ∨ c = o + 1 ∨ c = o + 3 ∨ (κ < c ∧ c < κ + 17)) (R := PS.mul (π (f + 3)) (π (f + 3))) hA18 hO.2.2 (by first | omega | (dsimp only; omega)) hμ20
    have hA20 := hc20.1
    have hch20 := hch18.trans hc20
    have v20_0 : π20 (f + 1) = π (f + 1) := (ho20 (f + 1) (by omega)).trans v18_0
    have v20_1 : π20 (f + 3) = π (f + 3) := (ho20 (f + 3) (by omega)).trans v18_1
    have v20_2 : π20 (n0 + 1) = π (n0 + 1) := (ho20 (n0 + 1) (by omega)).trans v18_2
    have v20_3 : π20 (n0 + 3) = π (n0 + 3) := (ho20 (n0 + 3) (by omega)).trans v18_3
    have v20_4 : π20 (p + 15) = π (p + 15) := (ho20 (p + 15) (by omega)).trans v18_4
    have v20_5 : π20 (p + 13) = π (p + 13) := (ho20 (p + 13) (by omega)).trans v18_5
    have v20_6 : π20 (p + 17) = ((π (f + 1)).der.am ((π (p + 15)).mul (π (f + 1))) (fi i) 0) := (ho20 (p + 17) (by omega)).trans v18_6
    have v20_7 : π20 (p + 19) = PS.der (π (f + 3)) := (ho20 (p + 19) (by omega)).trans v18_8
    have v20_8 : π20 (p + 23) = PS.mul (π (f + 1)) (PS.der (π (f + 3))) := (ho20 (p + 23) (by omega)).trans v18_9
    have v20_9 : π20 (o + 1) = dfX (π (f + 1)) (π (f + 3)) (π (p + 15)) (fi i) := (ho20 (o + 1) (by omega)).trans w19
    refine v_aload hx DX4_differentiate_125 0 rfl ?_
    refine v_get hx DX4_differentiate_126 FLRX4_54 hP.1 (fv_i rfl (by rw [hch20.2.2.1 p hoff]; exact hkd.1) : _ = iv kd) ?_
    refine v_push hx DX4_differentiate_129 ?_
    refine v_icmp_ne hx DX4_differentiate_130 (by omega) (by decide) (fun c130 => ?_) (fun c130 => ?_)
    · skip
      refine v_aload hx DX4_differentiate_160 0 rfl ?_
      refine v_get hx DX4_differentiate_161 FLRX4_65 hP.1 (v := .ref κ) rfl ?_
      refine v_aload hx DX4_differentiate_164 4 rfl ?_
      refine v_cVv hx DX4_differentiate_166 CVRX4_112 [.ref o] (q_reduce l G Λ sz μ20 hA20 hI hK hO (by omega) (by rw [he20]; exact z7)) hK.1 rfl rfl (Nat.le_of_ble_eq_true rfl) (by decide) ⟨Nat.le_refl _, Nat.le_refl _⟩ (fun μ21 hμ21 => ?_)
      obtain ⟨π21, hc21, he21_0, he21_1⟩ := hμ21
      have hA21 := hc21.1
      have hch21 := hch20.trans (hc21.mono (fun c hc => by first | omega | (dsimp only at hc ⊢; omega)))
      have v21_0 : π21 (f + 1) = π (f + 1) := (hc21.2.1 (f + 1) (by first | omega | (dsimp only; omega))).trans v20_0
      have v21_1 : π21 (f + 3) = π (f + 3) := (hc21.2.1 (f + 3) (by first | omega | (dsimp only; omega))).trans v20_1
      have v21_2 : π21 (n0 + 1) = π (n0 + 1) := (hc21.2.1 (n0 + 1) (by first | omega | (dsimp only; omega))).trans v20_2
      have v21_3 : π21 (n0 + 3) = π (n0 + 3) := (hc21.2.1 (n0 + 3) (by first | omega | (dsimp only; omega))).trans v20_3
      have v21_4 : π21 (p + 15) = π (p + 15) := (hc21.2.1 (p + 15) (by first | omega | (dsimp only; omega))).trans v20_4
      have v21_5 : π21 (p + 13) = π (p + 13) := (hc21.2.1 (p + 13) (by first | omega | (dsimp only; omega))).trans v20_5
      have v21_6 : π21 (p + 17) = ((π (f + 1)).der.am ((π (p + 15)).mul (π (f + 1))) (fi i) 0) := (hc21.2.1 (p + 17) (by first | omega | (dsimp only; omega))).trans v20_6
      have v21_7 : π21 (p + 19) = PS.der (π (f + 3)) := (hc21.2.1 (p + 19) (by first | omega | (dsimp only; omega))).trans v20_7
      have v21_8 : π21 (p + 23) = PS.mul (π (f + 1)) (PS.der (π (f + 3))) := (hc21.2.1 (p + 23) (by first | omega | (dsimp only; omega))).trans v20_8
      have g21_0 : π21 (o + 1) = (dfP kd i (π (f + 1), π (f + 3)) (π (n0 + 1), π (n0 + 3)) (π (p + 13)) (π (p + 15))).1 := he21_0.trans (by rw [v20_9, he20]; unfold dfP; rw [if_neg (by omega)]; rfl)
      have g21_1 : π21 (o + 3) = (dfP kd i (π (f + 1), π (f + 3)) (π (n0 + 1), π (n0 + 3)) (π (p + 13)) (π (p + 15))).2 := he21_1.trans (by rw [v20_9, he20]; unfold dfP; rw [if_neg (by omega)]; rfl)
      exact v_rv hx hBD DX4_differentiate_169 (⟨π21, hch21, g21_0, g21_1⟩)
    · exact absurd c130 (by omega)
