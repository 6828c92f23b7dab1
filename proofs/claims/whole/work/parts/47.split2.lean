def Hid (p : Prop) : Prop := p
/-- the sizes in a step of Hermite -/
theorem lower_pre {N D W Q R M : PS} {n t : Nat} (hH : HI N D W Q R M n) (ht : 2 ≤ t ∧ t ≤ 48) (hv : 1 < (M.thk (t - 1)).size) (hc : (M.thk t).size ≤ 1) (hD20 : D.size ≤ 20) (hg : gdI N D W ≤ 10) (hW3 : W.size ≤ 4) :
    Hid ((hU M t).size + (hV M t).der.size ≤ 49 ∧ (hY M t).size + (hV M t).size ≤ 49 ∧ R.size + (((hU M t).mul (hV M t).der).inv (hV M t)).size ≤ 49 ∧ ((hU M t).mul (hV M t).der).size + (hB R M t).size ≤ 49 ∧ W.size + (hB R M t).size ≤ 49 ∧ (hU M t).size + (hY M t).size ≤ 49 ∧ (D.thn.dv (hY M t)).size + (hB R M t).size ≤ 49) ∧
    ((hV M t).fin ∧ hV M t ≠ PS.zero ∧ (hY M t).fin ∧ hY M t ≠ PS.zero ∧ (hU M t).fin ∧ (D.thn.dv (hY M t)).fin ∧ (hB R M t).fin ∧ W.fin) ∧ (∀ j : Nat, j < t - 1 → ((hV M t).pw j).size + (hV M t).size ≤ 49) ∧ 1 < (hV M t).size ∧
    ((((hU M t).mul (hV M t).der).mul (hB R M t)).size + Int.toNat 0 ≤ 48 ∧ (W.mul (hB R M t)).size + Int.toNat 0 ≤ 48 ∧ (hU M t).size + ((hB R M t).der.am (W.mul (hB R M t)) (fi 1) 0).size ≤ 49 ∧ ((hU M t).mul ((hB R M t).der.am (W.mul (hB R M t)) (fi 1) 0)).size + Int.toNat 0 ≤ 48) ∧
    ((D.thn.dv (hY M t)).mul (hB R M t)).size + Int.toNat 0 ≤ 48 := by
  obtain ⟨htn, ⟨v1, v2, v3, v4⟩, ⟨eM, u1, u2⟩, ⟨eE, e1, e2⟩, ⟨s1, s2, s3⟩, ⟨i1, i2⟩, hmlt⟩ := her_str hH ht.1 hv hc
  obtain ⟨hBl, hXe, hXf, hH2⟩ := her_step hH ht.1 ht.2 hv hc
  have hMs := hH.2.1.2.2.2
  have hRs := hH.2.2.2.2.2.2.2
  have hWf := hH.1.2.2.2.2.2
  have hEsz : D.thn.size ≤ 20 := by have := (PS.thn_spec hH.1.2.1 hH.1.2.2.1 (by omega)).2.2.2; omega
  have up := PS.fpos u1 u2
  have hV0 := PS.ne_of_size (show 0 < (hV M t).size by omega)
  have e1p := PS.fpos e1 e2
  have hYf : (hY M t).fin := PS.fin_pw v1 _
  have hY0 : hY M t ≠ PS.zero := PS.pw_ne v1 hV0 _
  have hBf : (hB R M t).fin := ⟨_, hBl⟩
  have sV' := PS.der_size v1
  have sinv := PS.size_le i1
  have sB := PS.size_le hBl
  have sB' := PS.der_size hBf
  have sUV : (PS.mul (hU M t) (hV M t).der).size ≤ (hU M t).size + (hV M t).size - 2 := PS.size_le (PS.lt_mul' (PS.fisz u1).2 (PS.der_lt (N := (hV M t).size - 1) (PS.lt_mono (PS.fisz v1).2 (by omega))) (by omega))
  have sUVB := PS.size_le (PS.lt_mul' (N := 48) (PS.lt_mono (PS.fisz (PS.fin_mul u1 (PS.fin_der v1))).2 sUV) hBl (by omega))
  have sWB := PS.size_le (PS.lt_mul' (N := 20) (PS.fisz hWf).2 hBl (by omega))
  have lam : ((hB R M t).der.am (W.mul (hB R M t)) (fi 1) 0).lt 20 := PS.am_lt (N := 20) (M := 20) (c := fi 1) (s := 0) (PS.lt_mono (PS.fisz (PS.fin_der hBf)).2 (by omega)) (PS.lt_mul' (PS.fisz hWf).2 hBl (by omega)) (by omega)
  have sam := PS.size_le lam
  have sUam := PS.size_le (PS.lt_mul' (N := 48) (PS.fisz u1).2 lam (by omega))
  have sEB := PS.size_le (PS.lt_mul' (N := 48) (PS.fisz e1).2 hBl (by omega))
  have e0 : Int.toNat 0 = 0 := rfl
  refine ⟨?_, ⟨v1, hV0, hYf, hY0, u1, e1, hBf, hWf⟩, fun j hj => ?_, v2, ⟨by omega, by omega, by omega, by omega⟩, by omega⟩
  · show _ ∧ _
    refine ⟨by omega, by omega, by omega, by omega, by omega, by omega, by omega⟩
  · have h1 := PS.fsize_mul (PS.fin_pw v1 j) v1 (PS.pw_ne v1 hV0 j) hV0
    have h2 : (PS.pw (hV M t) (j + 1)).dvd (hY M t) := ⟨PS.pw (hV M t) (t - 1 - (j + 1)), PS.fin_pw v1 _, by rw [← PS.pw_add, show t - 1 - (j + 1) + (j + 1) = t - 1 by omega]; rfl⟩
    have h3 := (PS.dvd_size (PS.fin_pw v1 _) h2 hY0).1
    have h4 : (PS.mul (PS.pw (hV M t) j) (hV M t)).size = (PS.pw (hV M t) (j + 1)).size := rfl
    omega
set_option maxHeartbeats 4000000 in
theorem q_lower (l : Launch) (G : Gl) (Λ : Lay) (sz : Nat) (μ : Mem) {π : Nat → PS} {κ σ w q r t : Nat} {N D W Q R M : PS} {n : Nat} (hA : AB Λ μ π) (hI : INV G Λ) (hK : kitK Λ κ) (hS : spK Λ σ κ) (hks : κ + 16 < σ ∨ σ + 16 < κ) (hkw : polyK Λ w) (hFq : fracK Λ q) (hFr : fracK Λ r) (oq : (q + 4 < κ ∨ κ + 16 < q) ∧ (q + 4 < σ ∨ σ + 16 < q)) (or : (r + 4 < κ ∨ κ + 16 < r) ∧ (r + 4 < σ ∨ σ + 16 < r)) (ow : (w < κ ∨ κ + 16 < w) ∧ (w < σ ∨ σ + 16 < w) ∧ (w < q ∨ q + 4 < w) ∧ (w < r ∨ r + 4 < w)) (oqr : q + 4 < r ∨ r + 4 < q) (hw : π w = W) (hq1 : π (q + 1) = Q) (hq3 : π (q + 3) = D.thn) (hr1 : π (r + 1) = R) (hr3 : π (r + 3) = M) (hfac : π (σ + 1) = hV M t) (hH : HI N D W Q R M n) (ht : 2 ≤ t ∧ t ≤ 48) (hv : 1 < (M.thk (t - 1)).size) (hc : (M.thk t).size ≤ 1) (hD20 : D.size ≤ 20) (hg : gdI N D W ≤ 10) (hW3 : W.size ≤ 4) : Sp l G yX9_lower cX9_lower 5 none 4 [.ref σ, iv (t : Int), .ref w, .ref q, .ref r] Λ sz μ (pV (fun μ' => ∃ π', Chg Λ (fun c => c = q + 1 ∨ c = q + 3 ∨ c = r + 1 ∨ c = r + 3 ∨ (σ < c ∧ c < σ + 17) ∨ (κ < c ∧ c < κ + 17)) μ μ' π π' ∧ π' (q + 1) = Q.am ((D.thn.dv (hY M t)).mul (hB R M t)) (fi 1) 0 ∧ π' (q + 3) = D.thn ∧ π' (r + 1) = hR2 W R M t ∧ π' (r + 3) = (hU M t).mul (hY M t) ∧ π' w = W)) := by
  refine Sp.intro (by decide) (Nat.le_of_ble_eq_true rfl) (fun x hx hBD => ?_)
  refine v_lv [(0, .ref σ), (1, iv (t : Int)), (2, .ref w), (3, .ref q), (4, .ref r)] rfl ?_
  have F0 : Hid (σ + 13 ≠ σ + 5) := (show σ + 13 ≠ σ + 5 from (by omega))
  have F1 : Hid (σ + 13 ≠ σ + 1) := (show σ + 13 ≠ σ + 1 from (by omega))
  have F2 : Hid ((fun c => c = q + 1 ∨ c = q + 3 ∨ c = r + 1 ∨ c = r + 3 ∨ (σ < c ∧ c < σ + 17) ∨ (κ < c ∧ c < κ + 17)) (σ + 13)) := (show (fun c => c = q + 1 ∨ c = q + 3 ∨ c = r + 1 ∨ c = r + 3 ∨ (σ < c ∧ c < σ + 17) ∨ (κ < c ∧ c < κ + 17)) (σ + 13) from (by first | omega | (dsimp only; omega)))
  have F3 : Hid (w ≠ σ + 13) := (show w ≠ σ + 13 from (by omega))
  have F4 : Hid (q + 1 ≠ σ + 13) := (show q + 1 ≠ σ + 13 from (by omega))
  have F5 : Hid (q + 3 ≠ σ + 13) := (show q + 3 ≠ σ + 13 from (by omega))
  have F6 : Hid (r + 1 ≠ σ + 13) := (show r + 1 ≠ σ + 13 from (by omega))
  have F7 : Hid (r + 3 ≠ σ + 13) := (show r + 3 ≠ σ + 13 from (by omega))
  have F8 : Hid (σ + 1 ≠ σ + 13) := (show σ + 1 ≠ σ + 13 from (by omega))
  have F9 : Hid (σ + 5 ≠ σ + 13) := (show σ + 5 ≠ σ + 13 from (by omega))
  have F10 : Hid (σ + 15 ≠ r + 3) := (show σ + 15 ≠ r + 3 from (by omega))
  have F11 : Hid ((fun c => c = q + 1 ∨ c = q + 3 ∨ c = r + 1 ∨ c = r + 3 ∨ (σ < c ∧ c < σ + 17) ∨ (κ < c ∧ c < κ + 17)) (σ + 15)) := (show (fun c => c = q + 1 ∨ c = q + 3 ∨ c = r + 1 ∨ c = r + 3 ∨ (σ < c ∧ c < σ + 17) ∨ (κ < c ∧ c < κ + 17)) (σ + 15) from (by first | omega | (dsimp only; omega)))
  have F12 : Hid (w ≠ σ + 15) := (show w ≠ σ + 15 from (by omega))
  have F13 : Hid (q + 1 ≠ σ + 15) := (show q + 1 ≠ σ + 15 from (by omega))
  have F14 : Hid (q + 3 ≠ σ + 15) := (show q + 3 ≠ σ + 15 from (by omega))
  have F15 : Hid (r + 1 ≠ σ + 15) := (show r + 1 ≠ σ + 15 from (by omega))
  have F16 : Hid (r + 3 ≠ σ + 15) := (show r + 3 ≠ σ + 15 from (by omega))
  have F17 : Hid (σ + 1 ≠ σ + 15) := (show σ + 1 ≠ σ + 15 from (by omega))
  have F18 : Hid (σ + 5 ≠ σ + 15) := (show σ + 5 ≠ σ + 15 from (by omega))
  have F19 : Hid (σ + 13 ≠ σ + 15) := (show σ + 13 ≠ σ + 15 from (by omega))
  have F20 : Hid (σ + 7 ≠ σ + 15) := (show σ + 7 ≠ σ + 15 from (by omega))
  have F21 : Hid (σ + 7 ≠ σ + 13) := (show σ + 7 ≠ σ + 13 from (by omega))
  have F22 : Hid (σ + 15 ≠ σ + 13) := (show σ + 15 ≠ σ + 13 from (by omega))
  have F23 : Hid ((fun c => c = q + 1 ∨ c = q + 3 ∨ c = r + 1 ∨ c = r + 3 ∨ (σ < c ∧ c < σ + 17) ∨ (κ < c ∧ c < κ + 17)) (σ + 7)) := (show (fun c => c = q + 1 ∨ c = q + 3 ∨ c = r + 1 ∨ c = r + 3 ∨ (σ < c ∧ c < σ + 17) ∨ (κ < c ∧ c < κ + 17)) (σ + 7) from (by first | omega | (dsimp only; omega)))
  have F24 : Hid (w ≠ σ + 7) := (show w ≠ σ + 7 from (by omega))
  have F25 : Hid (q + 1 ≠ σ + 7) := (show q + 1 ≠ σ + 7 from (by omega))
  have F26 : Hid (q + 3 ≠ σ + 7) := (show q + 3 ≠ σ + 7 from (by omega))
  have F27 : Hid (r + 1 ≠ σ + 7) := (show r + 1 ≠ σ + 7 from (by omega))
  have F28 : Hid (r + 3 ≠ σ + 7) := (show r + 3 ≠ σ + 7 from (by omega))
  have F29 : Hid (σ + 1 ≠ σ + 7) := (show σ + 1 ≠ σ + 7 from (by omega))
  have F30 : Hid (σ + 5 ≠ σ + 7) := (show σ + 5 ≠ σ + 7 from (by omega))
  have F31 : Hid (σ + 13 ≠ σ + 7) := (show σ + 13 ≠ σ + 7 from (by omega))
  have F32 : Hid (σ + 15 ≠ σ + 1) := (show σ + 15 ≠ σ + 1 from (by omega))
  have F33 : Hid (σ + 9 ≠ r + 1) := (show σ + 9 ≠ r + 1 from (by omega))
  have F34 : Hid (σ + 9 ≠ σ + 15) := (show σ + 9 ≠ σ + 15 from (by omega))
  have F35 : Hid ((fun c => c = q + 1 ∨ c = q + 3 ∨ c = r + 1 ∨ c = r + 3 ∨ (σ < c ∧ c < σ + 17) ∨ (κ < c ∧ c < κ + 17)) (σ + 9)) := (show (fun c => c = q + 1 ∨ c = q + 3 ∨ c = r + 1 ∨ c = r + 3 ∨ (σ < c ∧ c < σ + 17) ∨ (κ < c ∧ c < κ + 17)) (σ + 9) from (by first | omega | (dsimp only; omega)))
  have F36 : Hid (w ≠ σ + 9) := (show w ≠ σ + 9 from (by omega))
  have F37 : Hid (q + 1 ≠ σ + 9) := (show q + 1 ≠ σ + 9 from (by omega))
  have F38 : Hid (q + 3 ≠ σ + 9) := (show q + 3 ≠ σ + 9 from (by omega))
  have F39 : Hid (r + 1 ≠ σ + 9) := (show r + 1 ≠ σ + 9 from (by omega))
  have F40 : Hid (r + 3 ≠ σ + 9) := (show r + 3 ≠ σ + 9 from (by omega))
  have F41 : Hid (σ + 1 ≠ σ + 9) := (show σ + 1 ≠ σ + 9 from (by omega))
  have F42 : Hid (σ + 5 ≠ σ + 9) := (show σ + 5 ≠ σ + 9 from (by omega))
  have F43 : Hid (σ + 7 ≠ σ + 9) := (show σ + 7 ≠ σ + 9 from (by omega))
  have F44 : Hid (σ + 13 ≠ σ + 9) := (show σ + 13 ≠ σ + 9 from (by omega))
  have F45 : Hid (σ + 15 ≠ σ + 9) := (show σ + 15 ≠ σ + 9 from (by omega))
  have F46 : Hid (σ + 9 ≠ σ + 1) := (show σ + 9 ≠ σ + 1 from (by omega))
  have F47 : Hid ((fun c => c = q + 1 ∨ c = q + 3 ∨ c = r + 1 ∨ c = r + 3 ∨ (σ < c ∧ c < σ + 17) ∨ (κ < c ∧ c < κ + 17)) (r + 1)) := (show (fun c => c = q + 1 ∨ c = q + 3 ∨ c = r + 1 ∨ c = r + 3 ∨ (σ < c ∧ c < σ + 17) ∨ (κ < c ∧ c < κ + 17)) (r + 1) from (by first | omega | (dsimp only; omega)))
  have F48 : Hid (w ≠ r + 1) := (show w ≠ r + 1 from (by omega))
  have F49 : Hid (q + 1 ≠ r + 1) := (show q + 1 ≠ r + 1 from (by omega))
  have F50 : Hid (q + 3 ≠ r + 1) := (show q + 3 ≠ r + 1 from (by omega))
  have F51 : Hid (r + 3 ≠ r + 1) := (show r + 3 ≠ r + 1 from (by omega))
  have F52 : Hid (σ + 1 ≠ r + 1) := (show σ + 1 ≠ r + 1 from (by omega))
  have F53 : Hid (σ + 5 ≠ r + 1) := (show σ + 5 ≠ r + 1 from (by omega))
  have F54 : Hid (σ + 7 ≠ r + 1) := (show σ + 7 ≠ r + 1 from (by omega))
  have F55 : Hid (σ + 13 ≠ r + 1) := (show σ + 13 ≠ r + 1 from (by omega))
  have F56 : Hid (σ + 15 ≠ r + 1) := (show σ + 15 ≠ r + 1 from (by omega))
  have F57 : Hid (σ + 9 ≠ σ + 13) := (show σ + 9 ≠ σ + 13 from (by omega))
  have F58 : Hid (σ + 15 ≠ w) := (show σ + 15 ≠ w from (by omega))
  have F59 : Hid (σ + 15 ≠ σ + 7) := (show σ + 15 ≠ σ + 7 from (by omega))
  have F60 : Hid (r + 3 ≠ σ + 5) := (show r + 3 ≠ σ + 5 from (by omega))
  have F61 : Hid ((fun c => c = q + 1 ∨ c = q + 3 ∨ c = r + 1 ∨ c = r + 3 ∨ (σ < c ∧ c < σ + 17) ∨ (κ < c ∧ c < κ + 17)) (r + 3)) := (show (fun c => c = q + 1 ∨ c = q + 3 ∨ c = r + 1 ∨ c = r + 3 ∨ (σ < c ∧ c < σ + 17) ∨ (κ < c ∧ c < κ + 17)) (r + 3) from (by first | omega | (dsimp only; omega)))
  have F62 : Hid (w ≠ r + 3) := (show w ≠ r + 3 from (by omega))
  have F63 : Hid (q + 1 ≠ r + 3) := (show q + 1 ≠ r + 3 from (by omega))
  have F64 : Hid (q + 3 ≠ r + 3) := (show q + 3 ≠ r + 3 from (by omega))
  have F65 : Hid (σ + 1 ≠ r + 3) := (show σ + 1 ≠ r + 3 from (by omega))
  have F66 : Hid (σ + 5 ≠ r + 3) := (show σ + 5 ≠ r + 3 from (by omega))
  have F67 : Hid (σ + 7 ≠ r + 3) := (show σ + 7 ≠ r + 3 from (by omega))
  have F68 : Hid (σ + 9 ≠ r + 3) := (show σ + 9 ≠ r + 3 from (by omega))
  have F69 : Hid (σ + 13 ≠ r + 3) := (show σ + 13 ≠ r + 3 from (by omega))
  have F70 : Hid (r + 1 ≠ r + 3) := (show r + 1 ≠ r + 3 from (by omega))
  have F71 : Hid (σ + 15 ≠ q + 3) := (show σ + 15 ≠ q + 3 from (by omega))
  have F72 : Hid (σ + 15 ≠ σ + 5) := (show σ + 15 ≠ σ + 5 from (by omega))
  have F73 : Hid ((fun c => c = q + 1 ∨ c = q + 3 ∨ c = r + 1 ∨ c = r + 3 ∨ (σ < c ∧ c < σ + 17) ∨ (κ < c ∧ c < κ + 17)) (q + 1)) := (show (fun c => c = q + 1 ∨ c = q + 3 ∨ c = r + 1 ∨ c = r + 3 ∨ (σ < c ∧ c < σ + 17) ∨ (κ < c ∧ c < κ + 17)) (q + 1) from (by first | omega | (dsimp only; omega)))
  have F74 : Hid (w ≠ q + 1) := (show w ≠ q + 1 from (by omega))
  have F75 : Hid (q + 3 ≠ q + 1) := (show q + 3 ≠ q + 1 from (by omega))
  have F76 : Hid (σ + 1 ≠ q + 1) := (show σ + 1 ≠ q + 1 from (by omega))
  have F77 : Hid (σ + 5 ≠ q + 1) := (show σ + 5 ≠ q + 1 from (by omega))
  have F78 : Hid (σ + 7 ≠ q + 1) := (show σ + 7 ≠ q + 1 from (by omega))
  have F79 : Hid (σ + 9 ≠ q + 1) := (show σ + 9 ≠ q + 1 from (by omega))
  have F80 : Hid (r + 1 ≠ q + 1) := (show r + 1 ≠ q + 1 from (by omega))
  have F81 : Hid (r + 3 ≠ q + 1) := (show r + 3 ≠ q + 1 from (by omega))
  have F82 : Hid (σ + 13 ≠ q + 1) := (show σ + 13 ≠ q + 1 from (by omega))
  have F83 : Hid (σ + 15 ≠ q + 1) := (show σ + 15 ≠ q + 1 from (by omega))
  obtain ⟨hz, hw2, hw3, hw4, hw5, hw6⟩ := lower_pre hH ht hv hc hD20 hg hW3
  clear hD20 hg hW3
  obtain ⟨v1, hV0, hYf, hY0, u1, e1, hBl, hWf⟩ := hw2
  have hch0 : Chg Λ (fun c => c = q + 1 ∨ c = q + 3 ∨ c = r + 1 ∨ c = r + 3 ∨ (σ < c ∧ c < σ + 17) ∨ (κ < c ∧ c < κ + 17)) μ μ π π := Chg.rf hA
  refine v_aload hx DX9_lower_0 0 rfl ?_
  refine v_get hx DX9_lower_1 FLRX9_39 hS.1 (v := .ref κ) rfl ?_
  refine v_aload hx DX9_lower_4 0 rfl ?_
  refine v_get hx DX9_lower_5 FLRX9_12 hS.1 (v := .ref (σ + 1)) rfl ?_
  refine v_iload hx DX9_lower_8 1 rfl ?_
  refine v_push hx DX9_lower_9 ?_
  refine v_isub hx DX9_lower_10 ?_
  refine v_aload hx DX9_lower_11 0 rfl ?_
  refine v_get hx DX9_lower_12 FLRX9_21 hS.1 (v := .ref (σ + 5)) rfl ?_
  refine v_cVv hx DX9_lower_15 CVRX9_100 [.ref (σ + 1), iv ((t : Int) - 1), .ref (σ + 5)] (q_raise l G Λ sz μ hA hK hS.2.1.1 hS.2.1.2.2.1 (by omega) (by omega) (by omega) (by omega) (fun j hj => by rw [hfac]; exact hw3 j (by omega))) hK.1 rfl rfl (Nat.le_of_ble_eq_true rfl) (by decide) ⟨Nat.le_refl _, Nat.le_refl _⟩ (fun μ1 hμ1 => ?_)
  obtain ⟨π1, hc1, he1_0⟩ := hμ1
  have hA1 := hc1.1
  have hch1 := hch0.trans (hc1.mono (fun c hc => by first | omega | (dsimp only at hc ⊢; omega)))
  have v1_0 : π1 w = W := (hc1.2.1 w (by first | omega | (dsimp only; omega))).trans hw
  have v1_1 : π1 (q + 1) = Q := (hc1.2.1 (q + 1) (by first | omega | (dsimp only; omega))).trans hq1
  have v1_2 : π1 (q + 3) = D.thn := (hc1.2.1 (q + 3) (by first | omega | (dsimp only; omega))).trans hq3
  have v1_3 : π1 (r + 1) = R := (hc1.2.1 (r + 1) (by first | omega | (dsimp only; omega))).trans hr1
  have v1_4 : π1 (r + 3) = M := (hc1.2.1 (r + 3) (by first | omega | (dsimp only; omega))).trans hr3
  have v1_5 : π1 (σ + 1) = hV M t := (hc1.2.1 (σ + 1) (by first | omega | (dsimp only; omega))).trans hfac
  have g1_0 : π1 (σ + 5) = hY M t := he1_0.trans (by rw [hfac, show ((t : Int) - 1).toNat = t - 1 by omega]; rfl)
  refine v_aload hx DX9_lower_18 0 rfl ?_
  refine v_get hx DX9_lower_19 FLRX9_33 hS.1 (v := .ref (σ + 13)) rfl ?_
  refine v_aload hx DX9_lower_22 0 rfl ?_
  refine v_get hx DX9_lower_23 FLRX9_21 hS.1 (v := .ref (σ + 5)) rfl ?_
  refine v_aload hx DX9_lower_26 0 rfl ?_
  refine v_get hx DX9_lower_27 FLRX9_12 hS.1 (v := .ref (σ + 1)) rfl ?_
  refine v_cVv hx DX9_lower_30 CVRX9_51 [.ref (σ + 5), .ref (σ + 1)] (s_product l G Λ sz μ1 hS.2.2.2.2.1 hS.2.1.2.2.1 hS.2.1.1 F0 F1 (AB.get (A := π1 (σ + 13)) hA1 hS.2.2.2.2.1 rfl) (AB.get (A := hY M t) hA1 hS.2.1.2.2.1 g1_0) (AB.get (A := hV M t) hA1 hS.2.1.1 v1_5) (by have hz2 := hz; unfold Hid at hz2; omega)) hS.2.2.2.2.1.1 rfl rfl (Nat.le_of_ble_eq_true rfl) (by decide) ⟨Nat.le_refl _, Nat.le_refl _⟩ (fun μ2 hμ2 => ?_)
  obtain ⟨π2, hc2, he2, ho2⟩ := Chg.one (S := fun c => c = q + 1 ∨ c = q + 3 ∨ c = r + 1 ∨ c = r + 3 ∨ (σ < c ∧ c < σ + 17) ∨ (κ < c ∧ c < κ + 17)) (R := PS.mul (hY M t) (hV M t)) hA1 hS.2.2.2.2.1 F2 hμ2
  have hA2 := hc2.1
  have hch2 := hch1.trans hc2
  have v2_0 : π2 w = W := (ho2 w F3).trans v1_0
  have v2_1 : π2 (q + 1) = Q := (ho2 (q + 1) F4).trans v1_1
  have v2_2 : π2 (q + 3) = D.thn := (ho2 (q + 3) F5).trans v1_2
  have v2_3 : π2 (r + 1) = R := (ho2 (r + 1) F6).trans v1_3
  have v2_4 : π2 (r + 3) = M := (ho2 (r + 3) F7).trans v1_4
  have v2_5 : π2 (σ + 1) = hV M t := (ho2 (σ + 1) F8).trans v1_5
  have v2_6 : π2 (σ + 5) = hY M t := (ho2 (σ + 5) F9).trans g1_0
  refine v_aload hx DX9_lower_33 0 rfl ?_
  refine v_get hx DX9_lower_34 FLRX9_36 hS.1 (v := .ref (σ + 15)) rfl ?_
  refine v_aload hx DX9_lower_37 4 rfl ?_
  refine v_get hx DX9_lower_39 FLRX9_82 hFr.1 (v := .ref (r + 3)) rfl ?_
  refine v_cVv hx DX9_lower_42 CVRX9_43 [.ref (r + 3)] (s_become l G Λ sz μ2 hS.2.2.2.2.2 hFr.2.2 F10 (AB.get (A := π2 (σ + 15)) hA2 hS.2.2.2.2.2 rfl) (AB.get (A := M) hA2 hFr.2.2 v2_4)) hS.2.2.2.2.2.1 rfl rfl (Nat.le_of_ble_eq_true rfl) (by decide) ⟨Nat.le_refl _, Nat.le_refl _⟩ (fun μ3 hμ3 => ?_)
  obtain ⟨π3, hc3, he3, ho3⟩ := Chg.one (S := fun c => c = q + 1 ∨ c = q + 3 ∨ c = r + 1 ∨ c = r + 3 ∨ (σ < c ∧ c < σ + 17) ∨ (κ < c ∧ c < κ + 17)) (R := M) hA2 hS.2.2.2.2.2 F11 hμ3
  have hA3 := hc3.1
  have hch3 := hch2.trans hc3
  have v3_0 : π3 w = W := (ho3 w F12).trans v2_0
  have v3_1 : π3 (q + 1) = Q := (ho3 (q + 1) F13).trans v2_1
  have v3_2 : π3 (q + 3) = D.thn := (ho3 (q + 3) F14).trans v2_2
  have v3_3 : π3 (r + 1) = R := (ho3 (r + 1) F15).trans v2_3
  have v3_4 : π3 (r + 3) = M := (ho3 (r + 3) F16).trans v2_4
  have v3_5 : π3 (σ + 1) = hV M t := (ho3 (σ + 1) F17).trans v2_5
  have v3_6 : π3 (σ + 5) = hY M t := (ho3 (σ + 5) F18).trans v2_6
  have v3_7 : π3 (σ + 13) = PS.mul (hY M t) (hV M t) := (ho3 (σ + 13) F19).trans he2
  refine v_aload hx DX9_lower_45 0 rfl ?_
  refine v_get hx DX9_lower_46 FLRX9_24 hS.1 (v := .ref (σ + 7)) rfl ?_
  refine v_aload hx DX9_lower_49 0 rfl ?_
  refine v_get hx DX9_lower_50 FLRX9_36 hS.1 (v := .ref (σ + 15)) rfl ?_
  refine v_aload hx DX9_lower_53 0 rfl ?_
  refine v_get hx DX9_lower_54 FLRX9_33 hS.1 (v := .ref (σ + 13)) rfl ?_
  refine v_cVv hx DX9_lower_57 CVRX9_104 [.ref (σ + 15), .ref (σ + 13)] (s_quotient l G Λ sz μ3 hI hS.2.1.2.2.2 hS.2.2.2.2.2 hS.2.2.2.2.1 F20 F21 F22 (AB.get (A := π3 (σ + 7)) hA3 hS.2.1.2.2.2 rfl) (AB.get (A := M) hA3 hS.2.2.2.2.2 he3) (AB.get (A := PS.mul (hY M t) (hV M t)) hA3 hS.2.2.2.2.1 v3_7) (PS.fmul_ne hYf v1 hY0 hV0)) hS.2.1.2.2.2.1 rfl rfl (Nat.le_of_ble_eq_true rfl) (by decide) ⟨Nat.le_refl _, Nat.le_refl _⟩ (fun μ4 hμ4 => ?_)
  obtain ⟨π4, hc4, he4, hf4, ho4⟩ := Chg.two (S := fun c => c = q + 1 ∨ c = q + 3 ∨ c = r + 1 ∨ c = r + 3 ∨ (σ < c ∧ c < σ + 17) ∨ (κ < c ∧ c < κ + 17)) (R := PS.dv M (PS.mul (hY M t) (hV M t))) (R' := PS.md M (PS.mul (hY M t) (hV M t))) hA3 hS.2.1.2.2.2 hS.2.2.2.2.2 F20 F23 F11 hμ4
  have hA4 := hc4.1
  have hch4 := hch3.trans hc4
  have v4_0 : π4 w = W := (ho4 w F24 F12).trans v3_0
  have v4_1 : π4 (q + 1) = Q := (ho4 (q + 1) F25 F13).trans v3_1
  have v4_2 : π4 (q + 3) = D.thn := (ho4 (q + 3) F26 F14).trans v3_2
  have v4_3 : π4 (r + 1) = R := (ho4 (r + 1) F27 F15).trans v3_3
  have v4_4 : π4 (r + 3) = M := (ho4 (r + 3) F28 F16).trans v3_4
  have v4_5 : π4 (σ + 1) = hV M t := (ho4 (σ + 1) F29 F17).trans v3_5
  have v4_6 : π4 (σ + 5) = hY M t := (ho4 (σ + 5) F30 F18).trans v3_6
  have v4_7 : π4 (σ + 13) = PS.mul (hY M t) (hV M t) := (ho4 (σ + 13) F31 F19).trans v3_7
  have w5 : π4 (σ + 7) = hU M t := he4.trans rfl
  refine v_aload hx DX9_lower_60 0 rfl ?_
  refine v_get hx DX9_lower_61 FLRX9_36 hS.1 (v := .ref (σ + 15)) rfl ?_
  refine v_aload hx DX9_lower_64 0 rfl ?_
  refine v_get hx DX9_lower_65 FLRX9_12 hS.1 (v := .ref (σ + 1)) rfl ?_
  refine v_cVv hx DX9_lower_68 CVRX9_59 [.ref (σ + 1)] (s_slope l G Λ sz μ4 hS.2.2.2.2.2 hS.2.1.1 F32 (AB.get (A := PS.md M (PS.mul (hY M t) (hV M t))) hA4 hS.2.2.2.2.2 hf4) (AB.get (A := hV M t) hA4 hS.2.1.1 v4_5)) hS.2.2.2.2.2.1 rfl rfl (Nat.le_of_ble_eq_true rfl) (by decide) ⟨Nat.le_refl _, Nat.le_refl _⟩ (fun μ6 hμ6 => ?_)
  obtain ⟨π6, hc6, he6, ho6⟩ := Chg.one (S := fun c => c = q + 1 ∨ c = q + 3 ∨ c = r + 1 ∨ c = r + 3 ∨ (σ < c ∧ c < σ + 17) ∨ (κ < c ∧ c < κ + 17)) (R := PS.der (hV M t)) hA4 hS.2.2.2.2.2 F11 hμ6
  have hA6 := hc6.1
  have hch6 := hch4.trans hc6
  have v6_0 : π6 w = W := (ho6 w F12).trans v4_0
  have v6_1 : π6 (q + 1) = Q := (ho6 (q + 1) F13).trans v4_1
  have v6_2 : π6 (q + 3) = D.thn := (ho6 (q + 3) F14).trans v4_2
  have v6_3 : π6 (r + 1) = R := (ho6 (r + 1) F15).trans v4_3
  have v6_4 : π6 (r + 3) = M := (ho6 (r + 3) F16).trans v4_4
  have v6_5 : π6 (σ + 1) = hV M t := (ho6 (σ + 1) F17).trans v4_5
  have v6_6 : π6 (σ + 5) = hY M t := (ho6 (σ + 5) F18).trans v4_6
  have v6_7 : π6 (σ + 13) = PS.mul (hY M t) (hV M t) := (ho6 (σ + 13) F19).trans v4_7
  have v6_8 : π6 (σ + 7) = hU M t := (ho6 (σ + 7) F20).trans w5
  refine v_aload hx DX9_lower_71 0 rfl ?_
  refine v_get hx DX9_lower_72 FLRX9_33 hS.1 (v := .ref (σ + 13)) rfl ?_
  refine v_aload hx DX9_lower_75 0 rfl ?_
  refine v_get hx DX9_lower_76 FLRX9_24 hS.1 (v := .ref (σ + 7)) rfl ?_
  refine v_aload hx DX9_lower_79 0 rfl ?_
  refine v_get hx DX9_lower_80 FLRX9_36 hS.1 (v := .ref (σ + 15)) rfl ?_
  refine v_cVv hx DX9_lower_83 CVRX9_51 [.ref (σ + 7), .ref (σ + 15)] (s_product l G Λ sz μ6 hS.2.2.2.2.1 hS.2.1.2.2.2 hS.2.2.2.2.2 F31 F19 (AB.get (A := PS.mul (hY M t) (hV M t)) hA6 hS.2.2.2.2.1 v6_7) (AB.get (A := hU M t) hA6 hS.2.1.2.2.2 v6_8) (AB.get (A := PS.der (hV M t)) hA6 hS.2.2.2.2.2 he6) (by have hz2 := hz; unfold Hid at hz2; omega)) hS.2.2.2.2.1.1 rfl rfl (Nat.le_of_ble_eq_true rfl) (by decide) ⟨Nat.le_refl _, Nat.le_refl _⟩ (fun μ7 hμ7 => ?_)
  obtain ⟨π7, hc7, he7, ho7⟩ := Chg.one (S := fun c => c = q + 1 ∨ c = q + 3 ∨ c = r + 1 ∨ c = r + 3 ∨ (σ < c ∧ c < σ + 17) ∨ (κ < c ∧ c < κ + 17)) (R := PS.mul (hU M t) (PS.der (hV M t))) hA6 hS.2.2.2.2.1 F2 hμ7
  have hA7 := hc7.1
  have hch7 := hch6.trans hc7
  have v7_0 : π7 w = W := (ho7 w F3).trans v6_0
  have v7_1 : π7 (q + 1) = Q := (ho7 (q + 1) F4).trans v6_1
  have v7_2 : π7 (q + 3) = D.thn := (ho7 (q + 3) F5).trans v6_2
  have v7_3 : π7 (r + 1) = R := (ho7 (r + 1) F6).trans v6_3
  have v7_4 : π7 (r + 3) = M := (ho7 (r + 3) F7).trans v6_4
  have v7_5 : π7 (σ + 1) = hV M t := (ho7 (σ + 1) F8).trans v6_5
  have v7_6 : π7 (σ + 5) = hY M t := (ho7 (σ + 5) F9).trans v6_6
  have v7_8 : π7 (σ + 7) = hU M t := (ho7 (σ + 7) F21).trans v6_8
  have v7_9 : π7 (σ + 15) = PS.der (hV M t) := (ho7 (σ + 15) F22).trans he6
  refine v_aload hx DX9_lower_86 0 rfl ?_
  refine v_get hx DX9_lower_87 FLRX9_39 hS.1 (v := .ref κ) rfl ?_
  refine v_aload hx DX9_lower_90 0 rfl ?_
  refine v_get hx DX9_lower_91 FLRX9_33 hS.1 (v := .ref (σ + 13)) rfl ?_
  refine v_aload hx DX9_lower_94 0 rfl ?_
  refine v_get hx DX9_lower_95 FLRX9_12 hS.1 (v := .ref (σ + 1)) rfl ?_
  refine v_aload hx DX9_lower_98 0 rfl ?_
  refine v_get hx DX9_lower_99 FLRX9_36 hS.1 (v := .ref (σ + 15)) rfl ?_
  refine v_cVv hx DX9_lower_102 CVRX9_107 [.ref (σ + 13), .ref (σ + 1), .ref (σ + 15)] (q_invert l G Λ sz μ7 hA7 hI hK hS.2.2.2.2.1 hS.2.1.1 hS.2.2.2.2.2 (by omega) (by omega) (by omega) (by rw [v7_5]; exact hw4)) hK.1 rfl rfl (Nat.le_of_ble_eq_true rfl) (by decide) ⟨Nat.le_refl _, Nat.le_refl _⟩ (fun μ8 hμ8 => ?_)
  obtain ⟨π8, hc8, he8_0⟩ := hμ8
  have hA8 := hc8.1
  have hch8 := hch7.trans (hc8.mono (fun c hc => by first | omega | (dsimp only at hc ⊢; omega)))
  have v8_0 : π8 w = W := (hc8.2.1 w (by first | omega | (dsimp only; omega))).trans v7_0
  have v8_1 : π8 (q + 1) = Q := (hc8.2.1 (q + 1) (by first | omega | (dsimp only; omega))).trans v7_1
  have v8_2 : π8 (q + 3) = D.thn := (hc8.2.1 (q + 3) (by first | omega | (dsimp only; omega))).trans v7_2
  have v8_3 : π8 (r + 1) = R := (hc8.2.1 (r + 1) (by first | omega | (dsimp only; omega))).trans v7_3
  have v8_4 : π8 (r + 3) = M := (hc8.2.1 (r + 3) (by first | omega | (dsimp only; omega))).trans v7_4
  have v8_5 : π8 (σ + 1) = hV M t := (hc8.2.1 (σ + 1) (by first | omega | (dsimp only; omega))).trans v7_5
  have v8_6 : π8 (σ + 5) = hY M t := (hc8.2.1 (σ + 5) (by first | omega | (dsimp only; omega))).trans v7_6
  have v8_7 : π8 (σ + 7) = hU M t := (hc8.2.1 (σ + 7) (by first | omega | (dsimp only; omega))).trans v7_8
  have v8_9 : π8 (σ + 13) = PS.mul (hU M t) (PS.der (hV M t)) := (hc8.2.1 (σ + 13) (by first | omega | (dsimp only; omega))).trans he7
  have g8_0 : π8 (σ + 15) = (PS.inv (PS.mul (hU M t) (hV M t).der) (hV M t)) := he8_0.trans (by rw [he7, v7_5])
  refine v_aload hx DX9_lower_105 0 rfl ?_
  refine v_get hx DX9_lower_106 FLRX9_27 hS.1 (v := .ref (σ + 9)) rfl ?_
  refine v_aload hx DX9_lower_109 4 rfl ?_
  refine v_get hx DX9_lower_111 FLRX9_75 hFr.1 (v := .ref (r + 1)) rfl ?_
  refine v_aload hx DX9_lower_114 0 rfl ?_
  refine v_get hx DX9_lower_115 FLRX9_36 hS.1 (v := .ref (σ + 15)) rfl ?_
  refine v_cVv hx DX9_lower_118 CVRX9_51 [.ref (r + 1), .ref (σ + 15)] (s_product l G Λ sz μ8 hS.2.2.1 hFr.2.1 hS.2.2.2.2.2 F33 F34 (AB.get (A := π8 (σ + 9)) hA8 hS.2.2.1 rfl) (AB.get (A := R) hA8 hFr.2.1 v8_3) (AB.get (A := (PS.inv (PS.mul (hU M t) (hV M t).der) (hV M t))) hA8 hS.2.2.2.2.2 g8_0) (by have hz2 := hz; unfold Hid at hz2; omega)) hS.2.2.1.1 rfl rfl (Nat.le_of_ble_eq_true rfl) (by decide) ⟨Nat.le_refl _, Nat.le_refl _⟩ (fun μ9 hμ9 => ?_)
  obtain ⟨π9, hc9, he9, ho9⟩ := Chg.one (S := fun c => c = q + 1 ∨ c = q + 3 ∨ c = r + 1 ∨ c = r + 3 ∨ (σ < c ∧ c < σ + 17) ∨ (κ < c ∧ c < κ + 17)) (R := PS.mul R (PS.inv (PS.mul (hU M t) (hV M t).der) (hV M t))) hA8 hS.2.2.1 F35 hμ9
  have hA9 := hc9.1
  have hch9 := hch8.trans hc9
  have v9_0 : π9 w = W := (ho9 w F36).trans v8_0
  have v9_1 : π9 (q + 1) = Q := (ho9 (q + 1) F37).trans v8_1
  have v9_2 : π9 (q + 3) = D.thn := (ho9 (q + 3) F38).trans v8_2
  have v9_3 : π9 (r + 1) = R := (ho9 (r + 1) F39).trans v8_3
  have v9_4 : π9 (r + 3) = M := (ho9 (r + 3) F40).trans v8_4
  have v9_5 : π9 (σ + 1) = hV M t := (ho9 (σ + 1) F41).trans v8_5
  have v9_6 : π9 (σ + 5) = hY M t := (ho9 (σ + 5) F42).trans v8_6
  have v9_7 : π9 (σ + 7) = hU M t := (ho9 (σ + 7) F43).trans v8_7
  have v9_8 : π9 (σ + 13) = PS.mul (hU M t) (PS.der (hV M t)) := (ho9 (σ + 13) F44).trans v8_9
  have v9_9 : π9 (σ + 15) = (PS.inv (PS.mul (hU M t) (hV M t).der) (hV M t)) := (ho9 (σ + 15) F45).trans g8_0
  refine v_aload hx DX9_lower_121 0 rfl ?_
  refine v_get hx DX9_lower_122 FLRX9_27 hS.1 (v := .ref (σ + 9)) rfl ?_
  refine v_aload hx DX9_lower_125 0 rfl ?_
  refine v_get hx DX9_lower_126 FLRX9_12 hS.1 (v := .ref (σ + 1)) rfl ?_
  refine v_cVv hx DX9_lower_129 CVRX9_110 [.ref (σ + 1)] (s_reduceBy l G Λ sz μ9 hI hS.2.2.1 hS.2.1.1 F46 (AB.get (A := PS.mul R (PS.inv (PS.mul (hU M t) (hV M t).der) (hV M t))) hA9 hS.2.2.1 he9) (AB.get (A := hV M t) hA9 hS.2.1.1 v9_5) hV0) hS.2.2.1.1 rfl rfl (Nat.le_of_ble_eq_true rfl) (by decide) ⟨Nat.le_refl _, Nat.le_refl _⟩ (fun μ10 hμ10 => ?_)
  obtain ⟨π10, hc10, he10, ho10⟩ := Chg.one (S := fun c => c = q + 1 ∨ c = q + 3 ∨ c = r + 1 ∨ c = r + 3 ∨ (σ < c ∧ c < σ + 17) ∨ (κ < c ∧ c < κ + 17)) (R := PS.md (PS.mul R (PS.inv (PS.mul (hU M t) (hV M t).der) (hV M t))) (hV M t)) hA9 hS.2.2.1 F35 hμ10
  have hA10 := hc10.1
  have hch10 := hch9.trans hc10
  have v10_0 : π10 w = W := (ho10 w F36).trans v9_0
  have v10_1 : π10 (q + 1) = Q := (ho10 (q + 1) F37).trans v9_1
  have v10_2 : π10 (q + 3) = D.thn := (ho10 (q + 3) F38).trans v9_2
  have v10_3 : π10 (r + 1) = R := (ho10 (r + 1) F39).trans v9_3
  have v10_4 : π10 (r + 3) = M := (ho10 (r + 3) F40).trans v9_4
  have v10_5 : π10 (σ + 1) = hV M t := (ho10 (σ + 1) F41).trans v9_5
  have v10_6 : π10 (σ + 5) = hY M t := (ho10 (σ + 5) F42).trans v9_6
  have v10_7 : π10 (σ + 7) = hU M t := (ho10 (σ + 7) F43).trans v9_7
  have v10_8 : π10 (σ + 13) = PS.mul (hU M t) (PS.der (hV M t)) := (ho10 (σ + 13) F44).trans v9_8
  have v10_9 : π10 (σ + 15) = (PS.inv (PS.mul (hU M t) (hV M t).der) (hV M t)) := (ho10 (σ + 15) F45).trans v9_9
  refine v_aload hx DX9_lower_132 0 rfl ?_
  refine v_get hx DX9_lower_133 FLRX9_27 hS.1 (v := .ref (σ + 9)) rfl ?_
  refine v_push hx DX9_lower_136 ?_
  refine v_iload hx DX9_lower_138 1 rfl ?_
  refine v_isub hx DX9_lower_139 ?_
  refine v_cNp hx DX9_lower_140 CSRX9_113 [iv (102 - (t : Int))] (s_inverse l G Λ sz μ10 hI (by omega)) rfl rfl (Nat.le_of_ble_eq_true rfl) (by decide) ⟨Nat.le_refl _, Nat.le_refl _⟩ ?_
  refine v_cVv hx DX9_lower_143 CVRX9_117 [iv (ivI (102 - (t : Int)))] (s_scale l G Λ sz μ10 hS.2.2.1 (AB.get (A := PS.md (PS.mul R (PS.inv (PS.mul (hU M t) (hV M t).der) (hV M t))) (hV M t)) hA10 hS.2.2.1 he10) (by have := ivI_rng (102 - (t : Int)); omega)) hS.2.2.1.1 rfl rfl (Nat.le_of_ble_eq_true rfl) (by decide) ⟨Nat.le_refl _, Nat.le_refl _⟩ (fun μ13 hμ13 => ?_)
  obtain ⟨π13, hc13, he13, ho13⟩ := Chg.one (S := fun c => c = q + 1 ∨ c = q + 3 ∨ c = r + 1 ∨ c = r + 3 ∨ (σ < c ∧ c < σ + 17) ∨ (κ < c ∧ c < κ + 17)) (R := PS.sm (fi (ivI (102 - (t : Int)))) (PS.md (PS.mul R (PS.inv (PS.mul (hU M t) (hV M t).der) (hV M t))) (hV M t))) hA10 hS.2.2.1 F35 hμ13
  have hA13 := hc13.1
  have hch13 := hch10.trans hc13
  have v13_0 : π13 w = W := (ho13 w F36).trans v10_0
  have v13_1 : π13 (q + 1) = Q := (ho13 (q + 1) F37).trans v10_1
  have v13_2 : π13 (q + 3) = D.thn := (ho13 (q + 3) F38).trans v10_2
  have v13_3 : π13 (r + 1) = R := (ho13 (r + 1) F39).trans v10_3
  have v13_4 : π13 (r + 3) = M := (ho13 (r + 3) F40).trans v10_4
  have v13_5 : π13 (σ + 1) = hV M t := (ho13 (σ + 1) F41).trans v10_5
  have v13_6 : π13 (σ + 5) = hY M t := (ho13 (σ + 5) F42).trans v10_6
  have v13_7 : π13 (σ + 7) = hU M t := (ho13 (σ + 7) F43).trans v10_7
  have v13_8 : π13 (σ + 13) = PS.mul (hU M t) (PS.der (hV M t)) := (ho13 (σ + 13) F44).trans v10_8
  have v13_9 : π13 (σ + 15) = (PS.inv (PS.mul (hU M t) (hV M t).der) (hV M t)) := (ho13 (σ + 15) F45).trans v10_9
  have w14 : π13 (σ + 9) = hB R M t := he13.trans rfl
  refine v_aload hx DX9_lower_146 0 rfl ?_
  refine v_get hx DX9_lower_147 FLRX9_36 hS.1 (v := .ref (σ + 15)) rfl ?_
  refine v_aload hx DX9_lower_150 0 rfl ?_
  refine v_get hx DX9_lower_151 FLRX9_33 hS.1 (v := .ref (σ + 13)) rfl ?_
  refine v_aload hx DX9_lower_154 0 rfl ?_
  refine v_get hx DX9_lower_155 FLRX9_27 hS.1 (v := .ref (σ + 9)) rfl ?_
  refine v_cVv hx DX9_lower_158 CVRX9_51 [.ref (σ + 13), .ref (σ + 9)] (s_product l G Λ sz μ13 hS.2.2.2.2.2 hS.2.2.2.2.1 hS.2.2.1 F22 F45 (AB.get (A := (PS.inv (PS.mul (hU M t) (hV M t).der) (hV M t))) hA13 hS.2.2.2.2.2 v13_9) (AB.get (A := PS.mul (hU M t) (PS.der (hV M t))) hA13 hS.2.2.2.2.1 v13_8) (AB.get (A := hB R M t) hA13 hS.2.2.1 w14) (by have hz2 := hz; unfold Hid at hz2; omega)) hS.2.2.2.2.2.1 rfl rfl (Nat.le_of_ble_eq_true rfl) (by decide) ⟨Nat.le_refl _, Nat.le_refl _⟩ (fun μ15 hμ15 => ?_)
  obtain ⟨π15, hc15, he15, ho15⟩ := Chg.one (S := fun c => c = q + 1 ∨ c = q + 3 ∨ c = r + 1 ∨ c = r + 3 ∨ (σ < c ∧ c < σ + 17) ∨ (κ < c ∧ c < κ + 17)) (R := PS.mul (PS.mul (hU M t) (PS.der (hV M t))) (hB R M t)) hA13 hS.2.2.2.2.2 F11 hμ15
  have hA15 := hc15.1
  have hch15 := hch13.trans hc15
  have v15_0 : π15 w = W := (ho15 w F12).trans v13_0
  have v15_1 : π15 (q + 1) = Q := (ho15 (q + 1) F13).trans v13_1
  have v15_2 : π15 (q + 3) = D.thn := (ho15 (q + 3) F14).trans v13_2
  have v15_3 : π15 (r + 1) = R := (ho15 (r + 1) F15).trans v13_3
  have v15_4 : π15 (r + 3) = M := (ho15 (r + 3) F16).trans v13_4
  have v15_5 : π15 (σ + 1) = hV M t := (ho15 (σ + 1) F17).trans v13_5
  have v15_6 : π15 (σ + 5) = hY M t := (ho15 (σ + 5) F18).trans v13_6
  have v15_7 : π15 (σ + 7) = hU M t := (ho15 (σ + 7) F20).trans v13_7
  have v15_8 : π15 (σ + 13) = PS.mul (hU M t) (PS.der (hV M t)) := (ho15 (σ + 13) F19).trans v13_8
  have v15_10 : π15 (σ + 9) = hB R M t := (ho15 (σ + 9) F34).trans w14
  refine v_aload hx DX9_lower_161 4 rfl ?_
  refine v_get hx DX9_lower_163 FLRX9_75 hFr.1 (v := .ref (r + 1)) rfl ?_
  refine v_aload hx DX9_lower_166 0 rfl ?_
  refine v_get hx DX9_lower_167 FLRX9_36 hS.1 (v := .ref (σ + 15)) rfl ?_
  refine v_iload hx DX9_lower_170 1 rfl ?_
  refine v_push hx DX9_lower_171 ?_
  refine v_isub hx DX9_lower_172 ?_
  refine v_push hx DX9_lower_173 ?_
  refine v_cVv hx DX9_lower_174 CVRX9_120 [.ref (σ + 15), iv ((t : Int) - 1), iv 0] (s_addMultiple l G Λ sz μ15 hFr.2.1 hS.2.2.2.2.2 F15 (AB.get (A := R) hA15 hFr.2.1 v15_3) (AB.get (A := PS.mul (PS.mul (hU M t) (PS.der (hV M t))) (hB R M t)) hA15 hS.2.2.2.2.2 he15) (by omega) (by omega) hw5.1) hFr.2.1.1 rfl rfl (Nat.le_of_ble_eq_true rfl) (by decide) ⟨Nat.le_refl _, Nat.le_refl _⟩ (fun μ16 hμ16 => ?_)
  obtain ⟨π16, hc16, he16, ho16⟩ := Chg.one (S := fun c => c = q + 1 ∨ c = q + 3 ∨ c = r + 1 ∨ c = r + 3 ∨ (σ < c ∧ c < σ + 17) ∨ (κ < c ∧ c < κ + 17)) (R := PS.am R (PS.mul (PS.mul (hU M t) (PS.der (hV M t))) (hB R M t)) (fi ((t : Int) - 1)) (Int.toNat 0)) hA15 hFr.2.1 F47 hμ16
  have hA16 := hc16.1
  have hch16 := hch15.trans hc16
  have v16_0 : π16 w = W := (ho16 w F48).trans v15_0
  have v16_1 : π16 (q + 1) = Q := (ho16 (q + 1) F49).trans v15_1
  have v16_2 : π16 (q + 3) = D.thn := (ho16 (q + 3) F50).trans v15_2
  have v16_4 : π16 (r + 3) = M := (ho16 (r + 3) F51).trans v15_4
  have v16_5 : π16 (σ + 1) = hV M t := (ho16 (σ + 1) F52).trans v15_5
  have v16_6 : π16 (σ + 5) = hY M t := (ho16 (σ + 5) F53).trans v15_6
  have v16_7 : π16 (σ + 7) = hU M t := (ho16 (σ + 7) F54).trans v15_7
  have v16_8 : π16 (σ + 13) = PS.mul (hU M t) (PS.der (hV M t)) := (ho16 (σ + 13) F55).trans v15_8
  have v16_9 : π16 (σ + 9) = hB R M t := (ho16 (σ + 9) F33).trans v15_10
  have v16_10 : π16 (σ + 15) = PS.mul (PS.mul (hU M t) (PS.der (hV M t))) (hB R M t) := (ho16 (σ + 15) F56).trans he15
  have w17 : π16 (r + 1) = PS.am R (PS.mul (PS.mul (hU M t) (hV M t).der) (hB R M t)) (fi ((t : Int) - 1)) 0 := he16.trans rfl
  refine v_aload hx DX9_lower_177 0 rfl ?_
  refine v_get hx DX9_lower_178 FLRX9_39 hS.1 (v := .ref κ) rfl ?_
  refine v_aload hx DX9_lower_181 4 rfl ?_
  refine v_get hx DX9_lower_183 FLRX9_75 hFr.1 (v := .ref (r + 1)) rfl ?_
  refine v_aload hx DX9_lower_186 0 rfl ?_
  refine v_get hx DX9_lower_187 FLRX9_12 hS.1 (v := .ref (σ + 1)) rfl ?_
  refine v_cVv hx DX9_lower_190 CVRX9_54 [.ref (r + 1), .ref (σ + 1)] (q_cut l G Λ sz μ16 hA16 hI hK hFr.2.1 hS.2.1.1 (by omega) (by omega) (by omega) (by rw [v16_5]; exact hV0)) hK.1 rfl rfl (Nat.le_of_ble_eq_true rfl) (by decide) ⟨Nat.le_refl _, Nat.le_refl _⟩ (fun μ18 hμ18 => ?_)
  obtain ⟨π18, hc18, he18_0⟩ := hμ18
  have hA18 := hc18.1
  have hch18 := hch16.trans (hc18.mono (fun c hc => by first | omega | (dsimp only at hc ⊢; omega)))
  have v18_0 : π18 w = W := (hc18.2.1 w (by first | omega | (dsimp only; omega))).trans v16_0
  have v18_1 : π18 (q + 1) = Q := (hc18.2.1 (q + 1) (by first | omega | (dsimp only; omega))).trans v16_1
  have v18_2 : π18 (q + 3) = D.thn := (hc18.2.1 (q + 3) (by first | omega | (dsimp only; omega))).trans v16_2
  have v18_3 : π18 (r + 3) = M := (hc18.2.1 (r + 3) (by first | omega | (dsimp only; omega))).trans v16_4
  have v18_4 : π18 (σ + 1) = hV M t := (hc18.2.1 (σ + 1) (by first | omega | (dsimp only; omega))).trans v16_5
  have v18_5 : π18 (σ + 5) = hY M t := (hc18.2.1 (σ + 5) (by first | omega | (dsimp only; omega))).trans v16_6
  have v18_6 : π18 (σ + 7) = hU M t := (hc18.2.1 (σ + 7) (by first | omega | (dsimp only; omega))).trans v16_7
  have v18_7 : π18 (σ + 13) = PS.mul (hU M t) (PS.der (hV M t)) := (hc18.2.1 (σ + 13) (by first | omega | (dsimp only; omega))).trans v16_8
  have v18_8 : π18 (σ + 9) = hB R M t := (hc18.2.1 (σ + 9) (by first | omega | (dsimp only; omega))).trans v16_9
  have v18_9 : π18 (σ + 15) = PS.mul (PS.mul (hU M t) (PS.der (hV M t))) (hB R M t) := (hc18.2.1 (σ + 15) (by first | omega | (dsimp only; omega))).trans v16_10
  have g18_0 : π18 (r + 1) = hX R M t := he18_0.trans (by rw [w17, v16_5]; rfl)
  refine v_aload hx DX9_lower_193 0 rfl ?_
  refine v_get hx DX9_lower_194 FLRX9_33 hS.1 (v := .ref (σ + 13)) rfl ?_
  refine v_aload hx DX9_lower_197 0 rfl ?_
  refine v_get hx DX9_lower_198 FLRX9_27 hS.1 (v := .ref (σ + 9)) rfl ?_
  refine v_cVv hx DX9_lower_201 CVRX9_59 [.ref (σ + 9)] (s_slope l G Λ sz μ18 hS.2.2.2.2.1 hS.2.2.1 F44 (AB.get (A := PS.mul (hU M t) (PS.der (hV M t))) hA18 hS.2.2.2.2.1 v18_7) (AB.get (A := hB R M t) hA18 hS.2.2.1 v18_8)) hS.2.2.2.2.1.1 rfl rfl (Nat.le_of_ble_eq_true rfl) (by decide) ⟨Nat.le_refl _, Nat.le_refl _⟩ (fun μ19 hμ19 => ?_)
  obtain ⟨π19, hc19, he19, ho19⟩ := Chg.one (S := fun c => c = q + 1 ∨ c = q + 3 ∨ c = r + 1 ∨ c = r + 3 ∨ (σ < c ∧ c < σ + 17) ∨ (κ < c ∧ c < κ + 17)) (R := PS.der (hB R M t)) hA18 hS.2.2.2.2.1 F2 hμ19
  have hA19 := hc19.1
  have hch19 := hch18.trans hc19
  have v19_0 : π19 w = W := (ho19 w F3).trans v18_0
  have v19_1 : π19 (q + 1) = Q := (ho19 (q + 1) F4).trans v18_1
  have v19_2 : π19 (q + 3) = D.thn := (ho19 (q + 3) F5).trans v18_2
  have v19_3 : π19 (r + 3) = M := (ho19 (r + 3) F7).trans v18_3
  have v19_4 : π19 (σ + 1) = hV M t := (ho19 (σ + 1) F8).trans v18_4
  have v19_5 : π19 (σ + 5) = hY M t := (ho19 (σ + 5) F9).trans v18_5
  have v19_6 : π19 (σ + 7) = hU M t := (ho19 (σ + 7) F21).trans v18_6
  have v19_8 : π19 (σ + 9) = hB R M t := (ho19 (σ + 9) F57).trans v18_8
  have v19_9 : π19 (σ + 15) = PS.mul (PS.mul (hU M t) (PS.der (hV M t))) (hB R M t) := (ho19 (σ + 15) F22).trans v18_9
  have v19_10 : π19 (r + 1) = hX R M t := (ho19 (r + 1) F6).trans g18_0
  refine v_aload hx DX9_lower_204 0 rfl ?_
  refine v_get hx DX9_lower_205 FLRX9_36 hS.1 (v := .ref (σ + 15)) rfl ?_
  refine v_aload hx DX9_lower_208 2 rfl ?_
  refine v_aload hx DX9_lower_209 0 rfl ?_
  refine v_get hx DX9_lower_210 FLRX9_27 hS.1 (v := .ref (σ + 9)) rfl ?_
  refine v_cVv hx DX9_lower_213 CVRX9_51 [.ref w, .ref (σ + 9)] (s_product l G Λ sz μ19 hS.2.2.2.2.2 hkw hS.2.2.1 F58 F45 (AB.get (A := PS.mul (PS.mul (hU M t) (PS.der (hV M t))) (hB R M t)) hA19 hS.2.2.2.2.2 v19_9) (AB.get (A := W) hA19 hkw v19_0) (AB.get (A := hB R M t) hA19 hS.2.2.1 v19_8) (by have hz2 := hz; unfold Hid at hz2; omega)) hS.2.2.2.2.2.1 rfl rfl (Nat.le_of_ble_eq_true rfl) (by decide) ⟨Nat.le_refl _, Nat.le_refl _⟩ (fun μ20 hμ20 => ?_)
  obtain ⟨π20, hc20, he20, ho20⟩ := Chg.one (S := fun c => c = q + 1 ∨ c = q + 3 ∨ c = r + 1 ∨ c = r + 3 ∨ (σ < c ∧ c < σ + 17) ∨ (κ < c ∧ c < κ + 17)) (R := PS.mul W (hB R M t)) hA19 hS.2.2.2.2.2 F11 hμ20
  have hA20 := hc20.1
  have hch20 := hch19.trans hc20
  have v20_0 : π20 w = W := (ho20 w F12).trans v19_0
  have v20_1 : π20 (q + 1) = Q := (ho20 (q + 1) F13).trans v19_1
  have v20_2 : π20 (q + 3) = D.thn := (ho20 (q + 3) F14).trans v19_2
  have v20_3 : π20 (r + 3) = M := (ho20 (r + 3) F16).trans v19_3
  have v20_4 : π20 (σ + 1) = hV M t := (ho20 (σ + 1) F17).trans v19_4
  have v20_5 : π20 (σ + 5) = hY M t := (ho20 (σ + 5) F18).trans v19_5
  have v20_6 : π20 (σ + 7) = hU M t := (ho20 (σ + 7) F20).trans v19_6
  have v20_7 : π20 (σ + 9) = hB R M t := (ho20 (σ + 9) F34).trans v19_8
  have v20_9 : π20 (r + 1) = hX R M t := (ho20 (r + 1) F15).trans v19_10
  have v20_10 : π20 (σ + 13) = PS.der (hB R M t) := (ho20 (σ + 13) F19).trans he19
  refine v_aload hx DX9_lower_216 0 rfl ?_
  refine v_get hx DX9_lower_217 FLRX9_33 hS.1 (v := .ref (σ + 13)) rfl ?_
  refine v_aload hx DX9_lower_220 0 rfl ?_
  refine v_get hx DX9_lower_221 FLRX9_36 hS.1 (v := .ref (σ + 15)) rfl ?_
  refine v_push hx DX9_lower_224 ?_
  refine v_push hx DX9_lower_225 ?_
  refine v_cVv hx DX9_lower_226 CVRX9_120 [.ref (σ + 15), iv 1, iv 0] (s_addMultiple l G Λ sz μ20 hS.2.2.2.2.1 hS.2.2.2.2.2 F19 (AB.get (A := PS.der (hB R M t)) hA20 hS.2.2.2.2.1 v20_10) (AB.get (A := PS.mul W (hB R M t)) hA20 hS.2.2.2.2.2 he20) (by omega) (by omega) hw5.2.1) hS.2.2.2.2.1.1 rfl rfl (Nat.le_of_ble_eq_true rfl) (by decide) ⟨Nat.le_refl _, Nat.le_refl _⟩ (fun μ21 hμ21 => ?_)
  obtain ⟨π21, hc21, he21, ho21⟩ := Chg.one (S := fun c => c = q + 1 ∨ c = q + 3 ∨ c = r + 1 ∨ c = r + 3 ∨ (σ < c ∧ c < σ + 17) ∨ (κ < c ∧ c < κ + 17)) (R := PS.am (PS.der (hB R M t)) (PS.mul W (hB R M t)) (fi 1) (Int.toNat 0)) hA20 hS.2.2.2.2.1 F2 hμ21
  have hA21 := hc21.1
  have hch21 := hch20.trans hc21
  have v21_0 : π21 w = W := (ho21 w F3).trans v20_0
  have v21_1 : π21 (q + 1) = Q := (ho21 (q + 1) F4).trans v20_1
  have v21_2 : π21 (q + 3) = D.thn := (ho21 (q + 3) F5).trans v20_2
  have v21_3 : π21 (r + 3) = M := (ho21 (r + 3) F7).trans v20_3
  have v21_4 : π21 (σ + 1) = hV M t := (ho21 (σ + 1) F8).trans v20_4
  have v21_5 : π21 (σ + 5) = hY M t := (ho21 (σ + 5) F9).trans v20_5
  have v21_6 : π21 (σ + 7) = hU M t := (ho21 (σ + 7) F21).trans v20_6
  have v21_7 : π21 (σ + 9) = hB R M t := (ho21 (σ + 9) F57).trans v20_7
  have v21_8 : π21 (r + 1) = hX R M t := (ho21 (r + 1) F6).trans v20_9
  have v21_10 : π21 (σ + 15) = PS.mul W (hB R M t) := (ho21 (σ + 15) F22).trans he20
  have w22 : π21 (σ + 13) = PS.am (hB R M t).der (PS.mul W (hB R M t)) (fi 1) 0 := he21.trans rfl
  refine v_aload hx DX9_lower_229 0 rfl ?_
  refine v_get hx DX9_lower_230 FLRX9_36 hS.1 (v := .ref (σ + 15)) rfl ?_
  refine v_aload hx DX9_lower_233 0 rfl ?_
  refine v_get hx DX9_lower_234 FLRX9_24 hS.1 (v := .ref (σ + 7)) rfl ?_
  refine v_aload hx DX9_lower_237 0 rfl ?_
  refine v_get hx DX9_lower_238 FLRX9_33 hS.1 (v := .ref (σ + 13)) rfl ?_
  refine v_cVv hx DX9_lower_241 CVRX9_51 [.ref (σ + 7), .ref (σ + 13)] (s_product l G Λ sz μ21 hS.2.2.2.2.2 hS.2.1.2.2.2 hS.2.2.2.2.1 F59 F22 (AB.get (A := PS.mul W (hB R M t)) hA21 hS.2.2.2.2.2 v21_10) (AB.get (A := hU M t) hA21 hS.2.1.2.2.2 v21_6) (AB.get (A := PS.am (hB R M t).der (PS.mul W (hB R M t)) (fi 1) 0) hA21 hS.2.2.2.2.1 w22) hw5.2.2.1) hS.2.2.2.2.2.1 rfl rfl (Nat.le_of_ble_eq_true rfl) (by decide) ⟨Nat.le_refl _, Nat.le_refl _⟩ (fun μ23 hμ23 => ?_)
  obtain ⟨π23, hc23, he23, ho23⟩ := Chg.one (S := fun c => c = q + 1 ∨ c = q + 3 ∨ c = r + 1 ∨ c = r + 3 ∨ (σ < c ∧ c < σ + 17) ∨ (κ < c ∧ c < κ + 17)) (R := PS.mul (hU M t) (PS.am (hB R M t).der (PS.mul W (hB R M t)) (fi 1) 0)) hA21 hS.2.2.2.2.2 F11 hμ23
  have hA23 := hc23.1
  have hch23 := hch21.trans hc23
  have v23_0 : π23 w = W := (ho23 w F12).trans v21_0
  have v23_1 : π23 (q + 1) = Q := (ho23 (q + 1) F13).trans v21_1
  have v23_2 : π23 (q + 3) = D.thn := (ho23 (q + 3) F14).trans v21_2
  have v23_3 : π23 (r + 3) = M := (ho23 (r + 3) F16).trans v21_3
  have v23_4 : π23 (σ + 1) = hV M t := (ho23 (σ + 1) F17).trans v21_4
  have v23_5 : π23 (σ + 5) = hY M t := (ho23 (σ + 5) F18).trans v21_5
  have v23_6 : π23 (σ + 7) = hU M t := (ho23 (σ + 7) F20).trans v21_6
  have v23_7 : π23 (σ + 9) = hB R M t := (ho23 (σ + 9) F34).trans v21_7
  have v23_8 : π23 (r + 1) = hX R M t := (ho23 (r + 1) F15).trans v21_8
  have v23_10 : π23 (σ + 13) = PS.am (hB R M t).der (PS.mul W (hB R M t)) (fi 1) 0 := (ho23 (σ + 13) F19).trans w22
  refine v_aload hx DX9_lower_244 4 rfl ?_
  refine v_get hx DX9_lower_246 FLRX9_75 hFr.1 (v := .ref (r + 1)) rfl ?_
  refine v_aload hx DX9_lower_249 0 rfl ?_
  refine v_get hx DX9_lower_250 FLRX9_36 hS.1 (v := .ref (σ + 15)) rfl ?_
  refine v_push hx DX9_lower_253 ?_
  refine v_push hx DX9_lower_255 ?_
  refine v_cVv hx DX9_lower_256 CVRX9_120 [.ref (σ + 15), iv 100, iv 0] (s_addMultiple l G Λ sz μ23 hFr.2.1 hS.2.2.2.2.2 F15 (AB.get (A := hX R M t) hA23 hFr.2.1 v23_8) (AB.get (A := PS.mul (hU M t) (PS.am (hB R M t).der (PS.mul W (hB R M t)) (fi 1) 0)) hA23 hS.2.2.2.2.2 he23) (by omega) (by omega) hw5.2.2.2) hFr.2.1.1 rfl rfl (Nat.le_of_ble_eq_true rfl) (by decide) ⟨Nat.le_refl _, Nat.le_refl _⟩ (fun μ24 hμ24 => ?_)
  obtain ⟨π24, hc24, he24, ho24⟩ := Chg.one (S := fun c => c = q + 1 ∨ c = q + 3 ∨ c = r + 1 ∨ c = r + 3 ∨ (σ < c ∧ c < σ + 17) ∨ (κ < c ∧ c < κ + 17)) (R := PS.am (hX R M t) (PS.mul (hU M t) (PS.am (hB R M t).der (PS.mul W (hB R M t)) (fi 1) 0)) (fi 100) (Int.toNat 0)) hA23 hFr.2.1 F47 hμ24
  have hA24 := hc24.1
  have hch24 := hch23.trans hc24
  have v24_0 : π24 w = W := (ho24 w F48).trans v23_0
  have v24_1 : π24 (q + 1) = Q := (ho24 (q + 1) F49).trans v23_1
  have v24_2 : π24 (q + 3) = D.thn := (ho24 (q + 3) F50).trans v23_2
  have v24_3 : π24 (r + 3) = M := (ho24 (r + 3) F51).trans v23_3
  have v24_4 : π24 (σ + 1) = hV M t := (ho24 (σ + 1) F52).trans v23_4
  have v24_5 : π24 (σ + 5) = hY M t := (ho24 (σ + 5) F53).trans v23_5
  have v24_6 : π24 (σ + 7) = hU M t := (ho24 (σ + 7) F54).trans v23_6
  have v24_7 : π24 (σ + 9) = hB R M t := (ho24 (σ + 9) F33).trans v23_7
  have v24_9 : π24 (σ + 13) = PS.am (hB R M t).der (PS.mul W (hB R M t)) (fi 1) 0 := (ho24 (σ + 13) F55).trans v23_10
  have v24_10 : π24 (σ + 15) = PS.mul (hU M t) (PS.am (hB R M t).der (PS.mul W (hB R M t)) (fi 1) 0) := (ho24 (σ + 15) F56).trans he23
  have w25 : π24 (r + 1) = hR2 W R M t := he24.trans rfl
  refine v_aload hx DX9_lower_259 4 rfl ?_
  refine v_get hx DX9_lower_261 FLRX9_82 hFr.1 (v := .ref (r + 3)) rfl ?_
  refine v_aload hx DX9_lower_264 0 rfl ?_
  refine v_get hx DX9_lower_265 FLRX9_24 hS.1 (v := .ref (σ + 7)) rfl ?_
  refine v_aload hx DX9_lower_268 0 rfl ?_
  refine v_get hx DX9_lower_269 FLRX9_21 hS.1 (v := .ref (σ + 5)) rfl ?_
  refine v_cVv hx DX9_lower_272 CVRX9_51 [.ref (σ + 7), .ref (σ + 5)] (s_product l G Λ sz μ24 hFr.2.2 hS.2.1.2.2.2 hS.2.1.2.2.1 F28 F60 (AB.get (A := M) hA24 hFr.2.2 v24_3) (AB.get (A := hU M t) hA24 hS.2.1.2.2.2 v24_6) (AB.get (A := hY M t) hA24 hS.2.1.2.2.1 v24_5) (by have hz2 := hz; unfold Hid at hz2; omega)) hFr.2.2.1 rfl rfl (Nat.le_of_ble_eq_true rfl) (by decide) ⟨Nat.le_refl _, Nat.le_refl _⟩ (fun μ26 hμ26 => ?_)
  obtain ⟨π26, hc26, he26, ho26⟩ := Chg.one (S := fun c => c = q + 1 ∨ c = q + 3 ∨ c = r + 1 ∨ c = r + 3 ∨ (σ < c ∧ c < σ + 17) ∨ (κ < c ∧ c < κ + 17)) (R := PS.mul (hU M t) (hY M t)) hA24 hFr.2.2 F61 hμ26
  have hA26 := hc26.1
  have hch26 := hch24.trans hc26
  have v26_0 : π26 w = W := (ho26 w F62).trans v24_0
  have v26_1 : π26 (q + 1) = Q := (ho26 (q + 1) F63).trans v24_1
  have v26_2 : π26 (q + 3) = D.thn := (ho26 (q + 3) F64).trans v24_2
  have v26_4 : π26 (σ + 1) = hV M t := (ho26 (σ + 1) F65).trans v24_4
  have v26_5 : π26 (σ + 5) = hY M t := (ho26 (σ + 5) F66).trans v24_5
  have v26_6 : π26 (σ + 7) = hU M t := (ho26 (σ + 7) F67).trans v24_6
  have v26_7 : π26 (σ + 9) = hB R M t := (ho26 (σ + 9) F68).trans v24_7
  have v26_8 : π26 (σ + 13) = PS.am (hB R M t).der (PS.mul W (hB R M t)) (fi 1) 0 := (ho26 (σ + 13) F69).trans v24_9
  have v26_9 : π26 (σ + 15) = PS.mul (hU M t) (PS.am (hB R M t).der (PS.mul W (hB R M t)) (fi 1) 0) := (ho26 (σ + 15) F10).trans v24_10
  have v26_10 : π26 (r + 1) = hR2 W R M t := (ho26 (r + 1) F70).trans w25
  refine v_aload hx DX9_lower_275 0 rfl ?_
  refine v_get hx DX9_lower_276 FLRX9_36 hS.1 (v := .ref (σ + 15)) rfl ?_
  refine v_aload hx DX9_lower_279 3 rfl ?_
  refine v_get hx DX9_lower_280 FLRX9_82 hFq.1 (v := .ref (q + 3)) rfl ?_
  refine v_cVv hx DX9_lower_283 CVRX9_43 [.ref (q + 3)] (s_become l G Λ sz μ26 hS.2.2.2.2.2 hFq.2.2 F71 (AB.get (A := PS.mul (hU M t) (PS.am (hB R M t).der (PS.mul W (hB R M t)) (fi 1) 0)) hA26 hS.2.2.2.2.2 v26_9) (AB.get (A := D.thn) hA26 hFq.2.2 v26_2)) hS.2.2.2.2.2.1 rfl rfl (Nat.le_of_ble_eq_true rfl) (by decide) ⟨Nat.le_refl _, Nat.le_refl _⟩ (fun μ27 hμ27 => ?_)
  obtain ⟨π27, hc27, he27, ho27⟩ := Chg.one (S := fun c => c = q + 1 ∨ c = q + 3 ∨ c = r + 1 ∨ c = r + 3 ∨ (σ < c ∧ c < σ + 17) ∨ (κ < c ∧ c < κ + 17)) (R := D.thn) hA26 hS.2.2.2.2.2 F11 hμ27
  have hA27 := hc27.1
  have hch27 := hch26.trans hc27
  have v27_0 : π27 w = W := (ho27 w F12).trans v26_0
  have v27_1 : π27 (q + 1) = Q := (ho27 (q + 1) F13).trans v26_1
  have v27_2 : π27 (q + 3) = D.thn := (ho27 (q + 3) F14).trans v26_2
  have v27_3 : π27 (σ + 1) = hV M t := (ho27 (σ + 1) F17).trans v26_4
  have v27_4 : π27 (σ + 5) = hY M t := (ho27 (σ + 5) F18).trans v26_5
  have v27_5 : π27 (σ + 7) = hU M t := (ho27 (σ + 7) F20).trans v26_6
  have v27_6 : π27 (σ + 9) = hB R M t := (ho27 (σ + 9) F34).trans v26_7
  have v27_7 : π27 (σ + 13) = PS.am (hB R M t).der (PS.mul W (hB R M t)) (fi 1) 0 := (ho27 (σ + 13) F19).trans v26_8
  have v27_9 : π27 (r + 1) = hR2 W R M t := (ho27 (r + 1) F15).trans v26_10
  have v27_10 : π27 (r + 3) = PS.mul (hU M t) (hY M t) := (ho27 (r + 3) F16).trans he26
  refine v_aload hx DX9_lower_286 0 rfl ?_
  refine v_get hx DX9_lower_287 FLRX9_33 hS.1 (v := .ref (σ + 13)) rfl ?_
  refine v_aload hx DX9_lower_290 0 rfl ?_
  refine v_get hx DX9_lower_291 FLRX9_36 hS.1 (v := .ref (σ + 15)) rfl ?_
  refine v_aload hx DX9_lower_294 0 rfl ?_
  refine v_get hx DX9_lower_295 FLRX9_21 hS.1 (v := .ref (σ + 5)) rfl ?_
  refine v_cVv hx DX9_lower_298 CVRX9_104 [.ref (σ + 15), .ref (σ + 5)] (s_quotient l G Λ sz μ27 hI hS.2.2.2.2.1 hS.2.2.2.2.2 hS.2.1.2.2.1 F19 F0 F72 (AB.get (A := PS.am (hB R M t).der (PS.mul W (hB R M t)) (fi 1) 0) hA27 hS.2.2.2.2.1 v27_7) (AB.get (A := D.thn) hA27 hS.2.2.2.2.2 he27) (AB.get (A := hY M t) hA27 hS.2.1.2.2.1 v27_4) hY0) hS.2.2.2.2.1.1 rfl rfl (Nat.le_of_ble_eq_true rfl) (by decide) ⟨Nat.le_refl _, Nat.le_refl _⟩ (fun μ28 hμ28 => ?_)
  obtain ⟨π28, hc28, he28, hf28, ho28⟩ := Chg.two (S := fun c => c = q + 1 ∨ c = q + 3 ∨ c = r + 1 ∨ c = r + 3 ∨ (σ < c ∧ c < σ + 17) ∨ (κ < c ∧ c < κ + 17)) (R := PS.dv D.thn (hY M t)) (R' := PS.md D.thn (hY M t)) hA27 hS.2.2.2.2.1 hS.2.2.2.2.2 F19 F2 F11 hμ28
  have hA28 := hc28.1
  have hch28 := hch27.trans hc28
  have v28_0 : π28 w = W := (ho28 w F3 F12).trans v27_0
  have v28_1 : π28 (q + 1) = Q := (ho28 (q + 1) F4 F13).trans v27_1
  have v28_2 : π28 (q + 3) = D.thn := (ho28 (q + 3) F5 F14).trans v27_2
  have v28_3 : π28 (σ + 1) = hV M t := (ho28 (σ + 1) F8 F17).trans v27_3
  have v28_4 : π28 (σ + 5) = hY M t := (ho28 (σ + 5) F9 F18).trans v27_4
  have v28_5 : π28 (σ + 7) = hU M t := (ho28 (σ + 7) F21 F20).trans v27_5
  have v28_6 : π28 (σ + 9) = hB R M t := (ho28 (σ + 9) F57 F34).trans v27_6
  have v28_8 : π28 (r + 1) = hR2 W R M t := (ho28 (r + 1) F6 F15).trans v27_9
  have v28_9 : π28 (r + 3) = PS.mul (hU M t) (hY M t) := (ho28 (r + 3) F7 F16).trans v27_10
  refine v_aload hx DX9_lower_301 0 rfl ?_
  refine v_get hx DX9_lower_302 FLRX9_36 hS.1 (v := .ref (σ + 15)) rfl ?_
  refine v_aload hx DX9_lower_305 0 rfl ?_
  refine v_get hx DX9_lower_306 FLRX9_33 hS.1 (v := .ref (σ + 13)) rfl ?_
  refine v_aload hx DX9_lower_309 0 rfl ?_
  refine v_get hx DX9_lower_310 FLRX9_27 hS.1 (v := .ref (σ + 9)) rfl ?_
  refine v_cVv hx DX9_lower_313 CVRX9_51 [.ref (σ + 13), .ref (σ + 9)] (s_product l G Λ sz μ28 hS.2.2.2.2.2 hS.2.2.2.2.1 hS.2.2.1 F22 F45 (AB.get (A := PS.md D.thn (hY M t)) hA28 hS.2.2.2.2.2 hf28) (AB.get (A := PS.dv D.thn (hY M t)) hA28 hS.2.2.2.2.1 he28) (AB.get (A := hB R M t) hA28 hS.2.2.1 v28_6) (by have hz2 := hz; unfold Hid at hz2; omega)) hS.2.2.2.2.2.1 rfl rfl (Nat.le_of_ble_eq_true rfl) (by decide) ⟨Nat.le_refl _, Nat.le_refl _⟩ (fun μ29 hμ29 => ?_)
  obtain ⟨π29, hc29, he29, ho29⟩ := Chg.one (S := fun c => c = q + 1 ∨ c = q + 3 ∨ c = r + 1 ∨ c = r + 3 ∨ (σ < c ∧ c < σ + 17) ∨ (κ < c ∧ c < κ + 17)) (R := PS.mul (PS.dv D.thn (hY M t)) (hB R M t)) hA28 hS.2.2.2.2.2 F11 hμ29
  have hA29 := hc29.1
  have hch29 := hch28.trans hc29
  have v29_0 : π29 w = W := (ho29 w F12).trans v28_0
  have v29_1 : π29 (q + 1) = Q := (ho29 (q + 1) F13).trans v28_1
  have v29_2 : π29 (q + 3) = D.thn := (ho29 (q + 3) F14).trans v28_2
  have v29_3 : π29 (σ + 1) = hV M t := (ho29 (σ + 1) F17).trans v28_3
  have v29_4 : π29 (σ + 5) = hY M t := (ho29 (σ + 5) F18).trans v28_4
  have v29_5 : π29 (σ + 7) = hU M t := (ho29 (σ + 7) F20).trans v28_5
  have v29_6 : π29 (σ + 9) = hB R M t := (ho29 (σ + 9) F34).trans v28_6
  have v29_7 : π29 (r + 1) = hR2 W R M t := (ho29 (r + 1) F15).trans v28_8
  have v29_8 : π29 (r + 3) = PS.mul (hU M t) (hY M t) := (ho29 (r + 3) F16).trans v28_9
  have v29_9 : π29 (σ + 13) = PS.dv D.thn (hY M t) := (ho29 (σ + 13) F19).trans he28
  refine v_aload hx DX9_lower_316 3 rfl ?_
  refine v_get hx DX9_lower_317 FLRX9_75 hFq.1 (v := .ref (q + 1)) rfl ?_
  refine v_aload hx DX9_lower_320 0 rfl ?_
  refine v_get hx DX9_lower_321 FLRX9_36 hS.1 (v := .ref (σ + 15)) rfl ?_
  refine v_push hx DX9_lower_324 ?_
  refine v_push hx DX9_lower_325 ?_
  refine v_cVv hx DX9_lower_326 CVRX9_120 [.ref (σ + 15), iv 1, iv 0] (s_addMultiple l G Λ sz μ29 hFq.2.1 hS.2.2.2.2.2 F13 (AB.get (A := Q) hA29 hFq.2.1 v29_1) (AB.get (A := PS.mul (PS.dv D.thn (hY M t)) (hB R M t)) hA29 hS.2.2.2.2.2 he29) (by omega) (by omega) hw6) hFq.2.1.1 rfl rfl (Nat.le_of_ble_eq_true rfl) (by decide) ⟨Nat.le_refl _, Nat.le_refl _⟩ (fun μ30 hμ30 => ?_)
  obtain ⟨π30, hc30, he30, ho30⟩ := Chg.one (S := fun c => c = q + 1 ∨ c = q + 3 ∨ c = r + 1 ∨ c = r + 3 ∨ (σ < c ∧ c < σ + 17) ∨ (κ < c ∧ c < κ + 17)) (R := PS.am Q (PS.mul (PS.dv D.thn (hY M t)) (hB R M t)) (fi 1) (Int.toNat 0)) hA29 hFq.2.1 F73 hμ30
  have hA30 := hc30.1
  have hch30 := hch29.trans hc30
  have v30_0 : π30 w = W := (ho30 w F74).trans v29_0
  have v30_2 : π30 (q + 3) = D.thn := (ho30 (q + 3) F75).trans v29_2
  have v30_3 : π30 (σ + 1) = hV M t := (ho30 (σ + 1) F76).trans v29_3
  have v30_4 : π30 (σ + 5) = hY M t := (ho30 (σ + 5) F77).trans v29_4
  have v30_5 : π30 (σ + 7) = hU M t := (ho30 (σ + 7) F78).trans v29_5
  have v30_6 : π30 (σ + 9) = hB R M t := (ho30 (σ + 9) F79).trans v29_6
  have v30_7 : π30 (r + 1) = hR2 W R M t := (ho30 (r + 1) F80).trans v29_7
  have v30_8 : π30 (r + 3) = PS.mul (hU M t) (hY M t) := (ho30 (r + 3) F81).trans v29_8
  have v30_9 : π30 (σ + 13) = PS.dv D.thn (hY M t) := (ho30 (σ + 13) F82).trans v29_9
  have v30_10 : π30 (σ + 15) = PS.mul (PS.dv D.thn (hY M t)) (hB R M t) := (ho30 (σ + 15) F83).trans he29
  have w31 : π30 (q + 1) = PS.am Q (PS.mul (D.thn.dv (hY M t)) (hB R M t)) (fi 1) 0 := he30.trans rfl
  exact v_rv hx hBD DX9_lower_329 (⟨π30, hch30, w31, v30_2, v30_7, v30_8, v30_0⟩)
