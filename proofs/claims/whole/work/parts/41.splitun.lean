/-! ===== the splitting is one ===== -/
theorem PS.pw_der' (P : PS) (k : Nat) : P.mul (P.pw k).der = ((P.pw k).mul P.der).sm (fi (k : Int)) := by
  cases k with
  | zero =>
    have e : (P.pw 0).der = PS.zero := PS.der_C 1
    rw [e, PS.mul_zero, show fi ((0 : Nat) : Int) = 0 by decide]
    exact PS.ext fun n => by
      show (0 : F) = 0 * _
      grind
  | succ k =>
    rw [PS.der_pw]
    have e3 : P.pw (k + 1) = (P.pw k).mul P := rfl
    rw [e3, show ((k + 1 : Nat) : Int) = (k : Int) + 1 by omega]
    generalize fi ((k : Int) + 1) = x
    rw [← PS.C_mul, ← PS.C_mul]
    generalize PS.C x = X
    generalize P.pw k = Y
    generalize P.der = P'
    letI := psRing
    show P * (X * (Y * P')) = X * (Y * P * P')
    grind
theorem PS.C_sub (a b : F) : PS.C (a - b) = (PS.C a).sub (PS.C b) := PS.ext fun n => by
  show (if n = 0 then a - b else 0) = (if n = 0 then a else 0) - (if n = 0 then b else 0)
  split <;> grind
theorem alg_split {α : Type} [Lean.Grind.CommRing α] (P m0 Q' I e0 J q0 E' W R X X2 P' q' e' Z : α) (hs : I = J * (P * Z))
    (heq : P * m0 * (Q' * (I * e0) - J * q0 * E' + W * (J * q0) * (I * e0)) + I * e0 * (I * e0) * R = 0) (dQ : P * Q' = J * (X * (P' * q0) + P * q')) (dE : P * E' = I * (X2 * (P' * e0) + P * e')) :
    I * J * P * (m0 * ((X - X2) * (P' * (q0 * e0)))) = I * J * P * ((m0 * (q0 * e' - q' * e0) - W * (q0 * e0 * m0) - Z * (e0 * e0 * R)) * P) := by
  have g1 : P * (P * m0 * (Q' * (I * e0) - J * q0 * E' + W * (J * q0) * (I * e0)) + I * e0 * (I * e0) * R) = 0 := by rw [heq]; grind
  have g2 : P * m0 * ((P * Q') * (I * e0) - J * q0 * (P * E')) + P * (P * m0 * (W * (J * q0) * (I * e0))) + P * (I * e0 * (I * e0) * R) = 0 := by
    clear hs heq dQ dE
    grind
  rw [dQ, dE] at g2
  have g3 : P * (I * e0 * (I * e0) * R) = P * (I * e0 * ((J * (P * Z)) * e0) * R) := by rw [← hs]
  rw [g3] at g2
  clear hs heq dQ dE g1 g3
  grind
/-- no fewer: a prime of E divides Q as often -/
theorem split_mlt {P D E M Q R W : PS} {i j : Nat} (hP : P.irr) (hD : D.fin) (hD0 : D ≠ PS.zero) (hDs : D.size ≤ 100) (hE : E = D.thn) (hM : M.fin) (hDM : D = M.mul E) (hQ : Q.fin) (hR : R.fin) (hW : W.fin) (hQs : Q.size ≤ 100) (hQ0 : Q ≠ PS.zero)
    (heq : (M.mul (((Q.der.mul E).sub (Q.mul E.der)).add ((W.mul Q).mul E))).add ((E.mul E).mul R) = PS.zero) (hi : P.mlt E i) (hj : P.mlt Q j) : i ≤ j := by
  apply Classical.byContradiction
  intro hlt
  obtain ⟨hEf, hE0, hEd, hEs⟩ := PS.thn_spec hD hD0 hDs
  rw [← hE] at hEf hE0 hEd hEs
  have hM0 : M ≠ PS.zero := fun e => hD0 (by rw [hDM, e, PS.zero_mul])
  have hMs : M.size ≤ D.size := (PS.dvd_size hM (show M.dvd D from ⟨E, hEf, by rw [hDM, PS.mul_comm]⟩) hD0).1
  obtain ⟨k, hk, -⟩ := PS.mlt_ex hP _ D hD hD0 (Nat.le_refl _)
  have h1 := PS.thn_mlt hP hD hD0 hDs hk
  rw [← hE] at h1
  have e1 := PS.mlt_un hP hi h1
  obtain ⟨l, hl, -⟩ := PS.mlt_ex hP _ M hM hM0 (Nat.le_refl _)
  have h2 := PS.mlt_mul hP hl hi (by omega)
  rw [← hDM] at h2
  have e2 := PS.mlt_un hP hk h2
  have el : l = 1 := by omega
  subst el
  have hPs : P.size ≤ D.size := (PS.mlt_lt hP hD hD0 hk).2 (by omega)
  have hjs := (PS.mlt_lt hP hQ hQ0 hj).1
  have his := (PS.mlt_lt hP hEf hE0 hi).1
  obtain ⟨m0, hm0, em, nm⟩ := hl
  obtain ⟨e0, he0, ee, ne⟩ := hi
  obtain ⟨q0, hq0, eq, nq⟩ := hj
  have em' : M = P.mul m0 := by
    rw [em]
    congr 1
    exact PS.one_mul P
  -- P times the equation
  have dQ : P.mul Q.der = (P.pw j).mul (((P.der.mul q0).sm (fi (j : Int))).add (P.mul q0.der)) := by
    rw [eq, PS.der_mul]
    have tp := PS.pw_der' P j
    revert tp
    generalize (P.pw j).der = Y'
    generalize fi (j : Int) = x
    rw [← PS.C_mul, ← PS.C_mul]
    generalize PS.C x = X
    generalize P.pw j = Y
    generalize P.der = P'
    generalize q0.der = q'
    intro tp
    letI := psRing
    have t' : P * Y' = X * (Y * P') := tp
    show P * (Y' * q0 + Y * q') = Y * (X * (P' * q0) + P * q')
    grind
  have dE : P.mul E.der = (P.pw i).mul (((P.der.mul e0).sm (fi (i : Int))).add (P.mul e0.der)) := by
    rw [ee, PS.der_mul]
    have tp := PS.pw_der' P i
    revert tp
    generalize (P.pw i).der = Y'
    generalize fi (i : Int) = x
    rw [← PS.C_mul, ← PS.C_mul]
    generalize PS.C x = X
    generalize P.pw i = Y
    generalize P.der = P'
    generalize e0.der = q'
    intro tp
    letI := psRing
    have t' : P * Y' = X * (Y * P') := tp
    show P * (Y' * e0 + Y * q') = Y * (X * (P' * e0) + P * q')
    grind
  have hsp : P.pw i = (P.pw j).mul (P.mul (P.pw (i - j - 1))) := by
    have : P.pw i = P.pw (j + ((i - j - 1) + 1)) := by congr 1; omega
    rw [this, PS.pw_add]
    congr 1
    show (P.pw (i - j - 1)).mul P = _
    rw [PS.mul_comm]
  have hfin : P.dvd (m0.mul ((P.der.mul (q0.mul e0)).sm (fi (j : Int) - fi (i : Int)))) := by
    refine ⟨((m0.mul ((q0.mul e0.der).sub (q0.der.mul e0))).sub (W.mul ((q0.mul e0).mul m0))).sub ((P.pw (i - j - 1)).mul ((e0.mul e0).mul R)), ?_, ?_⟩
    · exact PS.fin_sub (PS.fin_sub (PS.fin_mul hm0 (PS.fin_sub (PS.fin_mul hq0 (PS.fin_der he0)) (PS.fin_mul (PS.fin_der hq0) he0))) (PS.fin_mul hW (PS.fin_mul (PS.fin_mul hq0 he0) hm0))) (PS.fin_mul (PS.fin_pw hP.1 _) (PS.fin_mul (PS.fin_mul he0 he0) hR))
    · have hZ : ((P.pw i).mul (P.pw j)).mul P ≠ PS.zero := PS.fmul_ne (PS.fin_mul (PS.fin_pw hP.1 i) (PS.fin_pw hP.1 j)) hP.1 (PS.fmul_ne (PS.fin_pw hP.1 i) (PS.fin_pw hP.1 j) (PS.pw_ne hP.1 (PS.irr_ne hP) i) (PS.pw_ne hP.1 (PS.irr_ne hP) j)) (PS.irr_ne hP)
      refine PS.cancel (PS.fin_mul (PS.fin_mul (PS.fin_pw hP.1 i) (PS.fin_pw hP.1 j)) hP.1) ?_ ?_ hZ ?_
      · exact PS.fin_mul hm0 (PS.fin_sm _ (PS.fin_mul (PS.fin_der hP.1) (PS.fin_mul hq0 he0)))
      · exact PS.fin_mul (PS.fin_sub (PS.fin_sub (PS.fin_mul hm0 (PS.fin_sub (PS.fin_mul hq0 (PS.fin_der he0)) (PS.fin_mul (PS.fin_der hq0) he0))) (PS.fin_mul hW (PS.fin_mul (PS.fin_mul hq0 he0) hm0))) (PS.fin_mul (PS.fin_pw hP.1 _) (PS.fin_mul (PS.fin_mul he0 he0) hR))) hP.1
      · revert heq dQ dE
        rw [em']
        generalize Q.der = Q'
        generalize E.der = E'
        rw [← PS.C_mul, ← PS.C_mul, ← PS.C_mul, PS.C_sub, ee, eq, PS.zero_eq]
        generalize PS.C (fi (j : Int)) = X
        generalize PS.C (fi (i : Int)) = X2
        generalize P.der = P'
        generalize q0.der = q'
        generalize e0.der = e'
        revert hsp
        generalize P.pw (i - j - 1) = Z
        generalize P.pw i = I
        generalize P.pw j = J
        intro hsp heq dQ dE
        exact @alg_split PS psRing P m0 Q' I e0 J q0 E' W R X X2 P' q' e' Z hsp heq dQ dE
  -- but P divides none of the factors
  have hne : fi (j : Int) - fi (i : Int) ≠ 0 := by
    intro z
    have : fi (j : Int) = fi (i : Int) := by grind
    have := fi_inj (a := (j : Int)) (b := (i : Int)) (by omega) (by omega) this
    omega
  have hs1 : ∀ c a b : PS, c.fin → a = b.mul c → a ≠ PS.zero → b.fin → a.size ≤ 100 → c.size < 200 := by
    intro c a b hc e h0 hb hs
    have := (PS.dvd_size hc ⟨b, hb, e⟩ h0).1
    omega
  have sm0 := hs1 m0 M P hm0 em' hM0 hP.1 (by omega)
  have sP' : P.der.size < 200 := by have := PS.der_size hP.1; omega
  have sq0 := hs1 q0 Q _ hq0 eq hQ0 (PS.fin_pw hP.1 _) (by omega)
  rcases PS.irr_prime hP hm0 (PS.fin_sm _ (PS.fin_mul (PS.fin_der hP.1) (PS.fin_mul hq0 he0))) sm0 hfin with q | q
  · exact nm q
  · have q2 : P.dvd (P.der.mul (q0.mul e0)) := Classical.byContradiction fun h => PS.ndvd_sm hne h q
    rcases PS.irr_prime hP (PS.fin_der hP.1) (PS.fin_mul hq0 he0) sP' q2 with z | z
    · exact PS.irr_der hP (by omega) z
    · rcases PS.irr_prime hP hq0 he0 sq0 z with y | y
      · exact nq y
      · exact ne y
/-- only 0 splits 0 -/
theorem split_zero {D E M A H B G W : PS} (hD : D.fin) (hD0 : D ≠ PS.zero) (hDs : D.size ≤ 100) (hE : E = D.thn) (hM : M.fin) (hDM : D = M.mul E) (hA : A.lt (E.size - 1)) (hH : H.fin) (hB : B.lt (M.size - 1)) (hG : G.fin) (hW : W.fin)
    (hQs : (A.add (H.mul E)).size ≤ 100) (hHs : H.size ≤ 100) (hw0 : W = PS.zero → G = PS.zero ∧ H 0 = 0) (hw1 : W ≠ PS.zero → G.lt (W.size - 1))
    (heq : (M.mul ((((A.add (H.mul E)).der.mul E).sub ((A.add (H.mul E)).mul E.der)).add ((W.mul (A.add (H.mul E))).mul E))).add ((E.mul E).mul (B.add (G.mul M))) = PS.zero) : A = PS.zero ∧ H = PS.zero ∧ B = PS.zero ∧ G = PS.zero := by
  obtain ⟨hEf, hE0, hEd, hEs⟩ := PS.thn_spec hD hD0 hDs
  rw [← hE] at hEf hE0 hEd hEs
  have hM0 : M ≠ PS.zero := fun e => hD0 (by rw [hDM, e, PS.zero_mul])
  have hQf : (A.add (H.mul E)).fin := PS.fin_add ⟨_, hA⟩ (PS.fin_mul hH hEf)
  obtain ⟨en, hen, hEz⟩ := PS.fne_isz hEf hE0
  obtain ⟨mn, hmn, hMz⟩ := PS.fne_isz hM hM0
  have hA' : A.lt en := by rw [show en = E.size - 1 by omega]; exact hA
  have hB' : B.lt mn := by rw [show mn = M.size - 1 by omega]; exact hB
  have hdv : E.dvd (A.add (H.mul E)) := by
    by_cases hQ0 : A.add (H.mul E) = PS.zero
    · rw [hQ0]; exact PS.dvd_zero E
    · refine PS.dvd_of_mlt E.size E _ hEf hQf hE0 hQ0 (Nat.le_refl _) (by omega) (by omega) (fun P hP i j hi hj => ?_)
      exact split_mlt hP hD hD0 hDs hE hM hDM hQf (PS.fin_add ⟨_, hB⟩ (PS.fin_mul hG hM)) hW (by omega) hQ0 heq hi hj
  have hA0 : A = PS.zero := by
    obtain ⟨c, hc, e⟩ := hdv
    obtain ⟨N1, h1⟩ := hH
    obtain ⟨N2, h2⟩ := hc
    have e' : (H.mul E).add A = (c.mul E).add PS.zero := by
      rw [PS.add_zero, ← e]
      exact PS.ext fun n => by
        show (H.mul E) n + A n = A n + (H.mul E) n
        grind
    exact (PS.div_un hEz (PS.lt_mono h1 (Nat.le_add_right N1 N2)) (PS.lt_mono h2 (Nat.le_add_left N2 N1)) hA' (PS.zero_lt _) e').2
  subst hA0
  have heq2 : ((H.der.add (W.mul H)).add G).mul M = (PS.zero.mul M).sub B := by
    have hE2 : E.mul E ≠ PS.zero := PS.fmul_ne hEf hEf hE0 hE0
    have g : (E.mul E).mul ((((H.der.add (W.mul H)).add G).mul M).add B) = (E.mul E).mul PS.zero := by
      rw [PS.mul_zero, ← heq, PS.zero_add, PS.der_mul]
      generalize H.der = H'
      generalize E.der = E'
      letI := psRing
      show E * E * ((H' + W * H + G) * M + B) = M * ((H' * E + H * E') * E - H * E * E' + W * (H * E) * E) + E * E * (B + G * M)
      grind
    have hf1 : ((H.der.add (W.mul H)).add G).fin := PS.fin_add (PS.fin_add (PS.fin_der hH) (PS.fin_mul hW hH)) hG
    have g2 := PS.cancel (PS.fin_mul hEf hEf) (PS.fin_add (PS.fin_mul hf1 hM) ⟨_, hB⟩) PS.fin_zero hE2 g
    rw [PS.zero_mul]
    exact PS.ext fun n => by
      have := congrFun g2 n
      have t : (((H.der.add (W.mul H)).add G).mul M) n + B n = 0 := this
      show (((H.der.add (W.mul H)).add G).mul M) n = 0 - B n
      grind
  have hf1 : ((H.der.add (W.mul H)).add G).fin := PS.fin_add (PS.fin_add (PS.fin_der hH) (PS.fin_mul hW hH)) hG
  have key : (H.der.add (W.mul H)).add G = PS.zero ∧ B = PS.zero := by
    obtain ⟨N1, h1⟩ := hf1
    have e' : (((H.der.add (W.mul H)).add G).mul M).add B = (PS.zero.mul M).add PS.zero := by
      rw [heq2, PS.zero_mul, PS.add_zero]
      exact PS.ext fun n => by
        show 0 - B n + B n = 0
        grind
    exact PS.div_un hMz h1 (PS.zero_lt _) hB' (PS.zero_lt _) e'
  refine ⟨rfl, ?_, key.2, ?_⟩
  · -- H
    apply Classical.byContradiction
    intro hH0
    obtain ⟨hn, hhn, hHz⟩ := PS.fne_isz hH hH0
    by_cases hW0 : W = PS.zero
    · obtain ⟨g1, g2⟩ := hw0 hW0
      have k1 := key.1
      rw [hW0, g1, PS.zero_mul, PS.add_zero, PS.add_zero] at k1
      cases hn with
      | zero => exact hHz.1.resolve_left (by omega) g2
      | succ hn =>
        have := PS.size_eq (PS.der_isz hHz (by omega))
        rw [k1, PS.size_zero] at this
        omega
    · obtain ⟨wn, hwn, hWz⟩ := PS.fne_isz hW hW0
      have g1 := hw1 hW0
      have k2 := congrFun key.1 (wn + hn)
      have k3 : H.der (wn + hn) + (W.mul H) (wn + hn) + G (wn + hn) = 0 := k2
      rw [PS.mul_head hWz.2 hHz.2, PS.der_lt hHz.2 (wn + hn) (by omega), g1 (wn + hn) (by omega)] at k3
      have k4 : W wn * H hn = 0 := by grind
      exact hHz.1.resolve_left (by omega) (F_dom k4 (hWz.1.resolve_left (by omega)))
  · by_cases hW0 : W = PS.zero
    · exact (hw0 hW0).1
    · have k1 := key.1
      have hH0 : H = PS.zero := by
        apply Classical.byContradiction
        intro hH0
        obtain ⟨hn, hhn, hHz⟩ := PS.fne_isz hH hH0
        obtain ⟨wn, hwn, hWz⟩ := PS.fne_isz hW hW0
        have g1 := hw1 hW0
        have k2 := congrFun key.1 (wn + hn)
        have k3 : H.der (wn + hn) + (W.mul H) (wn + hn) + G (wn + hn) = 0 := k2
        rw [PS.mul_head hWz.2 hHz.2, PS.der_lt hHz.2 (wn + hn) (by omega), g1 (wn + hn) (by omega)] at k3
        have k4 : W wn * H hn = 0 := by grind
        exact hHz.1.resolve_left (by omega) (F_dom k4 (hWz.1.resolve_left (by omega)))
      rw [hH0, PS.der_zero, PS.mul_zero, PS.zero_add, PS.zero_add] at k1
      exact k1
