theorem PS.am1 (p q : PS) : p.am q (fi 1) 0 = p.add q := by rw [PS.am0, fi_1, PS.sm_one]
theorem PS.am100 (p q : PS) : p.am q (fi 100) 0 = p.sub q := by
  rw [PS.am0]
  exact PS.ext fun n => by
    show p n + fi 100 * q n = p n - q n
    have : fi 100 = -1 := by decide
    rw [this]; grind
noncomputable def hV (M : PS) (t : Nat) : PS := M.thk (t - 1)
noncomputable def hY (M : PS) (t : Nat) : PS := (hV M t).pw (t - 1)
noncomputable def hU (M : PS) (t : Nat) : PS := M.dv ((hY M t).mul (hV M t))
noncomputable def hB (R M : PS) (t : Nat) : PS := ((R.mul (((hU M t).mul (hV M t).der).inv (hV M t))).md (hV M t)).sm (fi (ivI (102 - (t : Int))))
noncomputable def hX (R M : PS) (t : Nat) : PS := (R.am (((hU M t).mul (hV M t).der).mul (hB R M t)) (fi ((t : Int) - 1)) 0).dv (hV M t)
noncomputable def hR2 (W R M : PS) (t : Nat) : PS := (hX R M t).am ((hU M t).mul ((hB R M t).der.am (W.mul (hB R M t)) (fi 1) 0)) (fi 100) 0
theorem her_str {N D W Q R M : PS} {n t : Nat} (h : HI N D W Q R M n) (ht : 2 ≤ t) (hv : 1 < (M.thk (t - 1)).size) (hc : (M.thk t).size ≤ 1) :
    t ≤ n ∧ ((hV M t).fin ∧ 1 < (hV M t).size ∧ (hV M t).mnc ∧ (hV M t).size ≤ 48) ∧ (M = (hU M t).mul ((hY M t).mul (hV M t)) ∧ (hU M t).fin ∧ hU M t ≠ PS.zero) ∧ (D.thn = (D.thn.dv (hY M t)).mul (hY M t) ∧ (D.thn.dv (hY M t)).fin ∧ D.thn.dv (hY M t) ≠ PS.zero) ∧
    ((hU M t).size + (hY M t).size + (hV M t).size = M.size + 2 ∧ (hV M t).size ≤ (hY M t).size ∧ (D.thn.dv (hY M t)).size + (hY M t).size = D.thn.size + 1) ∧
    ((((hU M t).mul (hV M t).der).inv (hV M t)).lt ((hV M t).size - 1) ∧ (hV M t).dvd (((((hU M t).mul (hV M t).der).inv (hV M t)).mul ((hU M t).mul (hV M t).der)).sub PS.one)) ∧
    (∀ (P : PS) (e : Nat), P.irr → P.mlt D e → P.mlt ((hU M t).mul (hY M t)) (min e (t - 1))) := by
  obtain ⟨⟨hN, hD, hD0, hDs, hDm, hW⟩, ⟨hM, hM0, hMm, hMs⟩, hml, hn, hSI, hQ, hR, hRs⟩ := h
  obtain ⟨v1, v2, v3, v4⟩ := her_V hM hM0 (by omega) hMm (by omega) hv hc
  obtain ⟨hEf, hE0, hEd, hEs⟩ := PS.thn_spec hD hD0 (by omega)
  have hVdef : M.thk (t - 1) = hV M t := rfl
  rw [hVdef] at v1 v2 v3 v4 hv
  have hYdef : hY M t = (hV M t).pw (t - 1) := rfl
  have hUdef : hU M t = M.dv ((hY M t).mul (hV M t)) := rfl
  revert hYdef hUdef
  generalize hU M t = U
  generalize hY M t = Y
  revert v1 v2 v3 v4 hv
  generalize hV M t = V
  intro hv v1 v2 v3 v4 hYdef hUdef
  have hV0 := PS.ne_of_size (show 0 < V.size by omega)
  have hYf : Y.fin := by rw [hYdef]; exact PS.fin_pw v1 _
  have hY0 : Y ≠ PS.zero := by rw [hYdef]; exact PS.pw_ne v1 hV0 _
  have hYV0 := PS.fmul_ne hYf v1 hY0 hV0
  -- the multiplicities
  have mV : ∀ (P : PS) (e : Nat), P.irr → P.mlt M e → ∃ i, P.mlt V i ∧ P.mlt Y ((t - 1) * i) ∧ ((i = 0 ∧ e < t) ∨ (i = 1 ∧ e = t)) := by
    intro P e hP he
    obtain ⟨g1, g2⟩ := v4 P e hP he
    refine ⟨e - (t - 1), g2, ?_, by omega⟩
    rw [hYdef]
    exact PS.mlt_pw hP g2 (t - 1)
  have hdM : (Y.mul V).dvd M := by
    refine PS.dvd_mlt' (Y.mul V).size _ M (PS.fin_mul hYf v1) hM hYV0 hM0 (Nat.le_refl _) (fun P hP a b ha hb => ?_)
    obtain ⟨i, i1, i2, i3⟩ := mV P b hP hb
    have e := PS.mlt_un hP ha (PS.mlt_mul' hP i2 i1)
    rcases i3 with ⟨q1, q2⟩ | ⟨q1, q2⟩
    · subst q1; rw [Nat.mul_zero] at e; omega
    · subst q1; rw [Nat.mul_one] at e; omega
  obtain ⟨eM, hUf⟩ := PS.dvd_dv (PS.fin_mul hYf v1) hYV0 hdM
  rw [← hUdef] at eM hUf
  have hU0 : U ≠ PS.zero := fun z => hM0 (by rw [eM, z, PS.zero_mul])
  have mU : ∀ (P : PS) (e : Nat), P.irr → P.mlt M e → ∃ i u, P.mlt V i ∧ P.mlt Y ((t - 1) * i) ∧ P.mlt U u ∧ ((i = 0 ∧ e < t ∧ u = e) ∨ (i = 1 ∧ e = t ∧ u = 0)) := by
    intro P e hP he
    obtain ⟨i, i1, i2, i3⟩ := mV P e hP he
    obtain ⟨u, hu, -⟩ := PS.mlt_ex hP _ U hUf hU0 (Nat.le_refl _)
    have g := PS.mlt_mul' hP hu (PS.mlt_mul' hP i2 i1)
    rw [← eM] at g
    have e' := PS.mlt_un hP he g
    refine ⟨i, u, i1, i2, hu, ?_⟩
    rcases i3 with ⟨q1, q2⟩ | ⟨q1, q2⟩
    · subst q1; rw [Nat.mul_zero] at e'; left; omega
    · subst q1; rw [Nat.mul_one] at e'; right; omega
  have hdE : Y.dvd D.thn := by
    refine PS.dvd_mlt' Y.size _ _ hYf hEf hY0 hE0 (Nat.le_refl _) (fun P hP a b ha hb => ?_)
    obtain ⟨e0, he0, -⟩ := PS.mlt_ex hP _ D hD hD0 (Nat.le_refl _)
    obtain ⟨i, i1, i2, i3⟩ := mV P _ hP (hml P e0 hP he0)
    have q1 := PS.mlt_un hP ha i2
    have q2 := PS.mlt_un hP hb (PS.thn_mlt hP hD hD0 (by omega) he0)
    rcases i3 with ⟨z1, z2⟩ | ⟨z1, z2⟩
    · subst z1; rw [Nat.mul_zero] at q1; omega
    · subst z1; rw [Nat.mul_one] at q1; omega
  obtain ⟨eE, hE1f⟩ := PS.dvd_dv hYf hY0 hdE
  have hE10 : D.thn.dv Y ≠ PS.zero := fun z => hE0 (by rw [eE, z, PS.zero_mul])
  have sUY := PS.fsize_mul hUf (PS.fin_mul hYf v1) hU0 hYV0
  have sYV := PS.fsize_mul hYf v1 hY0 hV0
  rw [← eM] at sUY
  have sE := PS.fsize_mul hE1f hYf hE10 hY0
  rw [← eE] at sE
  have sYY : V.size ≤ Y.size := by
    have : V.dvd Y := by
      rw [hYdef, show t - 1 = t - 2 + 1 by omega]
      exact ⟨_, PS.fin_pw v1 _, rfl⟩
    exact (PS.dvd_size v1 this hY0).1
  have hco : ∀ P : PS, P.irr → P.dvd V → ¬ P.dvd (U.mul V.der) := by
    intro P hP hd hd2
    obtain ⟨e, he, -⟩ := PS.mlt_ex hP _ M hM hM0 (Nat.le_refl _)
    obtain ⟨i, u, i1, i2, hu, i3⟩ := mU P e hP he
    have hi := (PS.mlt_pos hP i1).mp hd
    have hPV := (PS.dvd_size hP.1 hd hV0).1
    rcases i3 with ⟨z1, z2, z3⟩ | ⟨z1, z2, z3⟩
    · omega
    · subst z1
      have hder := PS.mlt_der hP (by omega) (k := 0) (by omega) i1
      rcases PS.irr_prime' hP hUf (PS.fin_der v1) hd2 with q | q
      · have := (PS.mlt_pos hP hu).mp q
        omega
      · have := (PS.mlt_pos hP hder).mp q
        omega
  have hinv := PS.inv_spec v1 (PS.fin_mul hUf (PS.fin_der v1)) hv (by omega) hco
  refine ⟨?_, ⟨v1, hv, v2, by omega⟩, ⟨eM, hUf, hU0⟩, ⟨eE, hE1f, hE10⟩, ⟨by omega, sYY, by omega⟩, hinv, fun P e hP he => ?_⟩
  · obtain ⟨P, hP, hd⟩ := PS.irr_ex V.size V v1 hv (Nat.le_refl _)
    obtain ⟨e0, he0, -⟩ := PS.mlt_ex hP _ D hD hD0 (Nat.le_refl _)
    obtain ⟨i, i1, i2, i3⟩ := mV P _ hP (hml P e0 hP he0)
    have hi := (PS.mlt_pos hP i1).mp hd
    omega
  · have he' := hml P e hP he
    obtain ⟨i, u, i1, i2, hu, i3⟩ := mU P _ hP he'
    have g := PS.mlt_mul' hP hu i2
    have htn : t ≤ n := by
      obtain ⟨P, hP, hd⟩ := PS.irr_ex V.size V v1 hv (Nat.le_refl _)
      obtain ⟨e0, he0, -⟩ := PS.mlt_ex hP _ D hD hD0 (Nat.le_refl _)
      obtain ⟨i, i1, i2, i3⟩ := mV P _ hP (hml P e0 hP he0)
      have hi := (PS.mlt_pos hP i1).mp hd
      omega
    rcases i3 with ⟨z1, z2, z3⟩ | ⟨z1, z2, z3⟩
    · subst z1; rw [Nat.mul_zero] at g
      rw [show min e (t - 1) = u + 0 by omega]; exact g
    · subst z1; rw [Nat.mul_one] at g
      rw [show min e (t - 1) = u + (t - 1) by omega]; exact g
theorem alg_X {α : Type} [Lean.Grind.CommRing α] (R UV inv q r V k c x : α) (h1 : R * inv = q * V + r) (h2 : inv * UV - 1 = k * V) (h3 : c * x = -1) : R + c * (UV * (x * r)) = (UV * q - R * k) * V := by
  have e : r = R * inv - q * V := by grind
  rw [e]
  have : c * (UV * (x * (R * inv - q * V))) = (c * x) * (UV * (R * inv - q * V)) := by grind
  rw [this, h3]
  grind
theorem alg_R {α : Type} [Lean.Grind.CommRing α] (R U V V' B B' W X C : α) (h : R + C * (U * V' * B) = X * V) : R = U * (V * B' - C * (V' * B) + W * (V * B)) + V * (X - U * (B' + W * B)) := by grind
theorem her_step {N D W Q R M : PS} {n t : Nat} (h : HI N D W Q R M n) (ht : 2 ≤ t) (ht2 : t ≤ 48) (hv : 1 < (M.thk (t - 1)).size) (hc : (M.thk t).size ≤ 1) :
    (hB R M t).lt ((hV M t).size - 1) ∧ R.am (((hU M t).mul (hV M t).der).mul (hB R M t)) (fi ((t : Int) - 1)) 0 = (hX R M t).mul (hV M t) ∧ (hX R M t).fin ∧
    HI N D W (Q.am ((D.thn.dv (hY M t)).mul (hB R M t)) (fi 1) 0) (hR2 W R M t) ((hU M t).mul (hY M t)) (t - 1) := by
  obtain ⟨htn, ⟨v1, v2, v3, v4⟩, ⟨eM, u1, u2⟩, ⟨eE, e1, e2⟩, ⟨s1, s2, s3⟩, ⟨i1, i2⟩, hmlt⟩ := her_str h ht hv hc
  obtain ⟨⟨hN, hD, hD0, hDs, hDm, hW⟩, ⟨hM, hM0, hMm, hMs⟩, hml, hn, hSI, hQ, hR, hRs⟩ := h
  obtain ⟨hEf, hE0, hEd, hEs⟩ := PS.thn_spec hD hD0 (by omega)
  have hV0 := PS.ne_of_size (show 0 < (hV M t).size by omega)
  obtain ⟨vn, hvn, hVz⟩ := PS.fne_isz v1 hV0
  have hYdef : hY M t = (hV M t).pw (t - 1) := rfl
  have hY0 : hY M t ≠ PS.zero := by rw [hYdef]; exact PS.pw_ne v1 hV0 _
  have hYf : (hY M t).fin := by rw [hYdef]; exact PS.fin_pw v1 _
  have hYd : (hV M t).mul (hY M t).der = (PS.C (fi ((t : Int) - 1))).mul ((hY M t).mul (hV M t).der) := by
    rw [PS.C_mul, hYdef, PS.pw_der']
    congr 2
    omega
  have hBdef : hB R M t = ((R.mul (((hU M t).mul (hV M t).der).inv (hV M t))).md (hV M t)).sm (fi (ivI (102 - (t : Int)))) := rfl
  have hXdef : hX R M t = (R.am (((hU M t).mul (hV M t).der).mul (hB R M t)) (fi ((t : Int) - 1)) 0).dv (hV M t) := rfl
  have hR2def : hR2 W R M t = (hX R M t).am ((hU M t).mul ((hB R M t).der.am (W.mul (hB R M t)) (fi 1) 0)) (fi 100) 0 := rfl
  clear hYdef
  generalize hR2 W R M t = R2 at *
  generalize hX R M t = X at *
  generalize hB R M t = B at *
  generalize ((hU M t).mul (hV M t).der).inv (hV M t) = inv at *
  generalize hU M t = U at *
  generalize hY M t = Y at *
  generalize hV M t = V at *
  have hinvf : inv.fin := ⟨_, i1⟩
  obtain ⟨NR, hNR⟩ := PS.fin_mul hR hinvf
  have hdv := PS.div_spec hVz hNR
  have hBl : B.lt (V.size - 1) := by
    rw [hBdef]
    exact PS.lt_sm _ (PS.lt_mono hdv.2.1 (by omega))
  have hBf : B.fin := ⟨_, hBl⟩
  have hUVf : (U.mul V.der).fin := PS.fin_mul u1 (PS.fin_der v1)
  have hck : fi ((t : Int) - 1) * fi (ivI (102 - (t : Int))) = -1 := by
    rw [fi_ivI, show (102 - (t : Int)) = 101 - ((t : Int) - 1) by omega, fi_101]
    have hne := fi_small (k := (t : Int) - 1) (by omega) (by omega)
    have h1 := finv_mul (- fi ((t : Int) - 1)) (fun z => hne (by grind))
    grind
  have hXe : R.am ((U.mul V.der).mul B) (fi ((t : Int) - 1)) 0 = X.mul V ∧ X.fin := by
    have hd : V.dvd (R.am ((U.mul V.der).mul B) (fi ((t : Int) - 1)) 0) := by
      obtain ⟨k, hk, ek⟩ := i2
      refine ⟨((U.mul V.der).mul ((R.mul inv).dv V)).sub (R.mul k), PS.fin_sub (PS.fin_mul hUVf ⟨_, hdv.2.2⟩) (PS.fin_mul hR hk), ?_⟩
      rw [PS.am0, ← PS.C_mul, hBdef, ← PS.C_mul]
      have hck' : (PS.C (fi ((t : Int) - 1))).mul (PS.C (fi (ivI (102 - (t : Int))))) = PS.neg PS.one := by
        rw [PS.C_mul]
        refine PS.ext fun n => ?_
        show fi ((t : Int) - 1) * (if n = 0 then fi (ivI (102 - (t : Int))) else 0) = - (if n = 0 then 1 else 0)
        split <;> grind
      exact @alg_X PS psRing R (U.mul V.der) inv _ _ V k _ _ hdv.1 ek hck'
    obtain ⟨g1, g2⟩ := PS.dvd_dv v1 hV0 hd
    rw [← hXdef] at g1 g2
    exact ⟨g1, g2⟩
  obtain ⟨hXe, hXf⟩ := hXe
  have hR2e : R2 = X.sub (U.mul (B.der.add (W.mul B))) := by rw [hR2def, PS.am100, PS.am1]
  have hR2f : R2.fin := by rw [hR2e]; exact PS.fin_sub hXf (PS.fin_mul u1 (PS.fin_add (PS.fin_der hBf) (PS.fin_mul hW hBf)))
  have hUY0 := PS.fmul_ne u1 hYf u2 hY0
  have sUY := PS.fsize_mul u1 hYf u2 hY0
  have eM' : M = (U.mul Y).mul V := by rw [PS.mul_assoc]; exact eM
  refine ⟨hBl, hXe, hXf, ⟨hN, hD, hD0, hDs, hDm, hW⟩, ⟨PS.fin_mul u1 hYf, hUY0, PS.mnc_left (PS.fin_mul u1 hYf) v1 hUY0 hV0 (by rw [← eM']; exact hMm) v3, by omega⟩, hmlt, by omega, ?_, ?_, hR2f, ?_⟩
  · rw [PS.am1]
    refine SI.step (C := PS.C (fi ((t : Int) - 1))) (R := R) hD e1 hYf v1 u1 hW ⟨_, hQ⟩ hBf hR2f hN hV0 eE hYd ?_ ?_
    · rw [hR2e]
      have g := hXe
      rw [PS.am0, ← PS.C_mul] at g
      exact @alg_R PS psRing R U V V.der B B.der W X _ g
    · rw [PS.mul_comm V, ← eM']; exact hSI
  · rw [PS.am1]
    refine PS.lt_add hQ (PS.lt_mono (PS.lt_mul (PS.fisz e1).2 hBl) (by omega))
  · -- degrees
    have hg2 : (-2 : Int) ≤ gdI N D W ∧ (W.size : Int) - 2 ≤ gdI N D W := by unfold gdI; omega
    obtain ⟨K, hK⟩ : ∃ K : Nat, (K : Int) = max (0 : Int) ((U.mul Y).size + gdI N D W) := ⟨(max (0 : Int) ((U.mul Y).size + gdI N D W)).toNat, by omega⟩
    rw [← hK]
    have hup := PS.fpos u1 u2
    have l1 : (U.mul B.der).lt K := PS.lt_mul' (PS.fisz u1).2 (PS.der_lt (N := V.size - 2) (PS.lt_mono hBl (by omega))) (by omega)
    have l2 : (U.mul (W.mul B)).lt K := by
      by_cases hW0 : W = PS.zero
      · rw [hW0, PS.zero_mul, PS.mul_zero]; exact PS.zero_lt _
      · have := PS.fpos hW hW0
        exact PS.lt_mul' (PS.fisz u1).2 (PS.lt_mul' (N := W.size + V.size - 2) (PS.fisz hW).2 hBl (by omega)) (by omega)
    have l3 : X.lt K := by
      by_cases hX0 : X = PS.zero
      · rw [hX0]; exact PS.zero_lt _
      · have hs := PS.fsize_mul hXf v1 hX0 hV0
        have hb : (R.am ((U.mul V.der).mul B) (fi ((t : Int) - 1)) 0).size ≤ max R.size (U.size + V.size - 2 + (V.size - 1) - 1) := by
          rw [PS.am0]
          refine PS.size_add_le (PS.lt_mono (PS.fisz hR).2 (by omega)) (PS.lt_sm _ (PS.lt_mono (PS.lt_mul (PS.lt_mul (PS.fisz u1).2 (PS.der_lt (N := V.size - 1) (PS.lt_mono (PS.fisz v1).2 (by omega)))) hBl) (by omega)))
        rw [hXe] at hb
        exact PS.lt_mono (PS.fisz hXf).2 (by omega)
    have : R2.lt K := by
      rw [hR2e]
      refine PS.lt_sub l3 ?_
      have e : U.mul (B.der.add (W.mul B)) = (U.mul B.der).add (U.mul (W.mul B)) := by
        generalize B.der = B'
        letI := psRing
        show U * (B' + W * B) = U * B' + U * (W * B)
        grind
      rw [e]
      exact PS.lt_add l1 l2
    have := PS.size_le this
    omega
