/-! ===== splitting is linear ===== -/
def SPW (N D W Qt Rt : PS) (h : Nat) : Prop := ∃ A H B G : PS, A.lt (D.thn.size - 1) ∧ B.lt ((D.dv D.thn).size - 1) ∧ H.lt h ∧ G.fin ∧ Qt = A.add (H.mul D.thn) ∧ Rt = B.add (G.mul (D.dv D.thn)) ∧
  (W = PS.zero → G = PS.zero ∧ H 0 = 0) ∧ (W ≠ PS.zero → G.lt (W.size - 1)) ∧ SI N D D.thn W Qt Rt (D.dv D.thn)
theorem SPL.w {N D W Q R : PS} (h : SPL N D W Q R) : SPW N D W Q R (N.size + 2 - D.size) := by
  obtain ⟨A, H, B, G, a, b, c, d, e, f, w, v, s⟩ := h
  refine ⟨A, H, B, G, a, b, ?_, d, e, f, fun z => ⟨(w z).1, (w z).2.1⟩, fun z => (v z).1, s⟩
  have : H = PS.zero ∨ H.size + D.size ≤ N.size + 2 := by
    by_cases hw : W = PS.zero
    · exact (w hw).2.2
    · rcases (v hw).2 with z | z
      · exact Or.inl z
      · exact Or.inr (by omega)
  rcases this with z | z
  · rw [z]; exact PS.zero_lt _
  · exact PS.lt_mono (PS.flt c) (by omega)
theorem SPW.mono {N D W Q R : PS} {h h' : Nat} (s : SPW N D W Q R h) (hh : h ≤ h') : SPW N D W Q R h' := by
  obtain ⟨A, H, B, G, a, b, c, r⟩ := s
  exact ⟨A, H, B, G, a, b, PS.lt_mono c hh, r⟩
theorem SPW.un {N D W Q1 R1 Q2 R2 : PS} {h : Nat} (hD : D.fin) (hD0 : D ≠ PS.zero) (hDs : D.size + h ≤ 100) (hW : W.fin) (h1 : SPW N D W Q1 R1 h) (h2 : SPW N D W Q2 R2 h) : Q1 = Q2 ∧ R1 = R2 := by
  obtain ⟨A1, H1, B1, G1, a1, b1, l1, d1, e1, f1, w1, v1, s1⟩ := h1
  obtain ⟨A2, H2, B2, G2, a2, b2, l2, d2, e2, f2, w2, v2, s2⟩ := h2
  obtain ⟨hDM, hM, hM0, hsz⟩ := thn_dv hD hD0 (by omega)
  obtain ⟨hEf, hE0, hEd, hEs⟩ := PS.thn_spec hD hD0 (by omega)
  revert a1 b1 e1 f1 s1 a2 b2 e2 f2 s2 hDM hM hM0 hsz hEf hE0 hEd hEs
  generalize hEE : D.thn = E
  generalize D.dv E = M
  intro a1 b1 e1 f1 s1 a2 b2 e2 f2 s2 hDM hM hM0 hsz hEf hE0 hEd hEs
  have hDpos := PS.fpos hD hD0
  have hEl : E.lt E.size := (PS.fisz hEf).2
  have hHd : (H1.sub H2).lt h := PS.lt_sub l1 l2
  have hAd : (A1.sub A2).lt (E.size - 1) := PS.lt_sub a1 a2
  have hQ : ((A1.sub A2).add ((H1.sub H2).mul E)).size ≤ 100 :=
    PS.size_add_le (PS.lt_mono hAd (by omega)) (PS.lt_mul' hHd hEl (by omega))
  have key := split_zero (A := A1.sub A2) (H := H1.sub H2) (B := B1.sub B2) (G := G1.sub G2) (W := W) hD hD0 (by omega) hEE.symm hM hDM hAd ⟨_, hHd⟩ (PS.lt_sub b1 b2) (PS.fin_sub d1 d2) hW hQ (by have := PS.size_le hHd; omega)
    (fun hw => ⟨by rw [(w1 hw).1, (w2 hw).1]; exact PS.ext fun n => by { show (0 : F) - 0 = 0; grind }, by show H1 0 - H2 0 = 0; rw [(w1 hw).2, (w2 hw).2]; grind⟩)
    (fun hw => PS.lt_sub (v1 hw) (v2 hw)) (by
      have t1 := s1
      have t2 := s2
      unfold SI at t1 t2
      rw [e1, f1] at t1
      rw [e2, f2] at t2
      refine PS.cancel hD ?_ PS.fin_zero hD0 ?_
      · have hQf : ((A1.sub A2).add ((H1.sub H2).mul E)).fin := PS.fin_add ⟨_, hAd⟩ (PS.fin_mul ⟨_, hHd⟩ hEf)
        exact PS.fin_add (PS.fin_mul hM (PS.fin_add (PS.fin_sub (PS.fin_mul (PS.fin_der hQf) hEf) (PS.fin_mul hQf (PS.fin_der hEf))) (PS.fin_mul (PS.fin_mul hW hQf) hEf))) (PS.fin_mul (PS.fin_mul hEf hEf) (PS.fin_add (PS.fin_sub ⟨_, b1⟩ ⟨_, b2⟩) (PS.fin_mul (PS.fin_sub d1 d2) hM)))
      · rw [PS.mul_zero]
        rw [PS.der_add, PS.der_mul] at t1 t2
        rw [PS.der_add, PS.der_mul, PS.der_sub, PS.der_sub, PS.zero_eq]
        revert t1 t2
        generalize A1.der = A1'
        generalize A2.der = A2'
        generalize H1.der = H1'
        generalize H2.der = H2'
        generalize E.der = E'
        intro t1 t2
        letI := psRing
        have t1' : N * (E * E) * M = D * M * ((A1' + (H1' * E + H1 * E')) * E - (A1 + H1 * E) * E' + W * (A1 + H1 * E) * E) + D * (E * E) * (B1 + G1 * M) := t1
        have t2' : N * (E * E) * M = D * M * ((A2' + (H2' * E + H2 * E')) * E - (A2 + H2 * E) * E' + W * (A2 + H2 * E) * E) + D * (E * E) * (B2 + G2 * M) := t2
        show D * (M * ((A1' - A2' + ((H1' - H2') * E + (H1 - H2) * E')) * E - (A1 - A2 + (H1 - H2) * E) * E' + W * (A1 - A2 + (H1 - H2) * E) * E) + E * E * (B1 - B2 + (G1 - G2) * M)) = 0
        grind)
  have eA := PS.sub_eq_zero key.1
  have eH := PS.sub_eq_zero key.2.1
  have eB := PS.sub_eq_zero key.2.2.1
  have eG := PS.sub_eq_zero key.2.2.2
  exact ⟨by rw [e1, e2, eA, eH], by rw [f1, f2, eB, eG]⟩
theorem PS.der_smC (c : F) (p : PS) : (p.sm c).der = (p.der).sm c := PS.ext fun k => by
  show fi ((k : Int) + 1) * (c * p (k + 1)) = c * (fi ((k : Int) + 1) * p (k + 1)); grind
theorem PS.lt_smC {p : PS} {c : F} {n : Nat} (h : p.lt n) : (p.sm c).lt n := fun k hk => by show c * p k = 0; rw [h k hk]; grind
theorem SPW.lin {N1 N2 D W Q1 R1 Q2 R2 : PS} {h : Nat} (c : F) (h1 : SPW N1 D W Q1 R1 h) (h2 : SPW N2 D W Q2 R2 h) : SPW (N1.add (N2.sm c)) D W (Q1.add (Q2.sm c)) (R1.add (R2.sm c)) h := by
  obtain ⟨A1, H1, B1, G1, a1, b1, l1, d1, e1, f1, w1, v1, s1⟩ := h1
  obtain ⟨A2, H2, B2, G2, a2, b2, l2, d2, e2, f2, w2, v2, s2⟩ := h2
  refine ⟨A1.add (A2.sm c), H1.add (H2.sm c), B1.add (B2.sm c), G1.add (G2.sm c), PS.lt_add a1 (PS.lt_smC a2), PS.lt_add b1 (PS.lt_smC b2), PS.lt_add l1 (PS.lt_smC l2), PS.fin_add d1 (PS.fin_sm c d2), ?_, ?_, fun z => ⟨?_, ?_⟩, fun z => PS.lt_add (v1 z) (PS.lt_smC (v2 z)), ?_⟩
  · rw [e1, e2, ← PS.C_mul, ← PS.C_mul, ← PS.C_mul]
    generalize D.thn = E
    generalize PS.C c = k
    letI := psRing
    show A1 + H1 * E + k * (A2 + H2 * E) = A1 + k * A2 + (H1 + k * H2) * E
    grind
  · rw [f1, f2, ← PS.C_mul, ← PS.C_mul, ← PS.C_mul]
    generalize D.dv D.thn = E
    generalize PS.C c = k
    letI := psRing
    show B1 + G1 * E + k * (B2 + G2 * E) = B1 + k * B2 + (G1 + k * G2) * E
    grind
  · rw [(w1 z).1, (w2 z).1]; exact PS.ext fun k => by show (0 : F) + c * 0 = 0; grind
  · show H1 0 + c * H2 0 = 0; rw [(w1 z).2, (w2 z).2]; grind
  · revert s1 s2
    unfold SI
    rw [PS.der_add, PS.der_smC, ← PS.C_mul, ← PS.C_mul, ← PS.C_mul, ← PS.C_mul]
    generalize D.dv D.thn = M
    generalize D.thn.der = E'
    generalize D.thn = E
    generalize PS.C c = k
    generalize Q1.der = Q1'
    generalize Q2.der = Q2'
    intro s1 s2
    letI := psRing
    have t1 : N1 * (E * E) * M = D * M * (Q1' * E - Q1 * E' + W * Q1 * E) + D * (E * E) * R1 := s1
    have t2 : N2 * (E * E) * M = D * M * (Q2' * E - Q2 * E' + W * Q2 * E) + D * (E * E) * R2 := s2
    show (N1 + k * N2) * (E * E) * M = D * M * ((Q1' + k * Q2') * E - (Q1 + k * Q2) * E' + W * (Q1 + k * Q2) * E) + D * (E * E) * (R1 + k * R2)
    grind
/-- what divides what when the denominator grows -/
theorem thn_grow {D K : PS} (hD : D.fin) (hK : K.fin) (hD0 : D ≠ PS.zero) (hK0 : K ≠ PS.zero) (hs : (D.mul K).size ≤ 100) : D.thn.dvd (D.mul K).thn ∧ (D.dv D.thn).dvd ((D.mul K).dv (D.mul K).thn) := by
  have fDK := PS.fin_mul hD hK
  have nDK := PS.fmul_ne hD hK hD0 hK0
  have sz := PS.fsize_mul hD hK hD0 hK0
  have pK := PS.fpos hK hK0
  have pD := PS.fpos hD hD0
  obtain ⟨e1, m1, m2, m3⟩ := thn_dv hD hD0 (by omega)
  obtain ⟨e2, n1, n2, n3⟩ := thn_dv fDK nDK hs
  obtain ⟨t1, t2, t3, t4⟩ := PS.thn_spec hD hD0 (by omega)
  obtain ⟨u1, u2, u3, u4⟩ := PS.thn_spec fDK nDK hs
  have base : ∀ P : PS, P.irr → ∃ i j, P.mlt D i ∧ P.mlt (D.mul K) (i + j) ∧ P.mlt D.thn (i - 1) ∧ P.mlt (D.mul K).thn (i + j - 1) := fun P hP => by
    obtain ⟨i, hi, -⟩ := PS.mlt_ex hP _ D hD hD0 (Nat.le_refl _)
    obtain ⟨j, hj, -⟩ := PS.mlt_ex hP _ K hK hK0 (Nat.le_refl _)
    exact ⟨i, j, hi, PS.mlt_mul' hP hi hj, PS.thn_mlt hP hD hD0 (by omega) hi, PS.thn_mlt hP fDK nDK hs (PS.mlt_mul' hP hi hj)⟩
  refine ⟨PS.dvd_mlt' _ _ _ t1 u1 t2 u2 (Nat.le_refl _) fun P hP x y hx hy => ?_, PS.dvd_mlt' _ _ _ m1 n1 m2 n2 (Nat.le_refl _) fun P hP x y hx hy => ?_⟩
  · obtain ⟨i, j, -, -, k1, k2⟩ := base P hP
    rw [PS.mlt_un hP hx k1, PS.mlt_un hP hy k2]; omega
  · obtain ⟨i, j, k0, k00, k1, k2⟩ := base P hP
    have z1 := PS.mlt_mul' hP hx k1
    rw [← e1] at z1
    have z2 := PS.mlt_mul' hP hy k2
    rw [← e2] at z2
    have y1 := PS.mlt_un hP z1 k0
    have y2 := PS.mlt_un hP z2 k00
    omega
theorem SPW.lift {N D K W Q R : PS} {h : Nat} (hD : D.fin) (hK : K.fin) (hD0 : D ≠ PS.zero) (hK0 : K ≠ PS.zero) (hs : (D.mul K).size ≤ 100) (s : SPW N D W Q R h) : ∃ X Y : PS, X.fin ∧ Y.fin ∧ X ≠ PS.zero ∧ Y ≠ PS.zero ∧ (D.mul K).thn = X.mul D.thn ∧ (D.mul K).dv (D.mul K).thn = Y.mul (D.dv D.thn) ∧ SPW (N.mul K) (D.mul K) W (Q.mul X) (R.mul Y) h := by
  have fDK := PS.fin_mul hD hK
  have nDK := PS.fmul_ne hD hK hD0 hK0
  have sz := PS.fsize_mul hD hK hD0 hK0
  have pK := PS.fpos hK hK0
  have pD := PS.fpos hD hD0
  obtain ⟨⟨X, fX, eX⟩, ⟨Y, fY, eY⟩⟩ := thn_grow hD hK hD0 hK0 hs
  obtain ⟨e1, m1, m2, m3⟩ := thn_dv hD hD0 (by omega)
  obtain ⟨e2, n1, n2, n3⟩ := thn_dv fDK nDK hs
  obtain ⟨t1, t2, t3, t4⟩ := PS.thn_spec hD hD0 (by omega)
  obtain ⟨u1, u2, u3, u4⟩ := PS.thn_spec fDK nDK hs
  have X0 : X ≠ PS.zero := fun z => u2 (by rw [eX, z, PS.zero_mul])
  have Y0 : Y ≠ PS.zero := fun z => n2 (by rw [eY, z, PS.zero_mul])
  have sX := PS.fsize_mul fX t1 X0 t2
  rw [← eX] at sX
  have sY := PS.fsize_mul fY m1 Y0 m2
  rw [← eY] at sY
  have pX := PS.fpos fX X0
  have pY := PS.fpos fY Y0
  have pE := PS.fpos t1 t2
  have pM := PS.fpos m1 m2
  have eK : K = X.mul Y := by
    refine PS.cancel hD hK (PS.fin_mul fX fY) hD0 ?_
    rw [e2, eY, eX]
    revert e1
    generalize D.dv D.thn = M
    generalize D.thn = E
    intro e1
    rw [e1]
    letI := psRing
    show Y * M * (X * E) = M * E * (X * Y)
    grind
  refine ⟨X, Y, fX, fY, X0, Y0, eX, eY, ?_⟩
  obtain ⟨A, H, B, G, a, b, l, d, e, f, w, v, s⟩ := s
  refine ⟨A.mul X, H, B.mul Y, G, ?_, ?_, l, d, ?_, ?_, w, v, ?_⟩
  · by_cases c : A = PS.zero
    · rw [c, PS.zero_mul]; exact PS.zero_lt _
    · have := PS.fpos ⟨_, a⟩ c
      have := PS.size_le a
      exact PS.lt_mul' a (PS.flt fX) (by omega)
  · by_cases c : B = PS.zero
    · rw [c, PS.zero_mul]; exact PS.zero_lt _
    · have := PS.fpos ⟨_, b⟩ c
      have := PS.size_le b
      exact PS.lt_mul' b (PS.flt fY) (by omega)
  · rw [e, eX]
    generalize D.thn = E
    letI := psRing
    show (A + H * E) * X = A * X + H * (X * E)
    grind
  · rw [f, eY]
    generalize D.dv D.thn = E
    letI := psRing
    show (B + G * E) * Y = B * Y + G * (Y * E)
    grind
  · revert s
    unfold SI
    rw [eY, eX, eK, PS.der_mul, PS.der_mul]
    generalize D.dv D.thn = M
    generalize D.thn.der = E'
    generalize D.thn = E
    generalize Q.der = Q'
    generalize X.der = X'
    intro s
    letI := psRing
    have s : N * (E * E) * M = D * M * (Q' * E - Q * E' + W * Q * E) + D * (E * E) * R := s
    show N * (X * Y) * (X * E * (X * E)) * (Y * M) = D * (X * Y) * (Y * M) * ((Q' * X + Q * X') * (X * E) - Q * X * (X' * E + X * E') + W * (Q * X) * (X * E)) + D * (X * Y) * (X * E * (X * E)) * (R * Y)
    have e : N * (X * Y) * (X * E * (X * E)) * (Y * M) = (X * X * X * Y * Y) * (N * (E * E) * M) := by grind
    rw [e, s]
    grind
