/-! ===== the pencil: class and reference ===== -/
theorem alg_fl {α : Type} [Lean.Grind.CommRing α] (Q0 X0 E0 Q1 X1 E1 Q2 X2 E2 q1 e1 q2 e2 k E : α) (h : Q0 * X0 = Q1 * X1 + k * (Q2 * X2)) (h0 : E = X0 * E0) (h1 : E = X1 * E1) (h2 : E = X2 * E2) (r1 : q1 * E1 = Q1 * e1) (r2 : q2 * E2 = Q2 * e2) : X0 * (Q0 * (e1 * e2)) = X0 * ((q1 * e2 + k * (q2 * e1)) * E0) := by
  have a : X0 * (Q0 * (e1 * e2)) = (Q0 * X0) * (e1 * e2) := by grind
  have b : X0 * ((q1 * e2 + k * (q2 * e1)) * E0) = q1 * e2 * (X0 * E0) + k * (q2 * e1) * (X0 * E0) := by grind
  have c : q1 * e2 * E = (q1 * E1) * (X1 * e2) := by rw [h1]; grind
  have d : k * (q2 * e1) * E = k * (q2 * E2) * (X2 * e1) := by rw [h2]; grind
  rw [a, b, h, ← h0, c, d, r1, r2]
  grind
theorem frac_lin {Q0 X0 E0 Q1 X1 E1 Q2 X2 E2 E : PS} {c : F} (f0 : Q0.fin ∧ E0.fin) (f1 : Q1.fin ∧ E1.fin) (f2 : Q2.fin ∧ E2.fin) (fX : X0.fin) (n0 : E0 ≠ PS.zero) (n1 : E1 ≠ PS.zero) (n2 : E2 ≠ PS.zero) (nX : X0 ≠ PS.zero) (z : E0.size < 90 ∧ E1.size < 90 ∧ E2.size < 90)
    (h : Q0.mul X0 = (Q1.mul X1).add ((Q2.mul X2).sm c)) (h0 : E = X0.mul E0) (h1 : E = X1.mul E1) (h2 : E = X2.mul E2) : frd Q0 E0 = fpl (frd Q1 E1) (frd Q2 E2) c := by
  have s1 := rd_spec f1.1 f1.2 n1 (by omega)
  have s2 := rd_spec f2.1 f2.2 n2 (by omega)
  have y := PS.mul_sz (n := 190) s1.1.2.1 s2.1.2.1 (by omega)
  have e := rd_eq (N1 := Q0) (D1 := E0) (N2 := ((rdN Q1 E1).mul (rdD Q2 E2)).add (((rdN Q2 E2).mul (rdD Q1 E1)).sm c)) (D2 := (rdD Q1 E1).mul (rdD Q2 E2)) f0.1 f0.2 n0 (by omega) (PS.fin_add (PS.fin_mul s1.1.1 s2.1.2.1) (PS.fin_sm _ (PS.fin_mul s2.1.1 s1.1.2.1))) (PS.fin_mul s1.1.2.1 s2.1.2.1) (PS.fmul_ne s1.1.2.1 s2.1.2.1 s1.1.2.2.1 s2.1.2.2.1) (by omega) (by
    refine PS.cancel (a := X0) fX (PS.fin_mul f0.1 (PS.fin_mul s1.1.2.1 s2.1.2.1)) (PS.fin_mul (PS.fin_add (PS.fin_mul s1.1.1 s2.1.2.1) (PS.fin_sm _ (PS.fin_mul s2.1.1 s1.1.2.1))) f0.2) nX ?_
    rw [sm_C] at h
    rw [sm_C]
    exact @alg_fl PS psRing Q0 X0 E0 Q1 X1 E1 Q2 X2 E2 _ _ _ _ (PS.C c) E h h0 h1 h2 s1.2.1 s2.2.1)
  exact Prod.ext e.1 e.2
theorem rd_fac {N D : PS} (hN : N.fin) (hD : D.fin) (hD0 : D ≠ PS.zero) (hs : D.size < 200) : ∃ K : PS, K.fin ∧ K ≠ PS.zero ∧ N = (rdN N D).mul K ∧ D = (rdD N D).mul K := by
  by_cases c : N = PS.zero
  · refine ⟨D, hD, hD0, ?_, ?_⟩
    · rw [c, (rd_zero D).1, PS.zero_mul]
    · rw [c, (rd_zero D).2, PS.one_mul]
  · obtain ⟨Y, N1, D1, fY, fN, fD, Y0, e1, e2, d0, m0, -, r1, r2⟩ := rd_shape hN hD c hD0 hs
    have hd := hd_ne fD d0
    have iv := finv_mul _ hd
    have k : ∀ p : PS, p.mul Y = (p.sm (finv (fi (hdI D1)))).mul (Y.sm (fi (hdI D1))) := fun p => by
      rw [sm_C, sm_C]
      have e : (PS.C (finv (fi (hdI D1)))).mul (PS.C (fi (hdI D1))) = PS.one := by rw [C_C, show finv (fi (hdI D1)) * fi (hdI D1) = 1 by grind]; rfl
      revert e
      generalize PS.C (finv (fi (hdI D1))) = u
      generalize PS.C (fi (hdI D1)) = v
      intro e
      letI := psRing
      have e : u * v = 1 := e
      show p * Y = u * p * (v * Y)
      grind
    refine ⟨Y.sm (fi (hdI D1)), PS.fin_sm _ fY, fun z => ?_, ?_, ?_⟩
    · apply Y0
      have : (Y.sm (fi (hdI D1))).sm (finv (fi (hdI D1))) = PS.zero.sm (finv (fi (hdI D1))) := by rw [z]
      rw [PS.sm_sm, show finv (fi (hdI D1)) * fi (hdI D1) = 1 by grind, PS.sm_one] at this
      rw [this]; exact PS.ext fun n => by show _ * (0 : F) = 0; grind
    · rw [r1, ← k]; exact e1
    · rw [r2]; show D = (D1.sm _).mul _; rw [← k]; exact e2
theorem sp2_spl {a : FP2} {n d : Nat} {W : PS} (h : SplOK a n d) (hn : n ≤ 60) (hd : d ≤ 48) (hW : W.fin) (hWs : W.size ≤ 4) : SPW a.1 a.2 W (spQ a.1 a.2 W) (spR a.1 a.2 W) 61 := by
  obtain ⟨Q, R, s⟩ := SPL_ex h.1.1.1 h.1.1.2.1 h.1.1.2.2.1 (by have := h.1.2.2; omega) h.1.1.2.2.2.1 hW (by have := gd_of h hWs; omega)
  have e := SPL.eq h.1.1.1 h.1.1.2.1 h.1.1.2.2.1 (by have := h.1.2.2; omega) (by have := h.1.2.1; omega) hW s
  rw [e.1, e.2]
  exact s.w.mono (by have := h.1.2.1; have := PS.fpos h.1.1.2.1 h.1.1.2.2.1; omega)
theorem SPW.fins {N D W Q R : PS} {h : Nat} (hD : D.fin) (hD0 : D ≠ PS.zero) (hs : D.size ≤ 100) (s : SPW N D W Q R h) : Q.fin ∧ R.fin := by
  obtain ⟨A, H, B, G, a, b, l, d, e, f, -⟩ := s
  obtain ⟨-, m1, -, -⟩ := thn_dv hD hD0 hs
  obtain ⟨t1, -⟩ := PS.thn_spec hD hD0 hs
  exact ⟨by rw [e]; exact PS.fin_add ⟨_, a⟩ (PS.fin_mul ⟨_, l⟩ t1), by rw [f]; exact PS.fin_add ⟨_, b⟩ (PS.fin_mul d m1)⟩
theorem sp2_lin {a b : FP2} {W : PS} {c : F} (ha : SplOK a 24 20) (hb : SplOK b 24 20) (hW : W.fin) (hWs : W.size ≤ 4) : sp2 (fpl a b c) W = (fpl (sp2 a W).1 (sp2 b W).1 c, fpl (sp2 a W).2 (sp2 b W).2 c) := by
  obtain ⟨a1, a2, a3, -, -⟩ := ha.1.1
  obtain ⟨b1, b2, b3, -, -⟩ := hb.1.1
  have za := ha.1.2.2
  have zb := hb.1.2.2
  have pl : SplOK (fpl a b c) 43 39 := ⟨FOK.pl _ ha.1 hb.1 (by omega) (by omega) (by omega) (by omega), ORD.pl _ ha.1 hb.1 ha.2 hb.2 (by omega)⟩
  have fD := PS.fin_mul a2 b2
  have nD := PS.fmul_ne a2 b2 a3 b3
  have zD := PS.mul_sz (n := 39) a2 b2 (by omega)
  have fN : ((a.1.mul b.2).add ((b.1.mul a.2).sm c)).fin := PS.fin_add (PS.fin_mul a1 b2) (PS.fin_sm _ (PS.fin_mul b1 a2))
  obtain ⟨K, fK, K0, eN, eD⟩ := rd_fac fN fD nD (by omega)
  have eN : (a.1.mul b.2).add ((b.1.mul a.2).sm c) = (fpl a b c).1.mul K := eN
  have eD : a.2.mul b.2 = (fpl a b c).2.mul K := eD
  obtain ⟨p1, p2, p3, -, -⟩ := pl.1.1
  have zp := pl.1.2.2
  have s1 := sp2_spl ha (by omega) (by omega) hW hWs
  have s2 := sp2_spl hb (by omega) (by omega) hW hWs
  have s0 := sp2_spl pl (by omega) (by omega) hW hWs
  obtain ⟨X1, Y1, fX1, fY1, -, -, x1, y1, l1⟩ := s1.lift a2 b2 a3 b3 (by omega)
  obtain ⟨X2, Y2, fX2, fY2, -, -, x2, y2, l2⟩ := s2.lift b2 a2 b3 a3 (by rw [PS.mul_comm]; omega)
  obtain ⟨X0, Y0, fX0, fY0, nX0, nY0, x0, y0, l0⟩ := s0.lift p2 fK p3 K0 (by rw [← eD]; omega)
  rw [PS.mul_comm b.2 a.2] at x2 y2 l2
  rw [← eD, ← eN] at l0
  rw [← eD] at x0 y0
  have un := SPW.un fD nD (by omega) hW l0 (l1.lin c l2)
  have g1 := s1.fins a2 a3 (by omega)
  have g2 := s2.fins b2 b3 (by omega)
  have g0 := s0.fins p2 p3 (by omega)
  obtain ⟨-, m1, m1', m1s⟩ := thn_dv a2 a3 (by omega)
  obtain ⟨-, m2, m2', m2s⟩ := thn_dv b2 b3 (by omega)
  obtain ⟨-, m0, m0', m0s⟩ := thn_dv p2 p3 (by omega)
  obtain ⟨t1, t1', -, t1s⟩ := PS.thn_spec a2 a3 (by omega)
  obtain ⟨t2, t2', -, t2s⟩ := PS.thn_spec b2 b3 (by omega)
  obtain ⟨t0, t0', -, t0s⟩ := PS.thn_spec p2 p3 (by omega)
  have o1 := PS.fpos t1 t1'
  have o2 := PS.fpos t2 t2'
  have o0 := PS.fpos t0 t0'
  exact Prod.ext (frac_lin ⟨g0.1, t0⟩ ⟨g1.1, t1⟩ ⟨g2.1, t2⟩ fX0 t0' t1' t2' nX0 ⟨by omega, by omega, by omega⟩ un.1 x0 x1 x2) (frac_lin ⟨g0.2, m0⟩ ⟨g1.2, m1⟩ ⟨g2.2, m2⟩ fY0 m0' m1' m2' nY0 ⟨by omega, by omega, by omega⟩ un.2 y0 y1 y2)
/-- a fraction has a value -/
def VL (x : FP2) (N D : PS) : Prop := x.1.mul D = N.mul x.2 ∧ N.fin ∧ D.fin ∧ D ≠ PS.zero
theorem VL.un {x y : FP2} {N D : PS} (hx : RDP x.1 x.2) (hy : RDP y.1 y.2) (h1 : VL x N D) (h2 : VL y N D) : x = y := by
  have e := RDP.un hx hy (by
    refine PS.cancel h1.2.2.1 (PS.fin_mul hx.1 hy.2.1) (PS.fin_mul hy.1 hx.2.1) h1.2.2.2 ?_
    have a := h1.1
    have b := h2.1
    revert a b
    generalize x.1 = p
    generalize x.2 = q
    generalize y.1 = r
    generalize y.2 = s
    intro a b
    letI := psRing
    have a : p * D = N * q := a
    have b : r * D = N * s := b
    show D * (p * s) = D * (r * q)
    grind)
  exact Prod.ext e.1 e.2
theorem VL.self {x : FP2} (h : RDP x.1 x.2) : VL x x.1 x.2 := ⟨rfl, h.1, h.2.1, h.2.2.1⟩
theorem VL.pl {a b : FP2} {N M D E : PS} {c : F} (ra : RDP a.1 a.2) (rb : RDP b.1 b.2) (z : (a.2.mul b.2).size < 200) (ha : VL a N D) (hb : VL b M E) : VL (fpl a b c) ((N.mul E).add ((M.mul D).sm c)) (D.mul E) := by
  have s := rd_spec (N := (a.1.mul b.2).add ((b.1.mul a.2).sm c)) (D := a.2.mul b.2) (PS.fin_add (PS.fin_mul ra.1 rb.2.1) (PS.fin_sm _ (PS.fin_mul rb.1 ra.2.1))) (PS.fin_mul ra.2.1 rb.2.1) (PS.fmul_ne ra.2.1 rb.2.1 ra.2.2.1 rb.2.2.1) z
  refine ⟨?_, PS.fin_add (PS.fin_mul ha.2.1 hb.2.2.1) (PS.fin_sm _ (PS.fin_mul hb.2.1 ha.2.2.1)), PS.fin_mul ha.2.2.1 hb.2.2.1, PS.fmul_ne ha.2.2.1 hb.2.2.1 ha.2.2.2 hb.2.2.2⟩
  show (rdN _ _).mul (D.mul E) = _
  refine PS.cancel (a := a.2.mul b.2) (PS.fin_mul ra.2.1 rb.2.1) (PS.fin_mul s.1.1 (PS.fin_mul ha.2.2.1 hb.2.2.1)) (PS.fin_mul (PS.fin_add (PS.fin_mul ha.2.1 hb.2.2.1) (PS.fin_sm _ (PS.fin_mul hb.2.1 ha.2.2.1))) s.1.2.1) (PS.fmul_ne ra.2.1 rb.2.1 ra.2.2.1 rb.2.2.1) ?_
  have e := s.2.1
  have x := ha.1
  have y := hb.1
  show _ = (a.2.mul b.2).mul (PS.mul _ (rdD _ _))
  revert e x y
  generalize rdN ((a.1.mul b.2).add ((b.1.mul a.2).sm c)) (a.2.mul b.2) = n
  generalize rdD ((a.1.mul b.2).add ((b.1.mul a.2).sm c)) (a.2.mul b.2) = d
  rw [sm_C, sm_C]
  generalize a.1 = a1
  generalize a.2 = a2
  generalize b.1 = b1
  generalize b.2 = b2
  generalize PS.C c = k
  intro e x y
  letI := psRing
  have e : n * (a2 * b2) = (a1 * b2 + k * (b1 * a2)) * d := e
  have x : a1 * D = N * a2 := x
  have y : b1 * E = M * b2 := y
  show (a2 * b2) * (n * (D * E)) = (a2 * b2) * ((N * E + k * (M * D)) * d)
  have q1 : (a2 * b2) * (n * (D * E)) = (n * (a2 * b2)) * (D * E) := by grind
  have q2 : (a1 * b2 + k * (b1 * a2)) * d * (D * E) = d * ((a1 * D) * (b2 * E) + k * ((b1 * E) * (a2 * D))) := by grind
  rw [q1, e, q2, x, y]
  grind
theorem VL.ml {a b : FP2} {N M D E : PS} (ra : RDP a.1 a.2) (rb : RDP b.1 b.2) (z : (a.2.mul b.2).size < 200) (ha : VL a N D) (hb : VL b M E) : VL (fml a b) (N.mul M) (D.mul E) := by
  have s := rd_spec (N := a.1.mul b.1) (D := a.2.mul b.2) (PS.fin_mul ra.1 rb.1) (PS.fin_mul ra.2.1 rb.2.1) (PS.fmul_ne ra.2.1 rb.2.1 ra.2.2.1 rb.2.2.1) z
  refine ⟨?_, PS.fin_mul ha.2.1 hb.2.1, PS.fin_mul ha.2.2.1 hb.2.2.1, PS.fmul_ne ha.2.2.1 hb.2.2.1 ha.2.2.2 hb.2.2.2⟩
  show (rdN _ _).mul (D.mul E) = _
  refine PS.cancel (a := a.2.mul b.2) (PS.fin_mul ra.2.1 rb.2.1) (PS.fin_mul s.1.1 (PS.fin_mul ha.2.2.1 hb.2.2.1)) (PS.fin_mul (PS.fin_mul ha.2.1 hb.2.1) s.1.2.1) (PS.fmul_ne ra.2.1 rb.2.1 ra.2.2.1 rb.2.2.1) ?_
  have e := s.2.1
  have x := ha.1
  have y := hb.1
  show _ = (a.2.mul b.2).mul (PS.mul _ (rdD _ _))
  revert e x y
  generalize rdN (a.1.mul b.1) (a.2.mul b.2) = n
  generalize rdD (a.1.mul b.1) (a.2.mul b.2) = d
  generalize a.1 = a1
  generalize a.2 = a2
  generalize b.1 = b1
  generalize b.2 = b2
  intro e x y
  letI := psRing
  have e : n * (a2 * b2) = (a1 * b1) * d := e
  have x : a1 * D = N * a2 := x
  have y : b1 * E = M * b2 := y
  show (a2 * b2) * (n * (D * E)) = (a2 * b2) * ((N * M) * d)
  have q1 : (a2 * b2) * (n * (D * E)) = (n * (a2 * b2)) * (D * E) := by grind
  have q2 : (a1 * b1) * d * (D * E) = d * ((a1 * D) * (b1 * E)) := by grind
  rw [q1, e, q2, x, y]
  grind
theorem VL.sc {x : FP2} {N D N' D' K : PS} (h : VL x N D) (fK : K.fin) (nK : K ≠ PS.zero) (e1 : N' = N.mul K) (e2 : D' = D.mul K) : VL x N' D' := by
  subst e1 e2
  refine ⟨?_, PS.fin_mul h.2.1 fK, PS.fin_mul h.2.2.1 fK, PS.fmul_ne h.2.2.1 fK h.2.2.2 nK⟩
  have e := h.1
  revert e
  generalize x.1 = p
  generalize x.2 = q
  intro e
  letI := psRing
  have e : p * D = N * q := e
  show p * (D * K) = N * K * q
  grind
/-- the sums go together -/
theorem fpl_swap {j1 j2 q1 q2 u : FP2} {c k : F} (h1 : FOK j1 8 8) (h2 : FOK j2 8 8) (h3 : FOK q1 25 19) (h4 : FOK q2 25 19) (h5 : FOK u 4 4) : fpl (fpl j1 j2 c) (fml (fpl q1 q2 c) u) k = fpl (fpl j1 (fml q1 u) k) (fpl j2 (fml q2 u) k) c := by
  have a := FOK.pl (k := 15) (q := 15) c h1 h2 (by omega) (by omega) (by omega) (by omega)
  have b := FOK.pl (k := 43) (q := 37) c h3 h4 (by omega) (by omega) (by omega) (by omega)
  have d := FOK.ml (k := 46) (q := 40) b h5 (by omega) (by omega) (by omega)
  have e1 := FOK.ml (k := 28) (q := 22) h3 h5 (by omega) (by omega) (by omega)
  have e2 := FOK.ml (k := 28) (q := 22) h4 h5 (by omega) (by omega) (by omega)
  have g1 := FOK.pl (k := 35) (q := 29) k h1 e1 (by omega) (by omega) (by omega) (by omega)
  have g2 := FOK.pl (k := 35) (q := 29) k h2 e2 (by omega) (by omega) (by omega) (by omega)
  have sz : ∀ {x y : FP2} {n d n' d' : Nat}, FOK x n d → FOK y n' d' → d + d' ≤ 199 → (x.2.mul y.2).size < 200 := fun {x y n d n' d'} hx hy hz => by
    have := PS.mul_sz (n := 199) hx.1.2.1 hy.1.2.1 (by have := hx.2.2; have := hy.2.2; omega)
    omega
  have L := VL.pl (c := k) a.1 d.1 (sz a d (by omega)) (VL.pl (c := c) h1.1 h2.1 (sz h1 h2 (by omega)) (VL.self h1.1) (VL.self h2.1)) (VL.ml b.1 h5.1 (sz b h5 (by omega)) (VL.pl (c := c) h3.1 h4.1 (sz h3 h4 (by omega)) (VL.self h3.1) (VL.self h4.1)) (VL.self h5.1))
  have R := VL.pl (c := c) g1.1 g2.1 (sz g1 g2 (by omega)) (VL.pl (c := k) h1.1 e1.1 (sz h1 e1 (by omega)) (VL.self h1.1) (VL.ml h3.1 h5.1 (sz h3 h5 (by omega)) (VL.self h3.1) (VL.self h5.1))) (VL.pl (c := k) h2.1 e2.1 (sz h2 e2 (by omega)) (VL.self h2.1) (VL.ml h4.1 h5.1 (sz h4 h5 (by omega)) (VL.self h4.1) (VL.self h5.1)))
  refine VL.un (FOK.pl (k := 100) (q := 100) k a d (by omega) (by omega) (by omega) (by omega)).1 (FOK.pl (k := 100) (q := 100) c g1 g2 (by omega) (by omega) (by omega) (by omega)).1 (L.sc h5.1.2.1 h5.1.2.2.1 (N' := _) (D' := _) rfl rfl) (R.sc PS.fin_one PS.one_ne ?_ ?_)
  · rw [sm_C, sm_C, sm_C, sm_C, sm_C, sm_C]
    generalize j1.1 = a1
    generalize j1.2 = a2
    generalize j2.1 = b1
    generalize j2.2 = b2
    generalize q1.1 = c1
    generalize q1.2 = c2
    generalize q2.1 = d1
    generalize q2.2 = d2
    generalize u.1 = u1
    generalize u.2 = u2
    generalize PS.C c = x
    generalize PS.C k = y
    letI := psRing
    show ((a1 * b2 + x * (b1 * a2)) * (c2 * d2 * u2) + y * ((c1 * d2 + x * (d1 * c2)) * u1 * (a2 * b2))) * u2 = ((a1 * (c2 * u2) + y * (c1 * u1 * a2)) * (b2 * (d2 * u2)) + x * ((b1 * (d2 * u2) + y * (d1 * u1 * b2)) * (a2 * (c2 * u2)))) * 1
    grind
  · generalize j1.2 = a2
    generalize j2.2 = b2
    generalize q1.2 = c2
    generalize q2.2 = d2
    generalize u.2 = u2
    letI := psRing
    show a2 * b2 * (c2 * d2 * u2) * u2 = a2 * (c2 * u2) * (b2 * (d2 * u2)) * 1
    grind
theorem fpl_00 (c : F) : fpl f00 f00 c = f00 := by
  have e : (f00.1.mul f00.2).add ((f00.1.mul f00.2).sm c) = PS.zero := PS.ext fun n => by
    show (PS.zero.mul PS.one) n + c * (PS.zero.mul PS.one) n = 0
    rw [PS.zero_mul]; show (0 : F) + c * 0 = 0; grind
  unfold fpl
  rw [e]
  exact Prod.ext (rd_zero _).1 (rd_zero _).2
