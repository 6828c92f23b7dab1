/-! ===== a fraction's shortest form ===== -/
def RDP (n d : PS) : Prop := n.fin ∧ d.fin ∧ d ≠ PS.zero ∧ d.mnc ∧ ∀ P : PS, P.irr → P.dvd n → ¬ P.dvd d
theorem alg_e1 {α : Type} [Lean.Grind.CommRing α] (a b c d : α) : a * b * (c * d) = a * d * (c * b) := by grind
theorem alg_e2 {α : Type} [Lean.Grind.CommRing α] (n1 d1 n2 d2 N1 D1 N2 D2 : α) (h1 : n1 * D1 = N1 * d1) (h2 : n2 * D2 = N2 * d2) (e : N1 * D2 = N2 * D1) : D1 * D2 * (n1 * d2) = D1 * D2 * (n2 * d1) := by
  have e1 : D1 * D2 * (n1 * d2) = n1 * D1 * (D2 * d2) := by grind
  have e2 : D1 * D2 * (n2 * d1) = n2 * D2 * (D1 * d1) := by grind
  rw [e1, e2, h1, h2]
  have e3 : N1 * d1 * (D2 * d2) = N1 * D2 * (d1 * d2) := by grind
  rw [e3, e]
  grind
theorem alg_e3 {α : Type} [Lean.Grind.CommRing α] (a y d : α) : a * (d * y) = a * y * d := by grind
theorem PS.sm_mul2 (c : F) (p q : PS) : (p.sm c).mul q = p.mul (q.sm c) := by
  rw [PS.sm_mul, PS.mul_comm p (q.sm c), PS.sm_mul, PS.mul_comm p q]
theorem PS.irr_one {P : PS} (h : P.irr) : ¬ P.dvd PS.one := fun q => by
  have h1 := PS.dvd_size h.1 q (fun e => by have := congrFun e 0; exact absurd this (by decide))
  have h2 : PS.one.size = 1 := PS.size_eq ⟨Or.inr (by decide), PS.C_lt 1⟩
  have := h.2.1
  omega
theorem PS.mnc_one : PS.one.mnc := by
  have h2 : PS.one.size = 1 := PS.size_eq ⟨Or.inr (by decide), PS.C_lt 1⟩
  unfold PS.mnc
  rw [h2]; rfl
theorem PS.one_ne : PS.one ≠ PS.zero := fun e => by have := congrFun e 0; exact absurd this (by decide)
theorem rd_shape {N D : PS} (hN : N.fin) (hD : D.fin) (hN0 : N ≠ PS.zero) (hD0 : D ≠ PS.zero) (hs : D.size < 200) : ∃ Y N1 D1 : PS, Y.fin ∧ N1.fin ∧ D1.fin ∧ Y ≠ PS.zero ∧ N = N1.mul Y ∧ D = D1.mul Y ∧ D1 ≠ PS.zero ∧ N1 ≠ PS.zero ∧ (∀ P : PS, P.irr → P.dvd N1 → ¬ P.dvd D1) ∧ rdN N D = N1.sm (finv (fi (hdI D1))) ∧ rdD N D = D1.mon := by
  have g := PS.gcd_spec hN hD hN0 hs
  obtain ⟨u, v, hu, hv, eb⟩ := g.2.2.2.2
  have sz := PS.dvd_size g.1 g.2.2.2.1 hD0
  have gp := PS.fpos g.1 g.2.1
  unfold rdN rdD
  rw [if_neg hN0, if_neg hN0]
  have key : ∀ Y N1 D1 : PS, Y.fin → N1.fin → D1.fin → Y ≠ PS.zero → N = N1.mul Y → D = D1.mul Y → (N.gcd D).size ≤ Y.size → ∀ P : PS, P.irr → P.dvd N1 → ¬ P.dvd D1 := by
    intro Y N1 D1 hY hN1 hD1 hY0 e1 e2 hsz P hP d1 d2
    obtain ⟨a, ha, ea⟩ := d1
    obtain ⟨b, hb, ebb⟩ := d2
    have h3 : (P.mul Y).dvd (N.gcd D) := by
      rw [eb]
      refine PS.dvd_add (PS.dvd_mul_left u hu ⟨a, ha, ?_⟩) (PS.dvd_mul_left v hv ⟨b, hb, ?_⟩)
      · rw [e1, ea, PS.mul_assoc]
      · rw [e2, ebb, PS.mul_assoc]
    have h4 := (PS.dvd_size (PS.fin_mul hP.1 hY) h3 g.2.1).1
    have h5 := PS.fsize_mul hP.1 hY (PS.irr_ne hP) hY0
    have := hP.2.1
    omega
  by_cases c : 1 < (N.gcd D).size
  · rw [if_pos ⟨by omega, c⟩, if_pos ⟨by omega, c⟩]
    obtain ⟨e1, f1⟩ := PS.dvd_dv g.1 g.2.1 g.2.2.1
    obtain ⟨e2, f2⟩ := PS.dvd_dv g.1 g.2.1 g.2.2.2.1
    refine ⟨N.gcd D, N.dv (N.gcd D), D.dv (N.gcd D), g.1, f1, f2, g.2.1, e1, e2, ?_, ?_, key _ _ _ g.1 f1 f2 g.2.1 e1 e2 (Nat.le_refl _), rfl, rfl⟩
    · intro q; apply hD0; rw [e2, q, PS.zero_mul]
    · intro q; apply hN0; rw [e1, q, PS.zero_mul]
  · rw [if_neg (fun q => c q.2), if_neg (fun q => c q.2)]
    have e1 : N = N.mul PS.one := by rw [PS.mul_comm, PS.one_mul]
    have e2 : D = D.mul PS.one := by rw [PS.mul_comm, PS.one_mul]
    have h2 : PS.one.size = 1 := PS.size_eq ⟨Or.inr (by decide), PS.C_lt 1⟩
    exact ⟨PS.one, N, D, PS.fin_one, hN, hD, PS.one_ne, e1, e2, hD0, hN0, key _ _ _ PS.fin_one hN hD PS.one_ne e1 e2 (by omega), rfl, rfl⟩
theorem rd_zero (D : PS) : rdN PS.zero D = PS.zero ∧ rdD PS.zero D = PS.one := by
  unfold rdN rdD
  rw [if_pos rfl, if_pos rfl]
  exact ⟨rfl, rfl⟩
theorem rd_spec {N D : PS} (hN : N.fin) (hD : D.fin) (hD0 : D ≠ PS.zero) (hs : D.size < 200) : RDP (rdN N D) (rdD N D) ∧ (rdN N D).mul D = N.mul (rdD N D) ∧ (rdN N D).size ≤ N.size ∧ (rdD N D).size ≤ D.size := by
  by_cases c : N = PS.zero
  · rw [c, (rd_zero D).1, (rd_zero D).2]
    refine ⟨⟨PS.fin_zero, PS.fin_one, PS.one_ne, PS.mnc_one, fun P hP _ h2 => PS.irr_one hP h2⟩, ?_, Nat.le_refl _, ?_⟩
    · rw [PS.zero_mul, PS.zero_mul]
    · have h2 : PS.one.size = 1 := PS.size_eq ⟨Or.inr (by decide), PS.C_lt 1⟩
      have := PS.fpos hD hD0
      omega
  · obtain ⟨Y, N1, D1, hY, hN1, hD1, hY0, e1, e2, hD10, hN10, hco, r1, r2⟩ := rd_shape hN hD c hD0 hs
    obtain ⟨q, hq, eq⟩ := PS.mon_form hD1 hD10
    obtain ⟨dn, hdn, zD⟩ := PS.fne_isz hD1 hD10
    have hh : finv (fi (hdI D1)) ≠ 0 := by
      rw [hdI_eq (m := dn) zD]
      have h1 := zD.1.resolve_left (by omega)
      intro e
      have := finv_mul _ h1
      rw [Nat.add_sub_cancel] at this
      rw [e] at this
      exact absurd this (by grind)
    obtain ⟨nA, hnA⟩ := hN1
    obtain ⟨nB, hnB⟩ := hD1
    have s1 := PS.size_sm hh hnA
    have s2 := PS.size_sm hq hnB
    have hN1 : N1.fin := ⟨_, hnA⟩
    have hD1 : D1.fin := ⟨_, hnB⟩
    have z1 := PS.fsize_mul hN1 hY hN10 hY0
    have z2 := PS.fsize_mul hD1 hY hD10 hY0
    have zy := PS.fpos hY hY0
    rw [r1, r2]
    refine ⟨⟨PS.fin_sm _ hN1, ?_, ?_, PS.mnc_mon hD1 hD10, fun P hP d1 d2 => ?_⟩, ?_, ?_, ?_⟩
    · rw [eq]; exact PS.fin_sm _ hD1
    · rw [eq]
      exact PS.ne_of_size (by rw [s2]; exact PS.fpos hD1 hD10)
    · refine hco P hP ?_ ?_
      · have := PS.dvd_sm (finv (finv (fi (hdI D1)))) d1
        rw [PS.sm_sm, show finv (finv (fi (hdI D1))) * finv (fi (hdI D1)) = 1 by have := finv_mul _ hh; grind, PS.sm_one] at this
        exact this
      · rw [eq] at d2
        have := PS.dvd_sm (finv q) d2
        rw [PS.sm_sm, show finv q * q = 1 by have := finv_mul _ hq; grind, PS.sm_one] at this
        exact this
    · have e3 : D1.mon = D1.sm (finv (fi (hdI D1))) := rfl
      rw [e3]
      have a1 : (N1.sm (finv (fi (hdI D1)))).mul D = N1.mul ((D1.sm (finv (fi (hdI D1)))).mul Y) := by
        rw [PS.sm_mul2]
        have : D.sm (finv (fi (hdI D1))) = (D1.sm (finv (fi (hdI D1)))).mul Y := by rw [PS.sm_mul, ← e2]
        rw [this]
      rw [a1, e1]
      exact @alg_e3 PS psRing N1 Y (D1.sm (finv (fi (hdI D1))))
    · rw [s1, e1]; omega
    · rw [eq, s2, e2]; omega
theorem RDP.dv {n1 d1 n2 d2 : PS} (h1 : RDP n1 d1) (h2 : RDP n2 d2) (e : n1.mul d2 = n2.mul d1) : d1.dvd d2 := by
  refine PS.dvd_mlt' d1.size d1 d2 h1.2.1 h2.2.1 h1.2.2.1 h2.2.2.1 (Nat.le_refl _) (fun P hP i j hi hj => ?_)
  by_cases c : i = 0
  · omega
  · have hd : P.dvd d1 := (PS.mlt_pos hP hi).mpr (by omega)
    have hn : ¬ P.dvd n1 := fun q => h1.2.2.2.2 P hP q hd
    have hn0 : n1 ≠ PS.zero := fun q => hn (by rw [q]; exact PS.dvd_zero P)
    have hn2 : n2 ≠ PS.zero := fun q => by
      rw [q, PS.zero_mul] at e
      exact PS.fmul_ne h1.1 h2.2.1 hn0 h2.2.2.1 e
    obtain ⟨a, ha, -⟩ := PS.mlt_ex hP n1.size n1 h1.1 hn0 (Nat.le_refl _)
    obtain ⟨b, hb, -⟩ := PS.mlt_ex hP n2.size n2 h2.1 hn2 (Nat.le_refl _)
    have a0 : a = 0 := Classical.byContradiction (fun q => hn ((PS.mlt_pos hP ha).mpr (by omega)))
    have q1 := PS.mlt_mul' hP ha hj
    have q2 := PS.mlt_mul' hP hb hi
    rw [e] at q1
    have := PS.mlt_un hP q1 q2
    omega
theorem RDP.un {n1 d1 n2 d2 : PS} (h1 : RDP n1 d1) (h2 : RDP n2 d2) (e : n1.mul d2 = n2.mul d1) : n1 = n2 ∧ d1 = d2 := by
  have ed := PS.eq_mnc h1.2.1 h2.2.1 h1.2.2.1 h2.2.2.1 h1.2.2.2.1 h2.2.2.2.1 (h1.dv h2 e) (h2.dv h1 e.symm)
  refine ⟨?_, ed⟩
  rw [← ed, PS.mul_comm n1, PS.mul_comm n2] at e
  exact PS.cancel h1.2.1 h1.1 h2.1 h1.2.2.1 e
theorem rd_eq {N1 D1 N2 D2 : PS} (hN1 : N1.fin) (hD1 : D1.fin) (h1 : D1 ≠ PS.zero) (s1 : D1.size < 200) (hN2 : N2.fin) (hD2 : D2.fin) (h2 : D2 ≠ PS.zero) (s2 : D2.size < 200) (e : N1.mul D2 = N2.mul D1) : rdN N1 D1 = rdN N2 D2 ∧ rdD N1 D1 = rdD N2 D2 := by
  have a := rd_spec hN1 hD1 h1 s1
  have b := rd_spec hN2 hD2 h2 s2
  refine a.1.un b.1 ?_
  exact PS.cancel (PS.fin_mul hD1 hD2) (PS.fin_mul a.1.1 b.1.2.1) (PS.fin_mul b.1.1 a.1.2.1) (PS.fmul_ne hD1 hD2 h1 h2) (@alg_e2 PS psRing _ _ _ _ N1 D1 N2 D2 a.2.1 b.2.1 e)
theorem rd_id {n d : PS} (h : RDP n d) (s : d.size < 200) : rdN n d = n ∧ rdD n d = d := by
  have a := rd_spec h.1 h.2.1 h.2.2.1 s
  exact a.1.un h a.2.1
theorem RDP.z {d : PS} (h : RDP PS.zero d) : d = PS.one := by
  have h2 : RDP PS.zero PS.one := ⟨PS.fin_zero, PS.fin_one, PS.one_ne, PS.mnc_one, fun P hP _ q => PS.irr_one hP q⟩
  exact (h.un h2 (by rw [PS.zero_mul, PS.zero_mul])).2
