/-! ===== derive: class and reference ===== -/
theorem fdr_eq (a : FP2) : frd (dfY a.1 a.2) (a.2.mul a.2) = fdr a := by
  unfold dfY fdr
  rw [PS.am0, PS.mul_comm a.1 a.2.der, show fi 100 = fi (-1) from fi_eq (by decide)]
theorem dfP_00 {i : Int} {a n : FP2} {u s : PS} (h : dfS n u s i = f00) : dfP 2 i a n u s = fdr a := by
  unfold dfP
  rw [if_pos rfl, h, ← fdr_eq]
  have e1 : ((dfY a.1 a.2).mul f00.2).am (f00.1.mul (a.2.mul a.2)) (fi 1) 0 = dfY a.1 a.2 := by
    show ((dfY a.1 a.2).mul PS.one).am (PS.zero.mul (a.2.mul a.2)) (fi 1) 0 = _
    rw [PS.zero_mul, PS.am0, PS.mul_comm, PS.one_mul]
    exact PS.ext fun k => by show dfY a.1 a.2 k + fi 1 * (0 : F) = dfY a.1 a.2 k; grind
  have e2 : (a.2.mul a.2).mul f00.2 = a.2.mul a.2 := by
    show (a.2.mul a.2).mul PS.one = _
    rw [PS.mul_comm, PS.one_mul]
  rw [e1, e2]
theorem dfS_z {n : FP2} {u s : PS} {i : Int} (h : (n.1.mul s).sm (fi (i + 1)) = PS.zero) : dfS n u s i = f00 := by
  unfold dfS
  rw [h]
  exact Prod.ext (rd_zero _).1 (rd_zero _).2
theorem VL.rd {N D : PS} (hN : N.fin) (hD : D.fin) (hD0 : D ≠ PS.zero) (hs : D.size < 200) : VL (frd N D) N D := ⟨(rd_spec hN hD hD0 hs).2.1, hN, hD, hD0⟩
theorem df_dj {b : Bd} {f i : Int} (hb : b.good) (hf : 0 ≤ f ∧ f ≤ 2) (hi : -2 ≤ i ∧ i ≤ 2) (hk : b.fit f ≠ 0) :
    dfP b.2.2.1 i (b.num (5 * f + i + 2), b.den (5 * f + i + 2)) (b.num (if i < 2 then 5 * f + i + 3 else -1), b.den (if i < 2 then 5 * f + i + 3 else -1)) b.uP b.uP.der = dj b f i := by
  have kr := hb.1.2.2.1
  have ta := hb.tm (t := 5 * f + i + 2) (by omega)
  have zu := b.uP_sz
  have h1t : i < 2 → (if i < 2 then 5 * f + i + 3 else -1) = 5 * f + i + 3 := fun q => if_pos q
  have h2t : ¬ i < 2 → (if i < 2 then 5 * f + i + 3 else -1) = -1 := fun q => if_neg q
  revert h1t h2t
  generalize (if i < 2 then 5 * f + i + 3 else -1) = t
  intro h1t h2t
  unfold dj
  rw [if_pos hi]
  by_cases k2 : b.2.2.1 = 2
  · rw [if_neg (show ¬ b.2.2.1 = 1 by omega)]
    by_cases c : 0 ≤ i ∧ i ≤ 1
    · rw [if_pos (show b.2.2.1 = 2 ∧ 0 ≤ i ∧ i ≤ 1 from ⟨k2, c⟩), h1t (by omega), k2]
      have tn := hb.tm (t := 5 * f + i + 3) (by omega)
      obtain ⟨u1, u2, u3, u4⟩ := Bd.us hb (by omega)
      have fdk := rd_spec u2 u1 u3 (by omega)
      have fm : FOK (fml (b.tm (5 * f + i + 3)) b.du) 9 8 := FOK.ml tn (Bd.du_ok hb (by omega)) (by omega) (by omega) (by omega)
      have fd : FOK (fdr (b.tm (5 * f + i + 2))) 12 10 := FOK.dr ta (by omega) (by omega) (by omega)
      have fs := dfS_ok (i := i) tn.1.1 tn.1.2.1 u1 u2 tn.2.1 tn.2.2 zu.1 zu.2 tn.1.2.2.1 u3
      have a2 := PS.mul_sz (n := 9) ta.1.2.1 ta.1.2.1 (by have := ta.2.2; omega)
      have e := frd_sum (X := dfY (b.tm (5 * f + i + 2)).1 (b.tm (5 * f + i + 2)).2) (Y := (b.tm (5 * f + i + 2)).2.mul (b.tm (5 * f + i + 2)).2) (S1 := (dfS (b.tm (5 * f + i + 3)) b.uP b.uP.der i).1) (S2 := (dfS (b.tm (5 * f + i + 3)) b.uP b.uP.der i).2) (A1 := (fdr (b.tm (5 * f + i + 2))).1) (A2 := (fdr (b.tm (5 * f + i + 2))).2) (P1 := (fml (b.tm (5 * f + i + 3)) b.du).1) (P2 := (fml (b.tm (5 * f + i + 3)) b.du).2) (c1 := fi 1) (c2 := fi (i + 1))
        (am_fin (PS.fin_mul (PS.fin_der ta.1.1) ta.1.2.1) (PS.fin_mul ta.1.1 (PS.fin_der ta.1.2.1))) (PS.fin_mul ta.1.2.1 ta.1.2.1) fs.1.1 fs.1.2.1 fd.1.1 fd.1.2.1 fm.1.1 fm.1.2.1 (PS.fmul_ne ta.1.2.1 ta.1.2.1 ta.1.2.2.1 ta.1.2.2.1) fs.1.2.2.1 fd.1.2.2.1 fm.1.2.2.1 (by have := fs.2.2; omega) (by have := fd.2.2; have := fm.2.2; omega)
        (by
          rw [← fdr_eq]
          exact (rd_spec (am_fin (PS.fin_mul (PS.fin_der ta.1.1) ta.1.2.1) (PS.fin_mul ta.1.1 (PS.fin_der ta.1.2.1))) (PS.fin_mul ta.1.2.1 ta.1.2.1) (PS.fmul_ne ta.1.2.1 ta.1.2.1 ta.1.2.2.1 ta.1.2.2.1) (by omega)).2.1.symm)
        (sl_rel (m := fi (i + 1)) tn u1 u2 u3 (by omega) (by omega) (by rw [fi_1]; grind))
      unfold dfP
      rw [if_pos rfl, PS.am0]
      exact e
    · rw [if_neg (show ¬ (b.2.2.1 = 2 ∧ 0 ≤ i ∧ i ≤ 1) from fun q => c q.2), k2]
      refine dfP_00 (dfS_z ?_)
      by_cases i2 : i = 2
      · rw [h2t (by omega), tm_neg.1]
        show (PS.zero.mul b.uP.der).sm _ = _
        rw [PS.zero_mul]; exact PS.ext fun k => by show _ * (0 : F) = 0; grind
      · rw [h1t (by omega)]
        by_cases i1 : i = -1
        · rw [i1, show (-1 : Int) + 1 = 0 from rfl, fi_0]
          exact PS.ext fun k => by show (0 : F) * _ = 0; grind
        · have z := fit_zero (i := -1) hb (by omega : 0 ≤ f ∧ f < 3) (by omega) hk (Or.inr ⟨k2, by omega⟩)
          have e : b.num (5 * f + i + 3) = PS.zero := by
            rw [show 5 * f + i + 3 = 5 * f + -1 + 2 by omega]
            exact congrArg Prod.fst z
          rw [e]
          show (PS.zero.mul b.uP.der).sm _ = _
          rw [PS.zero_mul]; exact PS.ext fun k => by show _ * (0 : F) = 0; grind
  · have fN : (dfX (b.num (5 * f + i + 2)) (b.den (5 * f + i + 2)) b.uP.der (fi i)).fin := am_fin (PS.fin_mul (am_fin (PS.fin_der ta.1.1) (PS.fin_mul (PS.fin_der ⟨_, b.uP_lt⟩) ta.1.1)) ta.1.2.1) (PS.fin_mul ta.1.1 (PS.fin_der ta.1.2.1))
    have fD := PS.fin_mul ta.1.2.1 ta.1.2.1
    have nD := PS.fmul_ne ta.1.2.1 ta.1.2.1 ta.1.2.2.1 ta.1.2.2.1
    have a2 := PS.mul_sz (n := 9) ta.1.2.1 ta.1.2.1 (by have := ta.2.2; omega)
    have ep : dfP b.2.2.1 i (b.num (5 * f + i + 2), b.den (5 * f + i + 2)) (b.num t, b.den t) b.uP b.uP.der = frd (dfX (b.num (5 * f + i + 2)) (b.den (5 * f + i + 2)) b.uP.der (fi i)) ((b.den (5 * f + i + 2)).mul (b.den (5 * f + i + 2))) := if_neg k2
    rw [ep]
    by_cases k1 : b.2.2.1 = 1
    · rw [if_pos k1]
      have fd : FOK (fdr (b.tm (5 * f + i + 2))) 12 10 := FOK.dr ta (by omega) (by omega) (by omega)
      have wk : FOK ((b.uP.der, PS.one) : FP2) 3 1 := ⟨⟨PS.fin_der ⟨_, b.uP_lt⟩, PS.fin_one, PS.one_ne, PS.mnc_one, fun P hP _ q => PS.irr_one hP q⟩, zu.2, by show PS.one.size ≤ 1; rw [PS.one_sz]; exact Nat.le_refl _⟩
      have fm : FOK (fml (b.uP.der, PS.one) (b.tm (5 * f + i + 2))) 9 5 := FOK.ml wk ta (by omega) (by omega) (by omega)
      have fp : FOK (fpl (fdr (b.tm (5 * f + i + 2))) (fml (b.uP.der, PS.one) (b.tm (5 * f + i + 2))) (fi i)) 20 20 := FOK.pl _ fd fm (by omega) (by omega) (by omega) (by omega)
      have szm : ∀ {x y : FP2} {n d n' d' : Nat}, FOK x n d → FOK y n' d' → d + d' ≤ 199 → (x.2.mul y.2).size < 200 := fun {x y n d n' d'} hx hy hz => by
        have := PS.mul_sz (n := 199) hx.1.2.1 hy.1.2.1 (by have := hx.2.2; have := hy.2.2; omega)
        omega
      have v1 : VL (fdr (b.tm (5 * f + i + 2))) (dfY (b.num (5 * f + i + 2)) (b.den (5 * f + i + 2))) ((b.den (5 * f + i + 2)).mul (b.den (5 * f + i + 2))) := by
        rw [← fdr_eq]
        exact VL.rd (am_fin (PS.fin_mul (PS.fin_der ta.1.1) ta.1.2.1) (PS.fin_mul ta.1.1 (PS.fin_der ta.1.2.1))) fD nD (by omega)
      have v2 := VL.pl (c := fi i) fd.1 fm.1 (szm fd fm (by omega)) v1 (VL.ml wk.1 ta.1 (szm wk ta (by omega)) (VL.self wk.1) (VL.self ta.1))
      have v3 := VL.rd fN fD nD (by omega)
      refine VL.un (rd_spec fN fD nD (by omega)).1 fp.1 (v3.sc ta.1.2.1 ta.1.2.2.1 rfl rfl) (v2.sc PS.fin_one PS.one_ne ?_ ?_)
      · show (dfX (b.num (5 * f + i + 2)) (b.den (5 * f + i + 2)) b.uP.der (fi i)).mul (b.den (5 * f + i + 2)) = (((dfY (b.num (5 * f + i + 2)) (b.den (5 * f + i + 2))).mul (PS.one.mul (b.den (5 * f + i + 2)))).add (((b.uP.der.mul (b.num (5 * f + i + 2))).mul ((b.den (5 * f + i + 2)).mul (b.den (5 * f + i + 2)))).sm (fi i))).mul PS.one
        unfold dfX dfY
        rw [PS.am0, PS.am0, PS.am0, sm_C, sm_C, sm_C]
        generalize (b.num (5 * f + i + 2)).der = N'
        generalize (b.den (5 * f + i + 2)).der = D'
        generalize b.num (5 * f + i + 2) = N
        generalize b.den (5 * f + i + 2) = D
        generalize b.uP.der = w
        generalize PS.C (fi i) = c
        generalize PS.C (fi 100) = e
        letI := psRing
        show ((N' + c * (w * N)) * D + e * (N * D')) * D = ((N' * D + e * (N * D')) * (1 * D) + c * ((w * N) * (D * D))) * 1
        grind
      · show ((b.den (5 * f + i + 2)).mul (b.den (5 * f + i + 2))).mul (b.den (5 * f + i + 2)) = (((b.den (5 * f + i + 2)).mul (b.den (5 * f + i + 2))).mul (PS.one.mul (b.den (5 * f + i + 2)))).mul PS.one
        rw [PS.one_mul, PS.mul_comm _ PS.one, PS.one_mul]
    · have k0 : b.2.2.1 = 0 := by omega
      rw [if_neg k1, if_neg (show ¬ (b.2.2.1 = 2 ∧ 0 ≤ i ∧ i ≤ 1) from fun q => k2 q.1), ← fdr_eq]
      have uz : b.uP = PS.zero := by
        funext n
        by_cases c : n < 4
        · have := Bd.uP_cf hb.1 (k := (n : Int)) (by omega)
          rw [hb.2.2.1 k0 n (by omega) (by omega)] at this
          exact cf_zero.mp this
        · exact b.uP_lt n (by omega)
      have e : dfX (b.num (5 * f + i + 2)) (b.den (5 * f + i + 2)) b.uP.der (fi i) = dfY (b.num (5 * f + i + 2)) (b.den (5 * f + i + 2)) := by
        unfold dfX dfY
        rw [uz, PS.der_zero, PS.zero_mul]
        congr 2
        rw [PS.am0]
        exact PS.ext fun k => by show (b.num (5 * f + i + 2)).der k + fi i * (0 : F) = _; grind
      rw [e]; rfl
theorem dj_out {b : Bd} {f s : Int} (h : ¬ (-2 ≤ s ∧ s ≤ 2)) : dj b f s = f00 := if_neg h
theorem okJ_dj {b : Bd} {f : Int} : okJ (dj b f) ↔ ∀ s : Int, -2 ≤ s → s < 3 → isT (dj b f s).1 (dj b f s).2 = 1 := by
  refine ⟨fun h s h0 h1 => (h s (by omega) (by omega)).1, fun h s h0 h1 => ?_⟩
  by_cases c : -2 ≤ s ∧ s ≤ 2
  · exact ⟨h s c.1 (by omega), fun q => absurd q (by omega)⟩
  · rw [dj_out c]; exact ⟨isT_00, fun _ => rfl⟩
