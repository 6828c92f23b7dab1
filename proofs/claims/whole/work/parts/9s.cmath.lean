/-! ===== mathematics of compute and derive ===== -/
theorem alg_s1 {α : Type} [Lean.Grind.CommRing α] (S1 S2 P1 P2 q1 q2 s u d1 d2 m c1 c2 : α) (h1 : S1 * (q2 * u) = (m * (q1 * s)) * S2) (h2 : P1 * (q2 * d2) = (q1 * d1) * P2) (h3 : d1 * u = s * d2) (h4 : c1 * m = c2) : (q2 * u * d2) * (c1 * (S1 * P2)) = (q2 * u * d2) * (c2 * (P1 * S2)) := by
  have e1 : (q2 * u * d2) * (c1 * (S1 * P2)) = c1 * d2 * P2 * (S1 * (q2 * u)) := by grind
  have e2 : (q2 * u * d2) * (c2 * (P1 * S2)) = c2 * u * S2 * (P1 * (q2 * d2)) := by grind
  have e3 : c2 * u * S2 * ((q1 * d1) * P2) = c2 * S2 * q1 * P2 * (d1 * u) := by grind
  rw [e1, e2, h1, h2, e3, h3, ← h4]
  grind
theorem alg_s2 {α : Type} [Lean.Grind.CommRing α] (X Y S1 S2 A1 A2 P1 P2 c1 c2 : α) (hA : X * A2 = A1 * Y) (hS : c1 * (S1 * P2) = c2 * (P1 * S2)) : (X * S2 + c1 * (S1 * Y)) * (A2 * P2) = (A1 * P2 + c2 * (P1 * A2)) * (Y * S2) := by
  have e1 : (X * S2 + c1 * (S1 * Y)) * (A2 * P2) = (X * A2) * (S2 * P2) + c1 * (S1 * P2) * (Y * A2) := by grind
  have e2 : (A1 * P2 + c2 * (P1 * A2)) * (Y * S2) = (A1 * Y) * (S2 * P2) + c2 * (P1 * S2) * (Y * A2) := by grind
  rw [e1, e2, hA, hS]
theorem sm_C (c : F) (p : PS) : p.sm c = (PS.C c).mul p := (PS.C_mul c p).symm
theorem frd_sum {X Y S1 S2 A1 A2 P1 P2 : PS} {c1 c2 : F} (fX : X.fin) (fY : Y.fin) (fS1 : S1.fin) (fS2 : S2.fin) (fA1 : A1.fin) (fA2 : A2.fin) (fP1 : P1.fin) (fP2 : P2.fin) (nY : Y ≠ PS.zero) (nS : S2 ≠ PS.zero) (nA : A2 ≠ PS.zero) (nP : P2 ≠ PS.zero) (z1 : Y.size + S2.size ≤ 200) (z2 : A2.size + P2.size ≤ 200) (hA : X.mul A2 = A1.mul Y) (hS : (S1.mul P2).sm c1 = (P1.mul S2).sm c2) :
    frd ((X.mul S2).add ((S1.mul Y).sm c1)) (Y.mul S2) = frd ((A1.mul P2).add ((P1.mul A2).sm c2)) (A2.mul P2) := by
  have y1 := PS.mul_sz (n := 199) fY fS2 (by omega)
  have y2 := PS.mul_sz (n := 199) fA2 fP2 (by omega)
  have e := rd_eq (N1 := (X.mul S2).add ((S1.mul Y).sm c1)) (D1 := Y.mul S2) (N2 := (A1.mul P2).add ((P1.mul A2).sm c2)) (D2 := A2.mul P2) (PS.fin_add (PS.fin_mul fX fS2) (PS.fin_sm _ (PS.fin_mul fS1 fY))) (PS.fin_mul fY fS2) (PS.fmul_ne fY fS2 nY nS) (by omega) (PS.fin_add (PS.fin_mul fA1 fP2) (PS.fin_sm _ (PS.fin_mul fP1 fA2))) (PS.fin_mul fA2 fP2) (PS.fmul_ne fA2 fP2 nA nP) (by omega) (by
    rw [sm_C, sm_C] at hS
    rw [sm_C, sm_C]
    exact @alg_s2 PS psRing X Y S1 S2 A1 A2 P1 P2 (PS.C c1) (PS.C c2) hA hS)
  exact Prod.ext e.1 e.2
theorem C_C (a b : F) : (PS.C a).mul (PS.C b) = PS.C (a * b) := by
  rw [PS.C_mul]
  funext n
  show a * (if n = 0 then b else 0) = if n = 0 then a * b else 0
  split
  · rfl
  · grind
theorem sl_rel {q : FP2} {u s : PS} {n d : Nat} {m c1 c2 : F} (hq : FOK q n d) (hu : u.fin) (hs : s.fin) (hu0 : u ≠ PS.zero) (zu : u.size < 100) (zd : d < 90) (h4 : c1 * m = c2) :
    ((frd ((q.1.mul s).sm m) (q.2.mul u)).1.mul (fml q (frd s u)).2).sm c1 = ((fml q (frd s u)).1.mul (frd ((q.1.mul s).sm m) (q.2.mul u)).2).sm c2 := by
  have fd := rd_spec hs hu hu0 (by omega)
  have f1 := hq.1.1
  have f2 := hq.1.2.1
  have n2 := hq.1.2.2.1
  have zq := hq.2.2
  have zm := PS.mul_sz (n := 190) f2 hu (by omega)
  have zm2 := PS.mul_sz (n := 190) f2 fd.1.2.1 (by omega)
  have fS := rd_spec (PS.fin_sm m (PS.fin_mul f1 hs)) (PS.fin_mul f2 hu) (PS.fmul_ne f2 hu n2 hu0) (by omega)
  have fP := rd_spec (PS.fin_mul f1 fd.1.1) (PS.fin_mul f2 fd.1.2.1) (PS.fmul_ne f2 fd.1.2.1 n2 fd.1.2.2.1) (by omega)
  refine PS.cancel (a := (q.2.mul u).mul (rdD s u)) (PS.fin_mul (PS.fin_mul f2 hu) fd.1.2.1) (PS.fin_sm _ (PS.fin_mul fS.1.1 fP.1.2.1)) (PS.fin_sm _ (PS.fin_mul fP.1.1 fS.1.2.1)) (PS.fmul_ne (PS.fin_mul f2 hu) fd.1.2.1 (PS.fmul_ne f2 hu n2 hu0) fd.1.2.2.1) ?_
  rw [sm_C c1, sm_C c2]
  have e1 := fS.2.1
  rw [sm_C] at e1
  rw [sm_C m]
  exact @alg_s1 PS psRing _ _ _ _ q.1 q.2 s u (rdN s u) (rdD s u) (PS.C m) (PS.C c1) (PS.C c2) e1 fP.2.1 fd.2.1 (by rw [← h4]; exact C_C c1 m)
/-- a sum with a multiple of u' / u, as the class computes it and as the reference does -/
theorem sum_same {a q : FP2} {u s : PS} {n d n' d' : Nat} {m c1 c2 : F} (ha : FOK a n' d') (hq : FOK q n d) (hu : u.fin) (hs : s.fin) (hu0 : u ≠ PS.zero) (zu : u.size < 20) (zd : d < 40) (zd' : d' < 40) (h4 : c1 * m = c2) :
    fpl a (frd ((q.1.mul s).sm m) (q.2.mul u)) c1 = fpl a (fml q (frd s u)) c2 := by
  have fd := rd_spec hs hu hu0 (by omega)
  have zq := hq.2.2
  have za := ha.2.2
  have zm := PS.mul_sz (n := 90) hq.1.2.1 hu (by omega)
  have zm2 := PS.mul_sz (n := 90) hq.1.2.1 fd.1.2.1 (by omega)
  have fS := rd_spec (PS.fin_sm m (PS.fin_mul hq.1.1 hs)) (PS.fin_mul hq.1.2.1 hu) (PS.fmul_ne hq.1.2.1 hu hq.1.2.2.1 hu0) (by omega)
  have fP := rd_spec (PS.fin_mul hq.1.1 fd.1.1) (PS.fin_mul hq.1.2.1 fd.1.2.1) (PS.fmul_ne hq.1.2.1 fd.1.2.1 hq.1.2.2.1 fd.1.2.2.1) (by omega)
  exact frd_sum ha.1.1 ha.1.2.1 fS.1.1 fS.1.2.1 ha.1.1 ha.1.2.1 fP.1.1 fP.1.2.1 ha.1.2.2.1 fS.1.2.2.1 ha.1.2.2.1 fP.1.2.2.1 (Nat.le_trans (Nat.add_le_add za fS.2.2.2) (by omega)) (Nat.le_trans (Nat.add_le_add za fP.2.2.2) (by omega)) rfl (sl_rel hq hu hs hu0 (by omega) (by omega) h4)
theorem SPL_zero {D W : PS} (hD : D.fin) (hD0 : D ≠ PS.zero) (hs : D.size ≤ 90) (hW : W.fin) : spQ PS.zero D W = PS.zero ∧ spR PS.zero D W = PS.zero := by
  refine SPL.eq PS.fin_zero hD hD0 hs (by rw [PS.zero_sz]; omega) hW ⟨PS.zero, PS.zero, PS.zero, PS.zero, PS.zero_lt _, PS.zero_lt _, PS.fin_zero, PS.fin_zero, by rw [PS.zero_mul, PS.add_zero], by rw [PS.zero_mul, PS.add_zero], fun _ => ⟨rfl, rfl, Or.inl rfl⟩, fun _ => ⟨PS.zero_lt _, Or.inl rfl⟩, ?_⟩
  unfold SI
  rw [PS.der_zero]
  simp only [PS.zero_mul, PS.mul_zero, PS.add_zero]
  have e : PS.zero.sub PS.zero = PS.zero := PS.ext fun n => by show (0 : F) - 0 = 0; decide
  rw [e, PS.mul_zero]
theorem sp2_zero {W : PS} (hW : W.fin) : sp2 f00 W = (f00, f00) := by
  have q := SPL_zero (D := PS.one) PS.fin_one PS.one_ne (by rw [PS.one_sz]; omega) hW
  unfold sp2 f00 frd
  dsimp only
  rw [q.1, q.2, (rd_zero _).1, (rd_zero _).2, (rd_zero _).1, (rd_zero _).2]
theorem fl_bits (b : Bd) (f : Int) (hk : b.fit f ≠ 0) : (b.2.2.1 = 0 → b.num (5 * f + 0) = PS.zero ∧ b.num (5 * f + 1) = PS.zero ∧ b.num (5 * f + 3) = PS.zero ∧ b.num (5 * f + 4) = PS.zero) ∧ (b.2.2.1 = 2 → b.num (5 * f + 0) = PS.zero ∧ b.num (5 * f + 1) = PS.zero) := by
  have e : b.fl f 5 = (if bz (b.num (5 * f + 0) = PS.zero) = 1 then 0 else 1) + (if bz (b.num (5 * f + 1) = PS.zero) = 1 then 0 else 2) + (if bz (b.num (5 * f + 2) = PS.zero) = 1 then 0 else 4) + (if bz (b.num (5 * f + 3) = PS.zero) = 1 then 0 else 8) + (if bz (b.num (5 * f + 4) = PS.zero) = 1 then 0 else 16) := by
    simp only [Bd.fl]
    rw [show f * 5 = 5 * f by omega, Int.zero_add]
    rfl
  have g : ∀ P : Prop, ∀ z : Int, (P ∧ (if bz P = 1 then 0 else z) = 0) ∨ (¬ P ∧ (if bz P = 1 then 0 else z) = z) := fun P z => by
    by_cases c : P
    · exact Or.inl ⟨c, if1 c⟩
    · exact Or.inr ⟨c, if0 c⟩
  have g0 := g (b.num (5 * f + 0) = PS.zero) 1
  have g1 := g (b.num (5 * f + 1) = PS.zero) 2
  have g2 := g (b.num (5 * f + 2) = PS.zero) 4
  have g3 := g (b.num (5 * f + 3) = PS.zero) 8
  have g4 := g (b.num (5 * f + 4) = PS.zero) 16
  revert e g0 g1 g2 g3 g4
  generalize (if bz (b.num (5 * f + 0) = PS.zero) = 1 then (0 : Int) else 1) = x0
  generalize (if bz (b.num (5 * f + 1) = PS.zero) = 1 then (0 : Int) else 2) = x1
  generalize (if bz (b.num (5 * f + 2) = PS.zero) = 1 then (0 : Int) else 4) = x2
  generalize (if bz (b.num (5 * f + 3) = PS.zero) = 1 then (0 : Int) else 8) = x3
  generalize (if bz (b.num (5 * f + 4) = PS.zero) = 1 then (0 : Int) else 16) = x4
  intro e g0 g1 g2 g3 g4
  have g2' : x2 = 0 ∨ x2 = 4 := g2.elim (fun q => Or.inl q.2) (fun q => Or.inr q.2)
  unfold Bd.fit at hk
  constructor
  · intro k0
    rw [if_pos k0] at hk
    have h := bzt hk
    rw [e] at h
    refine ⟨?_, ?_, ?_, ?_⟩
    · rcases g0 with q | q
      · exact q.1
      · rcases g1 with r | r <;> rcases g3 with t | t <;> rcases g4 with v | v <;> omega
    · rcases g1 with q | q
      · exact q.1
      · rcases g0 with r | r <;> rcases g3 with t | t <;> rcases g4 with v | v <;> omega
    · rcases g3 with q | q
      · exact q.1
      · rcases g0 with r | r <;> rcases g1 with t | t <;> rcases g4 with v | v <;> omega
    · rcases g4 with q | q
      · exact q.1
      · rcases g0 with r | r <;> rcases g1 with t | t <;> rcases g3 with v | v <;> omega
  · intro k2
    rw [if_neg (by omega)] at hk
    have h : b.fl f 5 % 4 = 0 := (bzt hk).resolve_left (fun q => q k2)
    rw [e] at h
    constructor
    · rcases g0 with q | q
      · exact q.1
      · rcases g1 with r | r <;> rcases g3 with t | t <;> rcases g4 with v | v <;> omega
    · rcases g1 with q | q
      · exact q.1
      · rcases g0 with r | r <;> rcases g3 with t | t <;> rcases g4 with v | v <;> omega
theorem fit_zero {b : Bd} {f i : Int} (hb : b.good) (hf : 0 ≤ f ∧ f < 3) (hi : -2 ≤ i ∧ i ≤ 2) (hk : b.fit f ≠ 0) (h : (b.2.2.1 = 0 ∧ i ≠ 0) ∨ (b.2.2.1 = 2 ∧ i < 0)) : b.tm (5 * f + i + 2) = f00 := by
  have q := fl_bits b f hk
  have n0 : b.num (5 * f + i + 2) = PS.zero := by
    rcases h with ⟨k, c⟩ | ⟨k, c⟩
    · have r := q.1 k
      have : i = -2 ∨ i = -1 ∨ i = 1 ∨ i = 2 := by omega
      rcases this with rfl | rfl | rfl | rfl
      · rw [show 5 * f + -2 + 2 = 5 * f + 0 by omega]; exact r.1
      · rw [show 5 * f + -1 + 2 = 5 * f + 1 by omega]; exact r.2.1
      · rw [show 5 * f + 1 + 2 = 5 * f + 3 by omega]; exact r.2.2.1
      · rw [show 5 * f + 2 + 2 = 5 * f + 4 by omega]; exact r.2.2.2
    · have r := q.2 k
      have : i = -2 ∨ i = -1 := by omega
      rcases this with rfl | rfl
      · rw [show 5 * f + -2 + 2 = 5 * f + 0 by omega]; exact r.1
      · rw [show 5 * f + -1 + 2 = 5 * f + 1 by omega]; exact r.2
  have r := hb.2.1 (5 * f + i + 2) (by omega) (by omega)
  unfold Bd.tm f00
  rw [n0] at r ⊢
  rw [r.z]
