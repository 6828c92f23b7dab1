/-! ===== what integrating splits ===== -/
noncomputable def sp2 (a : FP2) (W : PS) : FP2 × FP2 := (frd (spQ a.1 a.2 W) a.2.thn, frd (spR a.1 a.2 W) (a.2.dv a.2.thn))
/-- the step at a term; q is what the term above gave -/
noncomputable def igS (b : Bd) (J : Int → FP2) (i : Int) (q : FP2) : FP2 × FP2 :=
  if b.2.2.1 = 1 then sp2 (J i) (b.uP.der.sm (fi i))
  else if i = 0 ∨ (b.2.2.1 = 2 ∧ 0 < i) then sp2 (if b.2.2.1 = 2 then fpl (J i) (fml q b.du) (fi (-(i + 1))) else J i) PS.zero
  else (f00, f00)
noncomputable def igN (b : Bd) (J : Int → FP2) : Nat → FP2 × FP2
  | 0 => (f00, f00)
  | n + 1 => igS b J (2 - (n : Int)) (igN b J n).1
noncomputable def igQ (b : Bd) (J : Int → FP2) (i : Int) : FP2 := (igN b J (3 - i).toNat).1
noncomputable def igR (b : Bd) (J : Int → FP2) (i : Int) : FP2 := (igN b J (3 - i).toNat).2
/-- degree above less degree below -/
def ORD (a : FP2) (g : Int) : Prop := a.1 = PS.zero ∨ (a.1.size : Int) ≤ a.2.size + g
theorem ORD.mono {a : FP2} {g g' : Int} (h : ORD a g) (hg : g ≤ g') : ORD a g' := h.elim Or.inl (fun q => Or.inr (by omega))
theorem rd_ord {N D : PS} {g : Int} (hN : N.fin) (hD : D.fin) (hD0 : D ≠ PS.zero) (hs : D.size < 200) (h : N = PS.zero ∨ (N.size : Int) ≤ D.size + g) : ORD (frd N D) g := by
  have a := rd_spec hN hD hD0 hs
  by_cases c : rdN N D = PS.zero
  · exact Or.inl c
  · right
    have hN0 : N ≠ PS.zero := fun q => c (by rw [q]; exact (rd_zero D).1)
    have h1 := PS.fsize_mul a.1.1 hD c hD0
    have h2 := PS.fsize_mul hN a.1.2.1 hN0 a.1.2.2.1
    rw [a.2.1] at h1
    have h3 := h.resolve_left hN0
    show ((rdN N D).size : Int) ≤ (rdD N D).size + g
    omega
theorem ORD.ml {a b : FP2} {n d m e : Nat} {g g' : Int} (ha : FOK a n d) (hb : FOK b m e) (h1 : ORD a g) (h2 : ORD b g') (hs : d + e ≤ 200) : ORD (fml a b) (g + g') := by
  refine rd_ord (PS.fin_mul ha.1.1 hb.1.1) (PS.fin_mul ha.1.2.1 hb.1.2.1) (PS.fmul_ne ha.1.2.1 hb.1.2.1 ha.1.2.2.1 hb.1.2.2.1) ?_ ?_
  · have := PS.fsize_mul ha.1.2.1 hb.1.2.1 ha.1.2.2.1 hb.1.2.2.1
    have := ha.2.2
    have := hb.2.2
    omega
  · by_cases c1 : a.1 = PS.zero
    · left; rw [c1, PS.zero_mul]
    · by_cases c2 : b.1 = PS.zero
      · left; rw [c2, PS.mul_comm, PS.zero_mul]
      · right
        have q1 := PS.fsize_mul ha.1.1 hb.1.1 c1 c2
        have q2 := PS.fsize_mul ha.1.2.1 hb.1.2.1 ha.1.2.2.1 hb.1.2.2.1
        have q3 := h1.resolve_left c1
        have q4 := h2.resolve_left c2
        omega
theorem ORD.pl {a b : FP2} {n d m e : Nat} {g : Int} (c : F) (ha : FOK a n d) (hb : FOK b m e) (h1 : ORD a g) (h2 : ORD b g) (hs : d + e ≤ 200) : ORD (fpl a b c) g := by
  have q2 := PS.fsize_mul ha.1.2.1 hb.1.2.1 ha.1.2.2.1 hb.1.2.2.1
  have z1 := ha.2.2
  have z2 := hb.2.2
  refine rd_ord (PS.fin_add (PS.fin_mul ha.1.1 hb.1.2.1) (PS.fin_sm _ (PS.fin_mul hb.1.1 ha.1.2.1))) (PS.fin_mul ha.1.2.1 hb.1.2.1) (PS.fmul_ne ha.1.2.1 hb.1.2.1 ha.1.2.2.1 hb.1.2.2.1) (by omega) ?_
  have l1 : (a.1.mul b.2).lt ((a.2.mul b.2).size + g).toNat := by
    by_cases c1 : a.1 = PS.zero
    · rw [c1, PS.zero_mul]; exact PS.zero_lt _
    · have q3 := h1.resolve_left c1
      have q1 := PS.fsize_mul ha.1.1 hb.1.2.1 c1 hb.1.2.2.1
      exact PS.lt_mono (PS.flt (PS.fin_mul ha.1.1 hb.1.2.1)) (by omega)
  have l2 : ((b.1.mul a.2).sm c).lt ((a.2.mul b.2).size + g).toNat := by
    refine PS.lt_sm _ ?_
    by_cases c1 : b.1 = PS.zero
    · rw [c1, PS.zero_mul]; exact PS.zero_lt _
    · have q3 := h2.resolve_left c1
      have q1 := PS.fsize_mul hb.1.1 ha.1.2.1 c1 ha.1.2.2.1
      exact PS.lt_mono (PS.flt (PS.fin_mul hb.1.1 ha.1.2.1)) (by omega)
  have l3 := PS.size_le (PS.lt_add l1 l2)
  by_cases c0 : (a.1.mul b.2).add ((b.1.mul a.2).sm c) = PS.zero
  · exact Or.inl c0
  · right
    have := PS.fpos (PS.fin_add (PS.fin_mul ha.1.1 hb.1.2.1) (PS.fin_sm c (PS.fin_mul hb.1.1 ha.1.2.1))) c0
    omega
theorem thn_small {D : PS} (hD : D.fin) (hD0 : D ≠ PS.zero) (hs : D.size ≤ 90) : D.thn.size ≤ max 1 (D.size - 1) := by
  obtain ⟨e, hM, hM0, hsz⟩ := thn_dv hD hD0 (by omega)
  have p := PS.fpos hM hM0
  by_cases c : (D.dv D.thn).size = 1
  · -- nothing is left: D divides its slope
    obtain ⟨h1, h2, h3, h4⟩ := PS.thn_spec hD hD0 (by omega)
    by_cases c1 : D.size ≤ 1
    · omega
    · exfalso
      have hg := PS.gcd_spec hD (PS.fin_der hD) hD0 (by have := PS.der_size hD; omega)
      obtain ⟨n, en, zn⟩ := PS.fne_isz hD hD0
      have zd := PS.der_isz (n := n - 1) (P := D) (by rw [show n - 1 + 2 = n + 1 by omega]; exact zn) (by omega)
      have hd0 : D.der ≠ PS.zero := PS.ne_of_size (by rw [PS.size_eq zd]; omega)
      have := (PS.dvd_size hg.1 hg.2.2.2.1 hd0).1
      have q := PS.size_eq zd
      have t : D.thn.size = (D.gcd D.der).size := rfl
      omega
  · omega
/-- fit to be split -/
def SplOK (a : FP2) (n d : Nat) : Prop := FOK a n d ∧ ORD a 6
theorem gd_of {a : FP2} {n d : Nat} {W : PS} (h : SplOK a n d) (hW : W.size ≤ 4) : gdI a.1 a.2 W ≤ 12 := by
  unfold gdI
  rcases h.2 with q | q
  · rw [q, PS.zero_sz]; omega
  · omega
theorem sp2_ok {a : FP2} {n d : Nat} {W : PS} (h : SplOK a n d) (hW : W.fin) (hWs : W.size ≤ 4) (hn : n ≤ 40) (hd : d ≤ 39) : FOK (sp2 a W).1 (max d (n + 1)) (max 1 (d - 1)) ∧ ORD (sp2 a W).1 7 ∧ FOK (sp2 a W).2 (d + 4) d := by
  obtain ⟨⟨hr, h1, h2⟩, h3⟩ := h
  have hg := gd_of (a := a) (n := n) (d := d) (W := W) ⟨⟨hr, h1, h2⟩, h3⟩ hWs
  obtain ⟨Q, R, hsp⟩ := SPL_ex hr.1 hr.2.1 hr.2.2.1 (by omega) hr.2.2.2.1 hW (by omega)
  have heq := SPL.eq hr.1 hr.2.1 hr.2.2.1 (by omega) (by omega) hW hsp
  obtain ⟨tE, tE0, tEd, tEs⟩ := PS.thn_spec hr.2.1 hr.2.2.1 (by omega)
  obtain ⟨eDM, tM, tM0, tMs⟩ := thn_dv hr.2.1 hr.2.2.1 (by omega)
  have ts := thn_small hr.2.1 hr.2.2.1 (by omega)
  have pE := PS.fpos tE tE0
  have pM := PS.fpos tM tM0
  obtain ⟨A, H, B, Y, a1, a2, a3, a4, a5, a6, a7, a8, a9⟩ := hsp
  have hH : H = PS.zero ∨ (H.size + a.2.size ≤ a.1.size + 2) := by
    by_cases c : W = PS.zero
    · exact (a7 c).2.2
    · rcases (a8 c).2 with z | z
      · exact Or.inl z
      · exact Or.inr (by omega)
  have hY : Y.lt 3 := by
    by_cases c : W = PS.zero
    · rw [(a7 c).1]; exact PS.zero_lt _
    · exact PS.lt_mono (a8 c).1 (by omega)
  have hQf : Q.fin := by rw [a5]; exact PS.fin_add ⟨_, a1⟩ (PS.fin_mul a3 tE)
  have hRf : R.fin := by rw [a6]; exact PS.fin_add ⟨_, a2⟩ (PS.fin_mul a4 tM)
  have hHl : (H.mul a.2.thn).lt (max d (n + 1)) := by
    rcases hH with z | z
    · rw [z, PS.zero_mul]; exact PS.zero_lt _
    · exact PS.lt_mul' (PS.flt a3) (PS.flt tE) (by omega)
  have hQs : Q.size ≤ max d (n + 1) := by
    rw [a5]
    exact PS.size_le (PS.lt_add (PS.lt_mono a1 (by omega)) hHl)
  have hRs : R.size ≤ d + 4 := by
    rw [a6]
    exact PS.size_le (PS.lt_add (PS.lt_mono a2 (by omega)) (PS.lt_mul' hY (PS.flt tM) (by omega)))
  refine ⟨?_, ?_, ?_⟩
  · show FOK (frd (spQ a.1 a.2 W) a.2.thn) _ _
    rw [heq.1]
    exact FOK.rd hQf tE tE0 hQs (by omega) (by omega)
  · show ORD (frd (spQ a.1 a.2 W) a.2.thn) 7
    rw [heq.1]
    refine rd_ord hQf tE tE0 (by omega) ?_
    by_cases c0 : Q = PS.zero
    · exact Or.inl c0
    · right
      by_cases c1 : H = PS.zero
      · rw [a5, c1, PS.zero_mul, PS.add_zero]
        have := PS.size_le a1
        omega
      · have hz := hH.resolve_left c1
        have hs1 : (H.mul a.2.thn).lt (a.2.thn.size + 7) := by
          rcases h3 with q | q
          · have : a.1.size = 0 := by rw [q, PS.zero_sz]
            exact PS.lt_mul' (PS.flt a3) (PS.flt tE) (by omega)
          · exact PS.lt_mul' (PS.flt a3) (PS.flt tE) (by omega)
        have := PS.size_le (PS.lt_add (PS.lt_mono a1 (show a.2.thn.size - 1 ≤ a.2.thn.size + 7 by omega)) hs1)
        rw [a5]
        omega
  · show FOK (frd (spR a.1 a.2 W) (a.2.dv a.2.thn)) _ _
    rw [heq.2]
    exact FOK.rd hRf tM tM0 hRs (by omega) (by omega)
theorem Bd.du_ord {b : Bd} (h : b.good) (hk : b.2.2.1 ≠ 0) : ORD b.du (-1) := by
  refine rd_ord (PS.fin_der ⟨_, b.uP_lt⟩) ⟨_, b.uP_lt⟩ (Bd.uP_ne h hk).1 (by have := b.uP_sz.1; omega) ?_
  right
  have := PS.der_size ⟨_, b.uP_lt⟩
  have := (Bd.uP_ne h hk).2
  omega
/-- the terms are fit to be integrated -/
def JOK (J : Int → FP2) : Prop := ∀ i : Int, -2 ≤ i → i ≤ 2 → SplOK (J i) 11 9
theorem SplOK.zero : SplOK f00 0 1 := ⟨FOK.zero, Or.inl rfl⟩
/-- what is split at a term -/
noncomputable def igT (b : Bd) (J : Int → FP2) (n : Nat) : FP2 := if b.2.2.1 = 2 then fpl (J (2 - (n : Int))) (fml (igN b J n).1 b.du) (fi (-(2 - (n : Int) + 1))) else J (2 - (n : Int))
theorem ig_log {b : Bd} {J : Int → FP2} (hb : b.good) (hJ : JOK J) (hk : b.2.2.1 = 2) : (FOK (igN b J 0).1 0 1 ∧ ORD (igN b J 0).1 7) ∧ SplOK (igT b J 0) 12 9 ∧ (FOK (igN b J 1).1 13 8 ∧ ORD (igN b J 1).1 7) ∧ SplOK (igT b J 1) 23 19 ∧ (FOK (igN b J 2).1 24 18 ∧ ORD (igN b J 2).1 7) ∧ SplOK (igT b J 2) 34 29 ∧ (FOK (igN b J 3).1 35 28 ∧ ORD (igN b J 3).1 7) := by
  have du := Bd.du_ok hb (by omega)
  have dd := Bd.du_ord hb (by omega)
  have zw : PS.zero.size ≤ 4 := by rw [PS.zero_sz]; omega
  have q0 : FOK (igN b J 0).1 0 1 ∧ ORD (igN b J 0).1 7 := ⟨FOK.zero, Or.inl rfl⟩
  have tt : ∀ n : Nat, n ≤ 2 → ∀ p d : Nat, FOK (igN b J n).1 p d → ORD (igN b J n).1 7 → 11 + (d + 3) - 1 ≤ 40 → ∀ n' d', 11 + (d + 3) ≤ n' + 1 → (p + 2) + 9 ≤ n' + 1 → 9 + (d + 3) ≤ d' + 1 → d' < 200 → SplOK (igT b J n) n' d' := by
    intro n hn p d f1 f2 hx n' d' g1 g2 g3 g4
    have j := hJ (2 - (n : Int)) (by omega) (by omega)
    have v := f1.ml du (k := p + 2) (q := d + 3) (by omega) (by omega) (by omega)
    have vo := ORD.ml f1 du f2 dd (by omega)
    unfold igT
    rw [if_pos hk]
    exact ⟨FOK.pl _ j.1 v (by omega) (by omega) (by omega) g4, ORD.pl _ j.1 v j.2 (vo.mono (by omega)) (by omega)⟩
  have st : ∀ n : Nat, n ≤ 2 → igN b J (n + 1) = sp2 (igT b J n) PS.zero := by
    intro n hn
    show igS b J (2 - (n : Int)) (igN b J n).1 = _
    unfold igS igT
    rw [if_neg (by omega), if_pos (by omega), if_pos hk]
  -- nothing stands above the first: no more than the term itself
  have e0 : fml f00 b.du = f00 := by
    unfold fml frd
    have : f00.1.mul b.du.1 = PS.zero := PS.zero_mul _
    rw [this, (rd_zero _).1, (rd_zero _).2]
    rfl
  have t00 : SplOK (igT b J 0) 12 9 := by
    have j := hJ 2 (by omega) (by omega)
    unfold igT
    rw [if_pos hk]
    show SplOK (fpl (J 2) (fml f00 b.du) _) 12 9
    rw [e0]
    exact ⟨FOK.pl _ j.1 FOK.zero (by omega) (by omega) (by omega) (by omega), ORD.pl _ j.1 FOK.zero j.2 (Or.inl rfl) (by omega)⟩
  have s1 := sp2_ok t00 PS.fin_zero zw (by omega) (by omega)
  rw [← st 0 (by omega)] at s1
  have q1 : FOK (igN b J 1).1 13 8 ∧ ORD (igN b J 1).1 7 := ⟨s1.1.mono (by omega) (by omega), s1.2.1⟩
  have t1 := tt 1 (by omega) 13 8 q1.1 q1.2 (by omega) 23 19 (by omega) (by omega) (by omega) (by omega)
  have s2 := sp2_ok t1 PS.fin_zero zw (by omega) (by omega)
  rw [← st 1 (by omega)] at s2
  have q2 : FOK (igN b J 2).1 24 18 ∧ ORD (igN b J 2).1 7 := ⟨s2.1.mono (by omega) (by omega), s2.2.1⟩
  have t2 := tt 2 (by omega) 24 18 q2.1 q2.2 (by omega) 34 29 (by omega) (by omega) (by omega) (by omega)
  have s3 := sp2_ok t2 PS.fin_zero zw (by omega) (by omega)
  rw [← st 2 (by omega)] at s3
  exact ⟨q0, t00, q1, t1, q2, t2, ⟨s3.1.mono (by omega) (by omega), s3.2.1⟩⟩
