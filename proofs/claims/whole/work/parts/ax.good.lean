/-! ===== every board of a state is good, and stays so ===== -/
def HG (h : Hs) : Prop := ∀ i, i < h.1 → (h.2 i).good
def IG (im : Option (Bd × Hs)) : Prop := ∀ c k, im = some (c, k) → c.good ∧ HG k
theorem HG.push {h : Hs} {b : Bd} (hh : HG h) (hb : b.good) : HG (h.push b) := fun i hi => by
  have hi : i < min (h.1 + 1) 6 := hi
  show (if i = 0 then b else h.2 (i - 1)).good
  by_cases c : i = 0
  · rw [if_pos c]; exact hb
  · rw [if_neg c]; exact hh (i - 1) (by omega)
theorem HG.pop {h : Hs} (hh : HG h) : HG h.pop := fun i hi => by
  have hi : i < h.1 - 1 := hi
  exact hh (i + 1) (by omega)
theorem jn_rdp {b : Bd} {f act f1 f2 : Int} (hb : b.good) (hk : joinK b f act f1 f2) (s : Int) (h0 : -2 ≤ s) (h1 : s ≤ 2) : RDP (jn b act f1 f2 s).1 (jn b act f1 f2 s).2 := by
  obtain ⟨⟨j1, j2, j3, j4⟩, n3, -⟩ := hk
  have ha : act = 0 ∨ act = 1 ∨ act = 2 ∨ act = 3 := by omega
  have t1 := hb.tm (t := 5 * f1 + s + 2) (by omega)
  have t2 := hb.tm (t := 5 * f2 + s + 2) (by omega)
  rcases ha with rfl | rfl | rfl | rfl
  · rw [jn_add (fac := 1) (Or.inl ⟨rfl, rfl⟩) ⟨h0, h1⟩]
    exact (FOK.pl (k := 20) (q := 20) _ t1 t2 (by omega) (by omega) (by omega) (by omega)).1
  · rw [jn_add (fac := 100) (Or.inr ⟨rfl, rfl⟩) ⟨h0, h1⟩]
    exact (FOK.pl (k := 20) (q := 20) _ t1 t2 (by omega) (by omega) (by omega) (by omega)).1
  · rw [jn_mul]
    exact (cv_ok hb (by omega) (by omega) 5 (by omega)).1
  · rw [jn_div]
    have al := aln_rng b f2
    exact (FOK.dv (k := 20) (q := 20) (dvA_ok hb (by omega) (by omega)) (hb.tm (t := 5 * f2 + aln b f2 + 2) (by omega)) (aln_ne (Classical.byContradiction fun q => n3 ⟨rfl, q⟩)) (by omega) (by omega) (by omega)).1
theorem joinB_good {b : Bd} {h : Hs} {f act f1 f2 : Int} (hb : b.good) (hh : HG h) : (joinB b f act f1 f2).good ∧ HG (joinH b h f act f1 f2) := by
  unfold joinB joinH
  by_cases c : joinK b f act f1 f2
  · rw [if_pos c, if_pos c]
    exact ⟨kp_good hb (by have := c.1.1; omega) (jn_rdp hb c) c.2.2 5 (by omega), hh.push hb⟩
  · rw [if_neg c, if_neg c]; exact ⟨hb, hh⟩
theorem dj_rdp {b : Bd} {f : Int} (hb : b.good) (hf : 0 ≤ f ∧ f ≤ 2) (s : Int) (h0 : -2 ≤ s) (h1 : s ≤ 2) : RDP (dj b f s).1 (dj b f s).2 := by
  have t1 := hb.tm (t := 5 * f + s + 2) (by omega)
  have td := FOK.dr t1 (by omega) (by omega) (by omega)
  unfold dj
  rw [if_pos ⟨h0, h1⟩]
  by_cases c1 : b.2.2.1 = 1
  · rw [if_pos c1]
    have ou : FOK (b.uP.der, PS.one) 3 1 := ⟨⟨PS.fin_der ⟨_, b.uP_lt⟩, PS.fin_one, PS.one_ne, PS.mnc_one, fun P hP _ q => PS.irr_one hP q⟩, b.uP_sz.2, by show PS.one.size ≤ 1; rw [PS.one_sz]; exact Nat.le_refl _⟩
    exact (FOK.pl (k := 60) (q := 60) _ td (FOK.ml (k := 20) (q := 20) ou t1 (by omega) (by omega) (by omega)) (by omega) (by omega) (by omega) (by omega)).1
  · rw [if_neg c1]
    by_cases c2 : b.2.2.1 = 2 ∧ 0 ≤ s ∧ s ≤ 1
    · rw [if_pos c2]
      exact (FOK.pl (k := 60) (q := 60) _ td (FOK.ml (k := 20) (q := 20) (hb.tm (t := 5 * f + s + 3) (by omega)) (Bd.du_ok hb (by omega)) (by omega) (by omega) (by omega)) (by omega) (by omega) (by omega) (by omega)).1
    · rw [if_neg c2]; exact td.1
theorem derB_good {b : Bd} {h : Hs} {f f1 : Int} (hb : b.good) (hh : HG h) : (derB b f f1).good ∧ HG (derH b h f f1) := by
  unfold derB derH
  by_cases c : derK b f f1
  · rw [if_pos c, if_pos c]
    exact ⟨kp_good hb (by have := c.1.1; omega) (dj_rdp hb c.1.2) c.2.2 5 (by omega), hh.push hb⟩
  · rw [if_neg c, if_neg c]; exact ⟨hb, hh⟩
theorem driS_good {b : Bd} {h : Hs} {k : Int} (hb : b.good) (hh : HG h) : (driS b h k).1.good ∧ HG (driS b h k).2 := by
  unfold driS
  by_cases c : 1 ≤ k ∧ k ≤ 40
  · rw [if_pos c]
    have q : ∀ n : Nat, (drS b h n).1.good ∧ HG (drS b h n).2 := by
      intro n
      induction n with
      | zero => exact ⟨hb, hh⟩
      | succ n ih => exact ⟨drB_good ih.1, ih.2.push ih.1⟩
    exact q _
  · rw [if_neg c]; exact ⟨hb, hh⟩
theorem layB_good {b : Bd} {h : Hs} {S : Int → Sht} {f i k lane a : Int} (hb : b.good) (hh : HG h) : (layB b S f i k lane a).good ∧ HG (layH b h S f i k lane a) := by
  unfold layB layH
  by_cases c : layK S f i k lane a
  · rw [if_pos c, if_pos c]
    have n := layN_lt (S k) a
    have d := layD_lt (S k) a
    have fk := FOK.rd (n := 7) (d := 5) ⟨_, n⟩ ⟨_, d⟩ c.2.2.2 (PS.size_le n) (PS.size_le d) (by omega)
    have to := c.1.1
    unfold isTO at to
    exact ⟨Bd.sto_good hb (by omega) fk.1 (PS.lt_mono (PS.flt fk.1.1) fk.2.1) (PS.lt_mono (PS.flt fk.1.2.1) fk.2.2), hh.push hb⟩
  · rw [if_neg c, if_neg c]; exact ⟨hb, hh⟩
theorem redB_good {b : Bd} {h : Hs} {T : List Int} {f i : Int} (hT : T.length ≤ 90) (hb : b.good) (hh : HG h) : (redB b T f i).good ∧ HG (redH b h T f i) := by
  unfold redB redH
  by_cases c : isTO f i ∧ redE T = 0
  · rw [if_pos c, if_pos c]
    have c0 : (cmR T 0).1 = 0 := Classical.byContradiction fun q => (red_f hT q).2 c.2
    have rw0 := red_w hT c0
    have fk : FOK (rdM T).2 7 5 := wlC.fok rw0.1 (by rw [rw0.2.2.1]; exact c.2) _ (by rw [rw0.2.2.2 (by rw [rw0.2.2.1]; exact c.2)]; simp)
    have to := c.1
    unfold isTO at to
    exact ⟨Bd.sto_good hb (by omega) fk.1 (PS.lt_mono (PS.flt fk.1.1) fk.2.1) (PS.lt_mono (PS.flt fk.1.2.1) fk.2.2), hh.push hb⟩
  · rw [if_neg c, if_neg c]; exact ⟨hb, hh⟩
theorem mostI_rng (a b c : Int) : 0 ≤ mostI a b c := by unfold mostI; split <;> (try split) <;> (try split) <;> omega
theorem twB_good {b : Bd} {h : Hs} {q a0 a1 a2 a3 : Int} (hb : b.good) (hh : HG h) : (twB b q a0 a1 a2 a3).good ∧ HG (twH b h q a0 a1 a2 a3) := by
  unfold twB twH
  by_cases c : 0 ≤ towA b q a0 a1 a2 a3
  · rw [if_pos c, if_pos c]
    refine ⟨?_, hh.push hb⟩
    unfold towA at c
    by_cases c1 : towOK q a0 a1 a2 a3
    · rw [if1 c1] at c
      by_cases c2 : b.twr q a0 a1 a2 a3 ∨ (q ≠ 0 ∧ mostI a1 a2 a3 = 0)
      · rw [if1 c2] at c; omega
      · obtain ⟨k0, k1, k2, k3, k4, k5⟩ := c1
        refine ⟨tow_ok hb.1 k0 k1 k2 k3 k4, hb.2.1, fun e j g0 g1 => ?_, fun e z => c2 (Or.inr ⟨e, z⟩)⟩
        obtain ⟨rfl, rfl, rfl, rfl⟩ := k5 e
        show tw4 0 0 0 0 j = 0
        unfold tw4
        split <;> (try split) <;> (try split) <;> (try split) <;> rfl
    · rw [if0 c1] at c; omega
  · rw [if_neg c, if_neg c]; exact ⟨hb, hh⟩
theorem sedB_good {b : Bd} {v : Int} (hb : b.good) (hv : inR v) : (sedB b v).good := by
  unfold sedB
  by_cases c : v < 0
  · rw [if_pos c]; exact hb
  · rw [if_neg c]; exact ⟨⟨hb.1.1, hb.1.2.1, hb.1.2.2.1, by show 0 ≤ v ∧ v ≤ 2147483647; omega⟩, hb.2.1, hb.2.2.1, hb.2.2.2⟩
theorem undB_good {b : Bd} {h : Hs} (hb : b.good) (hh : HG h) : (undB b h).good ∧ HG (undH h) := by
  unfold undB undH
  by_cases c : h.1 = 0
  · rw [if_pos c, if_pos c]; exact ⟨hb, hh⟩
  · rw [if_neg c, if_neg c]; exact ⟨hh 0 (by omega), hh.pop⟩
theorem rsoB_good {b : Bd} {h : Hs} {im : Option (Bd × Hs)} (hb : b.good) (hh : HG h) (hi : IG im) : (rsoB b im).good ∧ HG (rsoH h im) := by
  cases im with
  | none => exact ⟨hb, hh⟩
  | some p => exact hi p.1 p.2 rfl
theorem bd0_good : bd0.good := ⟨bd0_ok, fun t h0 h1 => by rw [bd0_num ⟨h0, h1⟩, bd0_den ⟨h0, h1⟩]; exact FOK.zero.1, fun _ j _ _ => rfl, fun e => absurd rfl e⟩
