/-! ===== residues: class and reference ===== -/
theorem sp2_sqf {a : FP2} {n d : Nat} {W : PS} (h : SplOK a n d) (hn : n ≤ 40) (hd : d ≤ 39) (hW : W.fin) (hWs : W.size ≤ 4) : ∀ P : PS, P.irr → P.dvd (sp2 a W).2.2 → ¬ P.dvd (sp2 a W).2.2.der := by
  intro P hP hd1 hd2
  have z := h.1.2.2
  obtain ⟨fN, fD, D0, -, -⟩ := h.1.1
  obtain ⟨e, m1, m2, m3⟩ := thn_dv fD D0 (by omega)
  have sp := sp2_spl h (by omega) (by omega) hW hWs
  have fR := (sp.fins fD D0 (by omega)).2
  have pE := PS.fpos (PS.thn_spec fD D0 (by omega)).1 (PS.thn_spec fD D0 (by omega)).2.1
  obtain ⟨K, fK, K0, eN, eM⟩ := rd_fac fR m1 m2 (by omega)
  have rs := rd_spec fR m1 m2 (by omega)
  have sK : a.2.dv a.2.thn = (sp2 a W).2.2.mul K := eM
  have fs : (sp2 a W).2.2.fin := rs.1.2.1
  have s0 : (sp2 a W).2.2 ≠ PS.zero := rs.1.2.2.1
  have zs : (sp2 a W).2.2.size ≤ (a.2.dv a.2.thn).size := rs.2.2.2
  obtain ⟨k, hk, -⟩ := PS.mlt_ex hP _ a.2 fD D0 (Nat.le_refl _)
  obtain ⟨i, hi, -⟩ := PS.mlt_ex hP _ (a.2.dv a.2.thn) m1 m2 (Nat.le_refl _)
  obtain ⟨j, hj, -⟩ := PS.mlt_ex hP _ (sp2 a W).2.2 fs s0 (Nat.le_refl _)
  obtain ⟨q, hq, -⟩ := PS.mlt_ex hP _ K fK K0 (Nat.le_refl _)
  have t1 := PS.mlt_mul' hP hi (PS.thn_mlt hP fD D0 (by omega) hk)
  rw [← e] at t1
  have u1 := PS.mlt_un hP t1 hk
  have t2 := PS.mlt_mul' hP hj hq
  rw [← sK] at t2
  have u2 := PS.mlt_un hP t2 hi
  have j0 := (PS.mlt_pos hP hj).mp hd1
  have j1 : j = 0 + 1 := by omega
  subst j1
  have hPs : P.size ≤ 101 := by
    have := (PS.mlt_lt hP fs s0 hj).2 (by omega)
    omega
  have dd := PS.mlt_der hP hPs (by omega) hj
  have := (PS.mlt_pos hP dd).mp hd2
  omega
theorem rst_sqf {b : Bd} {f : Int} (hb : b.good) (hf : 0 ≤ f ∧ f < 3) (hk : b.fit f ≠ 0) : ∀ P : PS, P.irr → P.dvd (rst b f).2 → ¬ P.dvd (rst b f).2.der := by
  have st := cls_step (i := 0) hb hf (by omega) hk
  have w := clW_ok b 0
  have q := sp2_sqf (clT_ok (i := 0) hb hf (by omega)) (by omega) (by omega) w.1 w.2
  rw [st] at q
  exact q
theorem dvd_tr {s A B C : PS} (hs : s.fin) (hA : A.fin) (h1 : s.dvd (A.sub PS.one)) (h2 : s.dvd (B.sub PS.one)) (e : C = A.mul B) : s.dvd (C.sub PS.one) := by
  obtain ⟨x, fx, ex⟩ := h1
  obtain ⟨y, fy, ey⟩ := h2
  refine ⟨x.add (A.mul y), PS.fin_add fx (PS.fin_mul hA fy), ?_⟩
  rw [e]
  letI := psRing
  have ex : A - 1 = x * s := ex
  have ey : B - 1 = y * s := ey
  show A * B - 1 = (x + A * y) * s
  grind
theorem dvd_md {s p q : PS} {n : Nat} (zs : s.isz (n + 1)) (hp : p.fin) (hq : q.fin) (h : s.dvd ((p.mul q).sub PS.one)) : s.dvd (((p.md s).mul q).sub PS.one) := by
  obtain ⟨c, fc, ec⟩ := (md_dvd zs hp).1
  obtain ⟨x, fx, ex⟩ := h
  refine ⟨x.sub (c.mul q), PS.fin_sub fx (PS.fin_mul fc hq), ?_⟩
  revert ec
  generalize p.md s = r
  intro ec
  letI := psRing
  have ec : p - r = c * s := ec
  have ex : p * q - 1 = x * s := ex
  show r * q - 1 = (x - c * q) * s
  grind
/-- zero is no residue -/
theorem res_ne {a s : PS} (hR : RDP a s) (hz : s.size ≤ 60) (hq : ∀ P : PS, P.irr → P.dvd s → ¬ P.dvd s.der) : evI (rsP a s) 0 0 ≠ 0 := by
  obtain ⟨fa, fs, s0, sm, co⟩ := hR
  have hp := PS.fpos fs s0
  have e0 : ∀ P : PS, P.lt 60 → evI P 0 0 = ((P 0).val : Int) := fun P hP => by
    unfold evI
    have t : tailv P (fi 0) 0 = P 0 := by
      rw [tailv_step (k := 0) (by decide), fi_0]
      generalize tailv P 0 (0 + 1) = y
      generalize P 0 = x
      grind
    rw [t]
  by_cases h1 : s.size = 1
  · rw [← rs_one (a := a) h1, e0 _ (PS.lt_mono (C_lt1 _) (by omega))]
    show ((if (0 : Nat) = 0 then fi 1 else 0 : F).val : Int) ≠ 0
    rw [if_pos rfl, fi_1]; decide
  · obtain ⟨n, hn⟩ : ∃ n, s.size = n + 1 := ⟨s.size - 1, by omega⟩
    have zs : s.isz (n + 1) := by have := PS.fisz fs; rw [hn] at this; exact this
    have hm : s n = 1 := by have := sm; unfold PS.mnc at this; rw [hn] at this; exact this
    have i1 := PS.inv_spec fs (PS.fin_der fs) (by omega) (by omega) hq
    have i2 := PS.inv_spec fs fa (by omega) (by omega) (fun P hP h1 h2 => co P hP h2 h1)
    have fi1 : (s.der.inv s).fin := ⟨_, i1.1⟩
    have fi2 : (a.inv s).fin := ⟨_, i2.1⟩
    have ne := nw_ne zs hm (by omega) (by omega) fa ⟨s.der.mul (a.inv s), PS.fin_mul (PS.fin_der fs) fi2, by
      refine dvd_md zs (PS.fin_mul fa fi1) (PS.fin_mul (PS.fin_der fs) fi2) (dvd_tr fs (PS.fin_mul fi1 (PS.fin_der fs)) i1.2 i2.2 ?_)
      generalize s.der.inv s = u
      generalize s.der = v
      generalize a.inv s = w
      letI := psRing
      show a * u * (v * w) = u * v * (w * a)
      grind⟩
    have eP : rsP a s 0 = nw (rsS a s) n := by
      unfold rsP rsK
      rw [hn, if_pos ⟨by omega, by omega⟩]
      rfl
    have ltP : (rsP a s).lt 60 := PS.lt_mono (rsK_lt (rsS a s) (s.size - 1) (s.size - 1 + 1)) (by omega)
    rw [e0 _ ltP, eP]
    intro q
    exact ne (by
      have : (nw (rsS a s) n).val = 0 := by omega
      exact Fin.ext this)
theorem zr_lg {a s : PS} (h : evI (rsP a s) 0 0 ≠ 0) : ∀ n : Nat, zrN (rsP a s) (n + 1) = (lgN a s n).1 := by
  intro n
  induction n with
  | zero => show (0 : Int) + (if evI (rsP a s) 0 0 = 0 then 1 else 0) = 0; rw [if_neg h]; rfl
  | succ n ih =>
    rw [zrN, ih, lgN]
    rw [show ((n + 1 : Nat) : Int) = (n : Int) + 1 by omega]
    split
    · rfl
    · omega
theorem zr_rof {P : PS} {j : Int} (h : evI P 0 0 ≠ 0) : ∀ n : Nat, ((rofN P j n).1 = -4 → zrF P j (n + 1) = -1 ∧ (rofN P j n).2 = zrN P (n + 1)) ∧ ((rofN P j n).1 ≠ -4 → zrF P j (n + 1) = (rofN P j n).1 ∧ 0 ≤ (rofN P j n).1) := by
  intro n
  induction n with
  | zero =>
    refine ⟨fun _ => ⟨?_, ?_⟩, fun q => absurd rfl q⟩
    · rw [zrF, if_neg (fun q => q rfl), if_neg (fun q => h q.1)]
    · show (0 : Int) = 0 + (if evI P 0 0 = 0 then 1 else 0); rw [if_neg h]; rfl
  | succ n ih =>
    have eF : zrF P j (n + 1 + 1) = if zrF P j (n + 1) ≠ -1 then zrF P j (n + 1) else if evI P ((n : Int) + 1) 0 = 0 ∧ zrN P (n + 1) = j then (n : Int) + 1 else -1 := by
      rw [zrF, show ((n + 1 : Nat) : Int) = (n : Int) + 1 by omega]
    have eR : rofN P j (n + 1) = if (rofN P j n).1 ≠ -4 then rofN P j n else if evI P ((n : Int) + 1) 0 = 0 then (if (rofN P j n).2 = j then ((n : Int) + 1, (rofN P j n).2) else (-4, (rofN P j n).2 + 1)) else rofN P j n := rfl
    have eN : zrN P (n + 1 + 1) = zrN P (n + 1) + (if evI P ((n : Int) + 1) 0 = 0 then 1 else 0) := by
      rw [zrN, show ((n + 1 : Nat) : Int) = (n : Int) + 1 by omega]
    by_cases c : (rofN P j n).1 = -4
    · have i := ih.1 c
      have nF : ¬ (zrF P j (n + 1) ≠ -1) := fun q => q i.1
      have nR : ¬ ((rofN P j n).1 ≠ -4) := fun q => q c
      rw [if_neg nF] at eF
      rw [if_neg nR] at eR
      by_cases d : evI P ((n : Int) + 1) 0 = 0
      · rw [if_pos d] at eR eN
        by_cases e : (rofN P j n).2 = j
        · rw [if_pos ⟨d, by rw [← i.2]; exact e⟩] at eF
          rw [if_pos e] at eR
          rw [eF, eR]
          exact ⟨fun q => by have q : (n : Int) + 1 = -4 := q; omega, fun _ => ⟨rfl, by show 0 ≤ (n : Int) + 1; omega⟩⟩
        · rw [if_neg (fun q => e (by rw [i.2]; exact q.2))] at eF
          rw [if_neg e] at eR
          rw [eF, eR, eN, ← i.2]
          exact ⟨fun _ => ⟨rfl, rfl⟩, fun q => absurd rfl q⟩
      · rw [if_neg d] at eR eN
        rw [if_neg (fun q => d q.1)] at eF
        rw [eF, eR, eN, ← i.2]
        exact ⟨fun _ => ⟨rfl, by omega⟩, fun q => absurd c q⟩
    · have i := ih.2 c
      rw [if_pos (by omega)] at eF
      rw [if_pos c] at eR
      rw [eF, eR]
      exact ⟨fun q => absurd q c, fun _ => i⟩
theorem zr_rofA {P : PS} {j : Int} (h : evI P 0 0 ≠ 0) : (zrF P j 101 < 0 → rofA P j = -4) ∧ (¬ zrF P j 101 < 0 → zrF P j 101 = rofA P j ∧ rofA P j ≠ -4) := by
  have z := zr_rof (j := j) h 100
  unfold rofA
  by_cases c : (rofN P j 100).1 = -4
  · have t : zrF P j 101 = -1 := (z.1 c).1
    exact ⟨fun _ => c, fun q => by omega⟩
  · have i := z.2 c
    have t : zrF P j 101 = (rofN P j 100).1 := i.1
    have t2 := i.2
    exact ⟨fun q => by omega, fun _ => ⟨t, c⟩⟩
theorem lgC_P {a s : PS} (fa : a.fin) (fs : s.fin) (s0 : s ≠ PS.zero) (za : a.size < 100) (zs : s.size < 100) (c : Int) : lgC a s c = lgP a s c := by
  unfold lgC lgP
  have e : a.add (s.der.sm (fi (101 - c))) = (s.der.sm (fi (-c))).add a := PS.ext fun n => by
    show a n + fi (101 - c) * s.der n = fi (-c) * s.der n + a n
    rw [show fi (101 - c) = fi (-c) from fi_eq (by omega)]; grind
  rw [e]
  have ff := PS.fin_add (PS.fin_sm (fi (-c)) (PS.fin_der fs)) fa
  have zd := PS.der_size fs
  have zz : ((s.der.sm (fi (-c))).add a).size < 200 := by
    have := PS.size_le (PS.lt_add (PS.lt_mono (PS.lt_sm (fi (-c)) (PS.flt (PS.fin_der fs))) (show s.der.size ≤ 150 by omega)) (PS.lt_mono (PS.flt fa) (show a.size ≤ 150 by omega)))
    omega
  exact (gcd_comm fs ff s0 (by omega) zz).symm
theorem op_lg {a s : PS} (h : evI (rsP a s) 0 0 ≠ 0) (fa : a.fin) (fs : s.fin) (s0 : s ≠ PS.zero) (za : a.size < 100) (zs : s.size < 100) : ∀ n : Nat, opN (rsP a s) (lgC a s) ((s.size : Int) - 1) (n + 1) = (lgN a s n).2 := by
  intro n
  induction n with
  | zero => show ((s.size : Int) - 1) - (if evI (rsP a s) 0 0 = 0 then _ else 0) = (s.size : Int) - 1; rw [if_neg h]; omega
  | succ n ih =>
    rw [opN, ih, lgN]
    rw [show ((n + 1 : Nat) : Int) = (n : Int) + 1 by omega, lgC_P fa fs s0 za zs]
    split
    · rfl
    · omega
