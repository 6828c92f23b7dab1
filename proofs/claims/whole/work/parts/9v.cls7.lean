/-! ===== the class: compute ===== -/
theorem BA.cx {Λ : Lay} {S : Nat → Prop} {p β : Nat} {w : Int → Int} {μ μ' : Mem} {π π' : Nat → PS} {b : Bd} (h : BA μ β b) (hK : boardK Λ β) (hc : ChgX Λ S p w μ μ' π π') (hne : β + 2 < p ∨ p < β) : BA μ' β b := by
  obtain ⟨o1, o2, o3⟩ := hK.off
  refine ⟨h.1, fun j h0 h1 => ?_, fun j h0 h1 => ?_, ?_, ?_⟩
  · rw [hc.2.2.1.1 _ o2 (by omega)]; exact h.2.1 j h0 h1
  · rw [hc.2.2.1.1 _ o3 (by omega)]; exact h.2.2.1 j h0 h1
  · rw [hc.2.2.1.1 _ o1 (by omega)]; exact h.2.2.2.1
  · rw [hc.2.2.1.1 _ o1 (by omega)]; exact h.2.2.2.2
/-- the term that the class splits, and with what -/
noncomputable def clT (b : Bd) (f i : Int) : FP2 := if b.2.2.1 = 2 ∧ 0 ≤ i then fpl (b.tm (5 * f + i + 2)) (frd (((igQ b (fnJ b f) (i + 1)).1.mul b.uP.der).sm (fi (i + 1))) ((igQ b (fnJ b f) (i + 1)).2.mul b.uP)) (fi 100) else b.tm (5 * f + i + 2)
noncomputable def clW (b : Bd) (i : Int) : PS := if b.2.2.1 = 2 then PS.zero else b.uP.der.sm (fi i)
theorem clW_ok (b : Bd) (i : Int) : (clW b i).fin ∧ (clW b i).size ≤ 4 := by
  unfold clW
  have z := b.uP_sz
  split
  · exact ⟨PS.fin_zero, by rw [PS.zero_sz]; omega⟩
  · have f : b.uP.der.fin := PS.fin_der ⟨_, b.uP_lt⟩
    exact ⟨PS.fin_sm _ f, Nat.le_trans (PS.size_le (PS.lt_sm _ (PS.flt f))) (by omega)⟩
theorem tm_spl {b : Bd} {f i : Int} (hb : b.good) (hf : 0 ≤ f ∧ f < 3) (hi : -2 ≤ i ∧ i ≤ 2) : SplOK (b.tm (5 * f + i + 2)) 7 5 := ⟨hb.tm (by omega), (fnJ_ok hb hf i hi.1 hi.2).2⟩
theorem cls_q2 {b : Bd} {f i : Int} (hb : b.good) (hf : 0 ≤ f ∧ f < 3) (hk : b.2.2.1 = 2) (hi : 0 ≤ i ∧ i ≤ 2) : FOK (igQ b (fnJ b f) (i + 1)) 18 13 ∧ SplOK (igT b (fnJ b f) (2 - i).toNat) 24 20 := by
  have q := cls_ig hb hf hk
  have : i = 0 ∨ i = 1 ∨ i = 2 := by omega
  rcases this with rfl | rfl | rfl
  · exact ⟨q.2.2.2.2.1.1.mono (by omega) (by omega), q.2.2.2.2.2.2.1⟩
  · exact ⟨q.2.1.1.mono (by omega) (by omega), ⟨q.2.2.2.1.1.mono (by omega) (by omega), q.2.2.2.1.2⟩⟩
  · exact ⟨FOK.zero.mono (by omega) (by omega), ⟨q.1.1.mono (by omega) (by omega), q.1.2⟩⟩
theorem clT_log {b : Bd} {f i : Int} (hb : b.good) (hf : 0 ≤ f ∧ f < 3) (hk : b.2.2.1 = 2) (hi : 0 ≤ i ∧ i ≤ 2) : clT b f i = igT b (fnJ b f) (2 - i).toNat := by
  have u := Bd.us hb (by omega)
  have z := b.uP_sz
  unfold clT igT
  rw [if_pos ⟨hk, hi.1⟩, if_pos hk, show (2 : Int) - ((2 - i).toNat : Int) = i by omega]
  have e : igQ b (fnJ b f) (i + 1) = (igN b (fnJ b f) (2 - i).toNat).1 := by unfold igQ; rw [show 3 - (i + 1) = 2 - i by omega]
  rw [← e]
  exact sum_same (tm_spl hb hf (by omega)).1 (cls_q2 hb hf hk hi).1 u.1 u.2.1 u.2.2.1 (by omega) (by omega) (by omega) (by rw [show (fi 100 : F) = fi (-1) from rfl, ← fi_mul]; congr 1; omega)
theorem clT_ok {b : Bd} {f i : Int} (hb : b.good) (hf : 0 ≤ f ∧ f < 3) (hi : -2 ≤ i ∧ i ≤ 2) : SplOK (clT b f i) 24 20 := by
  by_cases k : b.2.2.1 = 2 ∧ 0 ≤ i
  · rw [clT_log hb hf k.1 ⟨k.2, hi.2⟩]; exact (cls_q2 hb hf k.1 ⟨k.2, hi.2⟩).2
  · unfold clT; rw [if_neg k]
    have q := tm_spl hb hf hi
    exact ⟨q.1.mono (by omega) (by omega), q.2⟩
theorem cls_step {b : Bd} {f i : Int} (hb : b.good) (hf : 0 ≤ f ∧ f < 3) (hi : -2 ≤ i ∧ i ≤ 2) (hk : b.fit f ≠ 0) : sp2 (clT b f i) (clW b i) = (igQ b (fnJ b f) i, igR b (fnJ b f) i) := by
  have e := ig_step b (fnJ b f) hi
  rw [show (igQ b (fnJ b f) i, igR b (fnJ b f) i) = igS b (fnJ b f) i (igQ b (fnJ b f) (i + 1)) from Prod.ext e.1 e.2]
  have kr : 0 ≤ b.2.2.1 ∧ b.2.2.1 ≤ 2 := hb.1.2.2.1
  by_cases k2 : b.2.2.1 = 2
  · by_cases i0 : 0 ≤ i
    · rw [clT_log hb hf k2 ⟨i0, hi.2⟩]
      have e2 : igQ b (fnJ b f) (i + 1) = (igN b (fnJ b f) (2 - i).toNat).1 := by unfold igQ; rw [show 3 - (i + 1) = 2 - i by omega]
      unfold igT igS clW
      rw [if_pos k2, if_pos k2, if_neg (by omega), if_pos (by omega), if_pos k2, show (2 : Int) - ((2 - i).toNat : Int) = i by omega, e2]
    · have z := fit_zero (i := i) hb hf hi hk (Or.inr ⟨k2, by omega⟩)
      unfold clT igS clW
      rw [if_neg (by omega), z, if_pos k2, if_neg (by omega), if_neg (by omega), sp2_zero PS.fin_zero]
  · by_cases k1 : b.2.2.1 = 1
    · unfold clT igS clW
      rw [if_neg (by omega), if_neg k2, if_pos k1]
      rfl
    · have k0 : b.2.2.1 = 0 := by omega
      by_cases i0 : i = 0
      · unfold clT igS clW
        have uz : b.uP = PS.zero := by
          funext n
          by_cases c : n < 4
          · have := Bd.uP_cf hb.1 (k := (n : Int)) (by omega)
            rw [hb.2.2.1 k0 n (by omega) (by omega)] at this
            exact cf_zero.mp this
          · exact b.uP_lt n (by omega)
        have dz : b.uP.der.sm (fi i) = PS.zero := by
          rw [uz, PS.der_zero]; funext n; show fi i * (0 : F) = 0; grind
        rw [if_neg (by omega), if_neg k2, if_neg k1, if_pos (Or.inl i0), if_neg k2, dz]
        rfl
      · have z := fit_zero (i := i) hb hf hi hk (Or.inl ⟨k0, i0⟩)
        unfold clT igS
        rw [if_neg (by omega), z, if_neg k1, if_neg (by omega), sp2_zero (clW_ok b i).1]
theorem cls_ok {b : Bd} {f i : Int} (hb : b.good) (hf : 0 ≤ f ∧ f < 3) (hi : -2 ≤ i ∧ i ≤ 2) (hk : b.fit f ≠ 0) : FOK (igQ b (fnJ b f) i) 25 19 ∧ FOK (igR b (fnJ b f) i) 24 20 := by
  have q := sp2_ok (W := clW b i) (clT_ok hb hf hi) (clW_ok b i).1 (clW_ok b i).2 (by omega) (by omega)
  rw [cls_step hb hf hi hk] at q
  exact ⟨q.1.mono (by omega) (by omega), q.2.2.mono (by omega) (by omega)⟩
theorem cls_q {b : Bd} {f i : Int} (hb : b.good) (hf : 0 ≤ f ∧ f < 3) (hi : -2 ≤ i ∧ i ≤ 3) (hk : b.fit f ≠ 0) : FOK (igQ b (fnJ b f) i) 25 19 := by
  by_cases c : i = 3
  · rw [c]; exact FOK.zero.mono (by omega) (by omega)
  · exact (cls_ok hb hf (by omega) hk).1
theorem clT_run {b : Bd} {f i : Int} (hb : b.good) (hf : 0 ≤ f ∧ f < 3) (hi : -2 ≤ i ∧ i ≤ 2) : (clT b f i).2 ≠ PS.zero ∧ (clT b f i).2.mnc ∧ Hid ((clT b f i).2.size ≤ 20 ∧ (clT b f i).1.size ≤ 40 ∧ (clW b i).size ≤ 4 ∧ gdI (clT b f i).1 (clT b f i).2 (clW b i) ≤ 10) ∧ ((clT b f i).1 = PS.zero → (clT b f i).2 = PS.one) := by
  have q := clT_ok hb hf hi
  have w := clW_ok b i
  refine ⟨q.1.1.2.2.1, q.1.1.2.2.2.1, ?_, fun e => ?_⟩
  · have g : gdI (clT b f i).1 (clT b f i).2 (clW b i) ≤ 10 := by
      unfold gdI
      rcases q.2 with t | t
      · rw [t, PS.zero_sz]; omega
      · omega
    have z1 := q.1.2.1
    have z2 := q.1.2.2
    exact (show _ ∧ _ ∧ _ ∧ _ from ⟨by omega, by omega, w.2, g⟩)
  · have r := q.1.1
    rw [e] at r
    exact r.z
theorem judge_fin {Λ : Lay} {p : Nat} {w2 : Int → Int} {m m2 : Mem} {πk π2 : Nat → PS} {b : Bd} {f : Int} (hgd : b.good) (hf : 0 ≤ f ∧ f < 3) (hfit : b.fit f ≠ 0) (u13 : πk (p + 13) = b.uP) (u15 : πk (p + 15) = b.uP.der)
    (hQ : ∀ j : Int, -3 < j → j ≤ 3 → πk (p + 26 + 5 * (j + 2).toNat + 1) = (igQ b (fnJ b f) j).1 ∧ πk (p + 26 + 5 * (j + 2).toNat + 3) = (igQ b (fnJ b f) j).2)
    (hR : ∀ j : Int, -3 < j → j ≤ 2 → πk (p + 56 + 5 * (j + 2).toNat + 1) = (igR b (fnJ b f) j).1 ∧ πk (p + 56 + 5 * (j + 2).toNat + 3) = (igR b (fnJ b f) j).2)
    (c2 : ∀ a, ¬ (a = p + 17 ∨ a = p + 21 ∨ a = p + 46 + 1 ∨ a = p + 51 + 1) → π2 a = πk a)
    (k14 : w2 14 = (if jdO (cC b.2.2.1 p πk) = 0 then 1 else 0)) (k15 : jdO (cC b.2.2.1 p πk) ≠ 0 → w2 15 = jdO (cC b.2.2.1 p πk))
    (n2 : ¬ (jdO (cC b.2.2.1 p πk) = 0 ∧ b.2.2.1 = 2) → π2 (p + 46 + 1) = πk (p + 46 + 1) ∧ π2 (p + 51 + 1) = πk (p + 51 + 1))
    (p2 : jdO (cC b.2.2.1 p πk) = 0 ∧ b.2.2.1 = 2 → π2 (p + 46 + 1) = (πk (p + 46 + 1)).am (πk (p + 46 + 3)) (fi (cC b.2.2.1 p πk 1 * ivI 2 % 101)) 0 ∧ π2 (p + 51 + 1) = (πk (p + 51 + 1)).am (πk (p + 51 + 3)) (fi (cC b.2.2.1 p πk 2 * ivI 3 % 101)) 0) :
    w2 14 = (hwI b (fnJ b f) 5).1 ∧ ((hwI b (fnJ b f) 5).1 = 0 → w2 15 = (hwI b (fnJ b f) 5).2) ∧ (∀ j : Int, -2 ≤ j → j ≤ 3 → π2 (p + 26 + 5 * (j + 2).toNat + 1) = (fQ b (fnJ b f) j).1 ∧ π2 (p + 26 + 5 * (j + 2).toNat + 3) = (fQ b (fnJ b f) j).2) ∧ (∀ j : Int, -2 ≤ j → j ≤ 2 → π2 (p + 56 + 5 * (j + 2).toNat + 1) = (igR b (fnJ b f) j).1 ∧ π2 (p + 56 + 5 * (j + 2).toNat + 3) = (igR b (fnJ b f) j).2) ∧ π2 (p + 13) = b.uP ∧ π2 (p + 15) = b.uP.der := by
  have eC : ∀ j : Int, -2 ≤ j → j ≤ 2 → cC b.2.2.1 p πk j = cstI b.2.2.1 (igR b (fnJ b f) j).1 (igR b (fnJ b f) j).2 b.uP b.uP.der := fun j h0 h1 => by
    unfold cC; rw [(hR j (by omega) h1).1, (hR j (by omega) h1).2, u13, u15]
  have ci : ∀ j : Int, -2 ≤ j → j ≤ 2 → j ≠ 0 → _ := fun j h0 h1 h2 => cst_is (J := fnJ b f) (i := j) hgd h2 (cls_ok hgd hf ⟨h0, h1⟩ hfit).2.1
  have jh := jd_hw (b := b) (J := fnJ b f) (C := cC b.2.2.1 p πk) (fun j h0 h1 h2 => by rw [eC j h0 h1]; exact (ci j h0 h1 h2).1)
  refine ⟨k14.trans jh.1.symm, fun q => ?_, fun j h0 h1 => ?_, fun j h0 h1 => ⟨(c2 _ (by omega)).trans (hR j (by omega) h1).1, (c2 _ (by omega)).trans (hR j (by omega) h1).2⟩, (c2 _ (by omega)).trans u13, (c2 _ (by omega)).trans u15⟩
  · have n : jdO (cC b.2.2.1 p πk) ≠ 0 := fun t => by rw [jh.1, if_pos t] at q; omega
    rw [k15 n, jh.2.1 n]
  · have hq := hQ j (by omega) h1
    have hd : π2 (p + 26 + 5 * (j + 2).toNat + 3) = (igQ b (fnJ b f) j).2 := (c2 _ (by omega)).trans hq.2
    have fk := cls_q (i := j) hgd hf ⟨h0, h1⟩ hfit
    unfold fQ
    by_cases c : (hwI b (fnJ b f) 5).1 = 1 ∧ b.2.2.1 = 2 ∧ 2 ≤ j
    · rw [if_pos c, raise_eq fk.1 (by have := fk.2.2; omega)]
      refine ⟨?_, hd⟩
      have z := p2 ⟨jh.2.2.mp c.1, c.2.1⟩
      have hj : j = 2 ∨ j = 3 := by omega
      rcases hj with rfl | rfl
      · have e : cC b.2.2.1 p πk 1 = mulI (igR b (fnJ b f) 1) b.du := (eC 1 (by omega) (by omega)).trans ((ci 1 (by omega) (by omega) (by omega)).2 c.2.1)
        refine z.1.trans ?_
        rw [e, fi_mod]
        show (πk (p + 26 + 5 * (2 + 2 : Int).toNat + 1)).am (πk (p + 26 + 5 * (2 + 2 : Int).toNat + 3)) _ 0 = _
        rw [hq.1, hq.2]; rfl
      · have e : cC b.2.2.1 p πk 2 = mulI (igR b (fnJ b f) 2) b.du := (eC 2 (by omega) (by omega)).trans ((ci 2 (by omega) (by omega) (by omega)).2 c.2.1)
        refine z.2.trans ?_
        rw [e, fi_mod]
        show (πk (p + 26 + 5 * (3 + 2 : Int).toNat + 1)).am (πk (p + 26 + 5 * (3 + 2 : Int).toNat + 3)) _ 0 = _
        rw [hq.1, hq.2]; rfl
    · rw [if_neg c]
      refine ⟨?_, hd⟩
      by_cases c3 : j = 2 ∨ j = 3
      · have z := n2 (fun t => c ⟨jh.2.2.mpr t.1, t.2, by omega⟩)
        rcases c3 with rfl | rfl
        · exact z.1.trans hq.1
        · exact z.2.trans hq.1
      · exact (c2 _ (by omega)).trans hq.1
