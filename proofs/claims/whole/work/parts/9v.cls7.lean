/-! ===== the class: compute ===== -/
theorem BA.cx {Λ : Lay} {S : Nat → Prop} {p β : Nat} {w : Int → Int} {μ μ' : Mem} {π π' : Nat → PS} {b : Bd} (h : BA μ β b) (hK : boardK Λ β) (hc : ChgX Λ S p w μ μ' π π') (hne : β + 2 < p ∨ p < β) : BA μ' β b := by
  obtain ⟨o1, o2, o3⟩ := hK.off
  refine ⟨h.1, fun j h0 h1 => ?_, fun j h0 h1 => ?_, ?_, ?_⟩
  · rw [hc.2.2.1.1 _ o2 (by omega)]; exact h.2.1 j h0 h1
  · rw [hc.2.2.1.1 _ o3 (by omega)]; exact h.2.2.1 j h0 h1
  · rw [hc.2.2.1.1 _ o1 (by omega)]; exact h.2.2.2.1
  · rw [hc.2.2.1.1 _ o1 (by omega)]; exact h.2.2.2.2
/-- the term that the class splits, and with what -/
noncomputable def clT (b : Bd) (f i : Int) : FP2 := if b.2.2.1 = 2 ∧ 0 ≤ i then fpl (b.tm (5 * f + i + 2)) (frd (((igQ b (fnJ b f) (i + 1)).1.mul b.uP.der).sm (fi (i + 1))) ((igQ b (fnJ b f) (i + 1)).2.mul b.uP)) (fi 100) else b.tm (5 * f + i + 2)
noncomputable def clW (b : Bd) (i : Int) : PS := if b.2.2.1 = 2 then PS.zero else b.uP.der.sm (fi i)
theorem clW_ok (b : Bd) (i : Int) : (clW b i).fin ∧ (clW b i).size ≤ 4 := by
  unfold clW
  have z := b.uP_sz
  split
  · exact ⟨PS.fin_zero, by rw [PS.zero_sz]; omega⟩
  · have f : b.uP.der.fin := PS.fin_der ⟨_, b.uP_lt⟩
    exact ⟨PS.fin_sm _ f, Nat.le_trans (PS.size_le (PS.lt_sm _ (PS.flt f))) (by omega)⟩
theorem tm_spl {b : Bd} {f i : Int} (hb : b.good) (hf : 0 ≤ f ∧ f < 3) (hi : -2 ≤ i ∧ i ≤ 2) : SplOK (b.tm (5 * f + i + 2)) 7 5 := ⟨hb.tm (by omega), (fnJ_ok hb hf i hi.1 hi.2).2⟩
theorem cls_q2 {b : Bd} {f i : Int} (hb : b.good) (hf : 0 ≤ f ∧ f < 3) (hk : b.2.2.1 = 2) (hi : 0 ≤ i ∧ i ≤ 2) : FOK (igQ b (fnJ b f) (i + 1)) 18 13 ∧ SplOK (igT b (fnJ b f) (2 - i).toNat) 24 20 := by
  have q := cls_ig hb hf hk
  have : i = 0 ∨ i = 1 ∨ i = 2 := by omega
  rcases this with rfl | rfl | rfl
  · exact ⟨q.2.2.2.2.1.1.mono (by omega) (by omega), q.2.2.2.2.2.2.1⟩
  · exact ⟨q.2.1.1.mono (by omega) (by omega), ⟨q.2.2.2.1.1.mono (by omega) (by omega), q.2.2.2.1.2⟩⟩
  · exact ⟨FOK.zero.mono (by omega) (by omega), ⟨q.1.1.mono (by omega) (by omega), q.1.2⟩⟩
theorem clT_log {b : Bd} {f i : Int} (hb : b.good) (hf : 0 ≤ f ∧ f < 3) (hk : b.2.2.1 = 2) (hi : 0 ≤ i ∧ i ≤ 2) : clT b f i = igT b (fnJ b f) (2 - i).toNat := by
  have u := Bd.us hb (by omega)
  have z := b.uP_sz
  unfold clT igT
  rw [if_pos ⟨hk, hi.1⟩, if_pos hk, show (2 : Int) - ((2 - i).toNat : Int) = i by omega]
  have e : igQ b (fnJ b f) (i + 1) = (igN b (fnJ b f) (2 - i).toNat).1 := by unfold igQ; rw [show 3 - (i + 1) = 2 - i by omega]
  rw [← e]
  exact sum_same (tm_spl hb hf (by omega)).1 (cls_q2 hb hf hk hi).1 u.1 u.2.1 u.2.2.1 (by omega) (by omega) (by omega) (by rw [show (fi 100 : F) = fi (-1) from rfl, ← fi_mul]; congr 1; omega)
theorem clT_ok {b : Bd} {f i : Int} (hb : b.good) (hf : 0 ≤ f ∧ f < 3) (hi : -2 ≤ i ∧ i ≤ 2) : SplOK (clT b f i) 24 20 := by
  by_cases k : b.2.2.1 = 2 ∧ 0 ≤ i
  · rw [clT_log hb hf k.1 ⟨k.2, hi.2⟩]; exact (cls_q2 hb hf k.1 ⟨k.2, hi.2⟩).2
  · unfold clT; rw [if_neg k]
    have q := tm_spl hb hf hi
    exact ⟨q.1.mono (by omega) (by omega), q.2⟩
theorem cls_step {b : Bd} {f i : Int} (hb : b.good) (hf : 0 ≤ f ∧ f < 3) (hi : -2 ≤ i ∧ i ≤ 2) (hk : b.fit f ≠ 0) : sp2 (clT b f i) (clW b i) = (igQ b (fnJ b f) i, igR b (fnJ b f) i) := by
  have e := ig_step b (fnJ b f) hi
  rw [show (igQ b (fnJ b f) i, igR b (fnJ b f) i) = igS b (fnJ b f) i (igQ b (fnJ b f) (i + 1)) from Prod.ext e.1 e.2]
  have kr : 0 ≤ b.2.2.1 ∧ b.2.2.1 ≤ 2 := hb.1.2.2.1
  by_cases k2 : b.2.2.1 = 2
  · by_cases i0 : 0 ≤ i
    · rw [clT_log hb hf k2 ⟨i0, hi.2⟩]
      have e2 : igQ b (fnJ b f) (i + 1) = (igN b (fnJ b f) (2 - i).toNat).1 := by unfold igQ; rw [show 3 - (i + 1) = 2 - i by omega]
      unfold igT igS clW
      rw [if_pos k2, if_pos k2, if_neg (by omega), if_pos (by omega), if_pos k2, show (2 : Int) - ((2 - i).toNat : Int) = i by omega, e2]
    · have z := fit_zero (i := i) hb hf hi hk (Or.inr ⟨k2, by omega⟩)
      unfold clT igS clW
      rw [if_neg (by omega), z, if_pos k2, if_neg (by omega), if_neg (by omega), sp2_zero PS.fin_zero]
  · by_cases k1 : b.2.2.1 = 1
    · unfold clT igS clW
      rw [if_neg (by omega), if_neg k2, if_pos k1]
      rfl
    · have k0 : b.2.2.1 = 0 := by omega
      by_cases i0 : i = 0
      · unfold clT igS clW
        have uz : b.uP = PS.zero := by
          funext n
          by_cases c : n < 4
          · have := Bd.uP_cf hb.1 (k := (n : Int)) (by omega)
            rw [hb.2.2.1 k0 n (by omega) (by omega)] at this
            exact cf_zero.mp this
          · exact b.uP_lt n (by omega)
        have dz : b.uP.der.sm (fi i) = PS.zero := by
          rw [uz, PS.der_zero]; funext n; show fi i * (0 : F) = 0; grind
        rw [if_neg (by omega), if_neg k2, if_neg k1, if_pos (Or.inl i0), if_neg k2, dz]
        rfl
      · have z := fit_zero (i := i) hb hf hi hk (Or.inl ⟨k0, i0⟩)
        unfold clT igS
        rw [if_neg (by omega), z, if_neg k1, if_neg (by omega), sp2_zero (clW_ok b i).1]
theorem cls_ok {b : Bd} {f i : Int} (hb : b.good) (hf : 0 ≤ f ∧ f < 3) (hi : -2 ≤ i ∧ i ≤ 2) (hk : b.fit f ≠ 0) : FOK (igQ b (fnJ b f) i) 25 19 ∧ FOK (igR b (fnJ b f) i) 24 20 := by
  have q := sp2_ok (W := clW b i) (clT_ok hb hf hi) (clW_ok b i).1 (clW_ok b i).2 (by omega) (by omega)
  rw [cls_step hb hf hi hk] at q
  exact ⟨q.1.mono (by omega) (by omega), q.2.2.mono (by omega) (by omega)⟩
theorem cls_q {b : Bd} {f i : Int} (hb : b.good) (hf : 0 ≤ f ∧ f < 3) (hi : -2 ≤ i ∧ i ≤ 3) (hk : b.fit f ≠ 0) : FOK (igQ b (fnJ b f) i) 25 19 := by
  by_cases c : i = 3
  · rw [c]; exact FOK.zero.mono (by omega) (by omega)
  · exact (cls_ok hb hf (by omega) hk).1
theorem clT_run {b : Bd} {f i : Int} (hb : b.good) (hf : 0 ≤ f ∧ f < 3) (hi : -2 ≤ i ∧ i ≤ 2) : (clT b f i).2 ≠ PS.zero ∧ (clT b f i).2.mnc ∧ Hid ((clT b f i).2.size ≤ 20 ∧ (clT b f i).1.size ≤ 40 ∧ (clW b i).size ≤ 4 ∧ gdI (clT b f i).1 (clT b f i).2 (clW b i) ≤ 10) ∧ ((clT b f i).1 = PS.zero → (clT b f i).2 = PS.one) := by
  have q := clT_ok hb hf hi
  have w := clW_ok b i
  refine ⟨q.1.1.2.2.1, q.1.1.2.2.2.1, ?_, fun e => ?_⟩
  · have g : gdI (clT b f i).1 (clT b f i).2 (clW b i) ≤ 10 := by
      unfold gdI
      rcases q.2 with t | t
      · rw [t, PS.zero_sz]; omega
      · omega
    have z1 := q.1.2.1
    have z2 := q.1.2.2
    exact (show _ ∧ _ ∧ _ ∧ _ from ⟨by omega, by omega, w.2, g⟩)
  · have r := q.1.1
    rw [e] at r
    exact r.z
theorem judge_fin {p : Nat} {w2 : Int → Int} {πk π2 : Nat → PS} {b : Bd} {f : Int} (hgd : b.good) (hf : 0 ≤ f ∧ f < 3) (hfit : b.fit f ≠ 0) (u13 : πk (p + 13) = b.uP) (u15 : πk (p + 15) = b.uP.der)
    (hQ : ∀ j : Int, -3 < j → j ≤ 3 → πk (p + 26 + 5 * (j + 2).toNat + 1) = (igQ b (fnJ b f) j).1 ∧ πk (p + 26 + 5 * (j + 2).toNat + 3) = (igQ b (fnJ b f) j).2)
    (hR : ∀ j : Int, -3 < j → j ≤ 2 → πk (p + 56 + 5 * (j + 2).toNat + 1) = (igR b (fnJ b f) j).1 ∧ πk (p + 56 + 5 * (j + 2).toNat + 3) = (igR b (fnJ b f) j).2)
    (c2 : ∀ a, ¬ (a = p + 17 ∨ a = p + 21 ∨ a = p + 46 + 1 ∨ a = p + 51 + 1) → π2 a = πk a)
    (k14 : w2 14 = (if jdO (cC b.2.2.1 p πk) = 0 then 1 else 0)) (k15 : jdO (cC b.2.2.1 p πk) ≠ 0 → w2 15 = jdO (cC b.2.2.1 p πk))
    (n2 : ¬ (jdO (cC b.2.2.1 p πk) = 0 ∧ b.2.2.1 = 2) → π2 (p + 46 + 1) = πk (p + 46 + 1) ∧ π2 (p + 51 + 1) = πk (p + 51 + 1))
    (p2 : jdO (cC b.2.2.1 p πk) = 0 ∧ b.2.2.1 = 2 → π2 (p + 46 + 1) = (πk (p + 46 + 1)).am (πk (p + 46 + 3)) (fi (cC b.2.2.1 p πk 1 * ivI 2 % 101)) 0 ∧ π2 (p + 51 + 1) = (πk (p + 51 + 1)).am (πk (p + 51 + 3)) (fi (cC b.2.2.1 p πk 2 * ivI 3 % 101)) 0) :
    w2 14 = (hwI b (fnJ b f) 5).1 ∧ ((hwI b (fnJ b f) 5).1 = 0 → w2 15 = (hwI b (fnJ b f) 5).2) ∧ (∀ j : Int, -2 ≤ j → j ≤ 3 → π2 (p + 26 + 5 * (j + 2).toNat + 1) = (fQ b (fnJ b f) j).1 ∧ π2 (p + 26 + 5 * (j + 2).toNat + 3) = (fQ b (fnJ b f) j).2) ∧ (∀ j : Int, -2 ≤ j → j ≤ 2 → π2 (p + 56 + 5 * (j + 2).toNat + 1) = (igR b (fnJ b f) j).1 ∧ π2 (p + 56 + 5 * (j + 2).toNat + 3) = (igR b (fnJ b f) j).2) ∧ π2 (p + 13) = b.uP ∧ π2 (p + 15) = b.uP.der := by
  have eC : ∀ j : Int, -2 ≤ j → j ≤ 2 → cC b.2.2.1 p πk j = cstI b.2.2.1 (igR b (fnJ b f) j).1 (igR b (fnJ b f) j).2 b.uP b.uP.der := fun j h0 h1 => by
    unfold cC; rw [(hR j (by omega) h1).1, (hR j (by omega) h1).2, u13, u15]
  have ci : ∀ j : Int, -2 ≤ j → j ≤ 2 → j ≠ 0 → _ := fun j h0 h1 h2 => cst_is (J := fnJ b f) (i := j) hgd h2 (cls_ok hgd hf ⟨h0, h1⟩ hfit).2.1
  have jh := jd_hw (b := b) (J := fnJ b f) (C := cC b.2.2.1 p πk) (fun j h0 h1 h2 => by rw [eC j h0 h1]; exact (ci j h0 h1 h2).1)
  refine ⟨k14.trans jh.1.symm, fun q => ?_, fun j h0 h1 => ?_, fun j h0 h1 => ⟨(c2 _ (by omega)).trans (hR j (by omega) h1).1, (c2 _ (by omega)).trans (hR j (by omega) h1).2⟩, (c2 _ (by omega)).trans u13, (c2 _ (by omega)).trans u15⟩
  · have n : jdO (cC b.2.2.1 p πk) ≠ 0 := fun t => by rw [jh.1, if_pos t] at q; omega
    rw [k15 n, jh.2.1 n]
  · have hq := hQ j (by omega) h1
    have hd : π2 (p + 26 + 5 * (j + 2).toNat + 3) = (igQ b (fnJ b f) j).2 := (c2 _ (by omega)).trans hq.2
    have fk := cls_q (i := j) hgd hf ⟨h0, h1⟩ hfit
    unfold fQ
    by_cases c : (hwI b (fnJ b f) 5).1 = 1 ∧ b.2.2.1 = 2 ∧ 2 ≤ j
    · rw [if_pos c, raise_eq fk.1 (by have := fk.2.2; omega)]
      refine ⟨?_, hd⟩
      have z := p2 ⟨jh.2.2.mp c.1, c.2.1⟩
      have hj : j = 2 ∨ j = 3 := by omega
      rcases hj with rfl | rfl
      · have e : cC b.2.2.1 p πk 1 = mulI (igR b (fnJ b f) 1) b.du := (eC 1 (by omega) (by omega)).trans ((ci 1 (by omega) (by omega) (by omega)).2 c.2.1)
        refine z.1.trans ?_
        rw [e, fi_mod]
        show (πk (p + 26 + 5 * (2 + 2 : Int).toNat + 1)).am (πk (p + 26 + 5 * (2 + 2 : Int).toNat + 3)) _ 0 = _
        rw [hq.1, hq.2]; rfl
      · have e : cC b.2.2.1 p πk 2 = mulI (igR b (fnJ b f) 2) b.du := (eC 2 (by omega) (by omega)).trans ((ci 2 (by omega) (by omega) (by omega)).2 c.2.1)
        refine z.2.trans ?_
        rw [e, fi_mod]
        show (πk (p + 26 + 5 * (3 + 2 : Int).toNat + 1)).am (πk (p + 26 + 5 * (3 + 2 : Int).toNat + 3)) _ 0 = _
        rw [hq.1, hq.2]; rfl
    · rw [if_neg c]
      refine ⟨?_, hd⟩
      by_cases c3 : j = 2 ∨ j = 3
      · have z := n2 (fun t => c ⟨jh.2.2.mpr t.1, t.2, by omega⟩)
        rcases c3 with rfl | rfl
        · exact z.1.trans hq.1
        · exact z.2.trans hq.1
      · exact (c2 _ (by omega)).trans hq.1
theorem c_compute (l : Launch) (G : Gl) (Λ : Lay) (sz : Nat) (μ : Mem) {π : Nat → PS} {p κ σ β : Nat} {b : Bd} {f : Int} (hA : AB Λ μ π) (hI : INV G Λ) (hK : kitK Λ κ) (hS : spK Λ σ κ) (hP : partK Λ p κ σ) (hB : boardK Λ β) (hb : BA μ β b) (hgd : b.good) (hf : 0 ≤ f ∧ f < 3) (hfit : b.fit f ≠ 0) (hord : β + 2 < κ ∧ κ + 16 < σ ∧ σ + 16 < p) : Sp l G yX4_compute cX4_compute 4 none 6 [.ref p, .ref β, iv f] Λ sz μ (pV (fun μ' => ∃ π' w, ChgX Λ (fun c => (p + 2 < c ∧ c < p + 82) ∨ (σ < c ∧ c < σ + 17) ∨ (κ < c ∧ c < κ + 17)) p w μ μ' π π' ∧ w 13 = b.2.2.1 ∧ w 14 = (hwI b (fnJ b f) 5).1 ∧ ((hwI b (fnJ b f) 5).1 = 0 → w 15 = (hwI b (fnJ b f) 5).2) ∧ (∀ j : Int, -2 ≤ j → j ≤ 3 → π' (p + 26 + 5 * (j + 2).toNat + 1) = (fQ b (fnJ b f) j).1 ∧ π' (p + 26 + 5 * (j + 2).toNat + 3) = (fQ b (fnJ b f) j).2) ∧ (∀ j : Int, -2 ≤ j → j ≤ 2 → π' (p + 56 + 5 * (j + 2).toNat + 1) = (igR b (fnJ b f) j).1 ∧ π' (p + 56 + 5 * (j + 2).toNat + 3) = (igR b (fnJ b f) j).2) ∧ π' (p + 13) = b.uP ∧ π' (p + 15) = b.uP.der)) := by
  refine Sp.intro (by decide) (Nat.le_of_ble_eq_true rfl) (fun x hx hBD => ?_)
  refine v_lv [(0, .ref p), (1, .ref β), (2, iv f)] rfl ?_
  have hoff := hP.off
  have hF5 : fracK Λ (p + 51) := hP.2.2.2.2.2.2.1 5 (by omega)
  have zu := b.uP_sz
  have kr : 0 ≤ b.2.2.1 ∧ b.2.2.1 ≤ 2 := hgd.1.2.2.1
  have hch0 : ChgX Λ (fun c => (p + 2 < c ∧ c < p + 82) ∨ (σ < c ∧ c < σ + 17) ∨ (κ < c ∧ c < κ + 17)) p (μ.1 p) μ μ π π := ChgX.rf hA hoff
  have L16 : ∀ (nf : Nat) (i : Int) (m : Mem) (w : Int → Int) (πk : Nat → PS), (i + 3 < (nf : Int)) → (ChgX Λ (fun c => (p + 2 < c ∧ c < p + 82) ∨ (σ < c ∧ c < σ + 17) ∨ (κ < c ∧ c < κ + 17)) p w μ m π πk) → (πk (p + 13) = b.uP) → (πk (p + 15) = b.uP.der) → (-3 ≤ i ∧ i ≤ 2) → (w 13 = b.2.2.1) → (∀ j : Int, i < j → j ≤ 3 → πk (p + 26 + 5 * (j + 2).toNat + 1) = (igQ b (fnJ b f) j).1 ∧ πk (p + 26 + 5 * (j + 2).toNat + 3) = (igQ b (fnJ b f) j).2) → (∀ j : Int, i < j → j ≤ 2 → πk (p + 56 + 5 * (j + 2).toNat + 1) = (igR b (fnJ b f) j).1 ∧ πk (p + 56 + 5 * (j + 2).toNat + 3) = (igR b (fnJ b f) j).2) → V G x (0, 0) Λ sz m 16 [(3, iv i), (0, .ref p), (1, .ref β), (2, iv f)] [] := by
    intro nf
    induction nf with
    | zero => intro i m w πk hm hchπk vπk_0 vπk_1 hi hw13 hQ hR; exact absurd hm (by omega)
    | succ nf ih =>
      intro i m w πk hm hchπk vπk_0 vπk_1 hi hw13 hQ hR
      have hAπk := hchπk.1
      have hbm := hb.cx hB hchπk (by omega)
      have vq1 := (hQ (i + 1) (by omega) (by omega)).1
      have vq3 := (hQ (i + 1) (by omega) (by omega)).2
      have hFn : fracK Λ (p + 26 + 5 * (i + 1 + 2).toNat) := hP.2.2.2.2.2.2.1 (i + 1 + 2).toNat (by omega)
      have hFq : fracK Λ (p + 26 + 5 * (i + 2).toNat) := hP.2.2.2.2.2.2.1 (i + 2).toNat (by omega)
      have hFr : fracK Λ (p + 56 + 5 * (i + 2).toNat) := hP.2.2.2.2.2.2.2 (i + 2).toNat (by omega)
      have fq := cls_q (i := i + 1) hgd hf (by omega) hfit
      refine v_iload hx DX4_compute_16 0 rfl ?_
      refine v_push hx DX4_compute_17 ?_
      refine v_icmp_lt hx DX4_compute_19 (by omega) (by decide) (fun c19 => ?_) (fun c19 => ?_)
      · skip
        refine v_aload hx DX4_compute_144 1 rfl ?_
        refine v_cVv hx DX4_compute_145 CVRX4_153 [] (c_judge (kd := b.2.2.1) l G Λ sz m hAπk hI hK hP ⟨(congrFun hchπk.2.2.2.1 13).trans hw13, kr⟩ (by omega) (fun _ j h0 h1 => by rw [(hR j (by omega) h1).1, (hR j (by omega) h1).2, vπk_0, vπk_1]; have z := (cls_ok (i := j) hgd hf ⟨h0, h1⟩ hfit).2; have z1 := z.2.1; have z2 := z.2.2; exact ⟨by omega, by omega⟩)) hP.1 rfl rfl (Nat.le_of_ble_eq_true rfl) (by decide) ⟨Nat.le_refl _, Nat.le_refl _⟩ (fun μ1 hμ1 => ?_)
        obtain ⟨πz, wz, cz, k13, k14, k15, n2, p2⟩ := hμ1
        have i3 : i = -3 := by omega
        subst i3
        exact v_rv hx hBD DX4_compute_148 (⟨πz, wz, hchπk.tx (cz.mono (fun c hc => by first | omega | (dsimp only at hc ⊢; omega))), k13, judge_fin hgd hf hfit vπk_0 vπk_1 hQ hR cz.2.1 k14 k15 n2 p2⟩)
      · skip
        have stp := cls_step (i := i) hgd hf (by omega) hfit
        have rn := clT_run (i := i) hgd hf (by omega)
        refine v_aload hx DX4_compute_22 2 rfl ?_
        refine v_iload hx DX4_compute_23 3 rfl ?_
        refine v_iload hx DX4_compute_24 0 rfl ?_
        refine v_cNp hx DX4_compute_25 CSRX4_131 [iv f, iv i] (c_termOf l G Λ sz m (by omega) (by omega)) rfl rfl (Nat.le_of_ble_eq_true rfl) (by decide) ⟨Nat.le_refl _, Nat.le_refl _⟩ ?_
        refine v_top (z' := 5 * f + i + 2) (if1 ⟨by omega, by omega, by omega, by omega⟩) ?_
        refine v_aload hx DX4_compute_28 1 rfl ?_
        refine v_get hx DX4_compute_29 FLRX4_25 hP.1 (v := .ref (p + 8)) rfl ?_
        refine v_cVv hx DX4_compute_32 CVRX4_134 [iv (5 * f + i + 2), .ref (p + 8)] (b_load (t := 5 * f + i + 2) l G Λ sz m hAπk hB hbm hP.2.2.2.2.1.2 (by omega)) hB.1 rfl rfl (Nat.le_of_ble_eq_true rfl) (by decide) ⟨Nat.le_refl _, Nat.le_refl _⟩ (fun μ5 hμ5 => ?_)
        obtain ⟨π5, hc5, he5_0, he5_1⟩ := hμ5
        have hA5 := hc5.1
        have hch5 := hchπk.trans (hc5.mono (fun c hc => by first | omega | (dsimp only at hc ⊢; omega)))
        have v5_0 : π5 (p + 13) = b.uP := (hc5.2.1 (p + 13) (by first | omega | (dsimp only; omega))).trans vπk_0
        have v5_1 : π5 (p + 15) = b.uP.der := (hc5.2.1 (p + 15) (by first | omega | (dsimp only; omega))).trans vπk_1
        have v5_2 : π5 ((p + 26 + 5 * (i + 1 + 2).toNat) + 1) = (igQ b (fnJ b f) (i + 1)).1 := (hc5.2.1 ((p + 26 + 5 * (i + 1 + 2).toNat) + 1) (by first | omega | (dsimp only; omega))).trans vq1
        have v5_3 : π5 ((p + 26 + 5 * (i + 1 + 2).toNat) + 3) = (igQ b (fnJ b f) (i + 1)).2 := (hc5.2.1 ((p + 26 + 5 * (i + 1 + 2).toNat) + 3) (by first | omega | (dsimp only; omega))).trans vq3
        refine v_aload hx DX4_compute_35 1 rfl ?_
        refine v_get hx DX4_compute_36 FLRX4_47 hP.1 (v := .ref (p + 23)) rfl ?_
        refine v_aload hx DX4_compute_39 1 rfl ?_
        refine v_get hx DX4_compute_40 FLRX4_35 hP.1 (v := .ref (p + 15)) rfl ?_
        refine v_cVv hx DX4_compute_43 CVRX4_138 [.ref (p + 15)] (s_become l G Λ sz μ5 hP.2.2.2.2.2.1.2.2.2.2.2 hP.2.2.2.2.2.1.2.1 (by omega) (AB.get (A := π5 (p + 23)) hA5 hP.2.2.2.2.2.1.2.2.2.2.2 rfl) (AB.get (A := b.uP.der) hA5 hP.2.2.2.2.2.1.2.1 v5_1)) hP.2.2.2.2.2.1.2.2.2.2.2.1 rfl rfl (Nat.le_of_ble_eq_true rfl) (by decide) ⟨Nat.le_refl _, Nat.le_refl _⟩ (fun μ6 hμ6 => ?_)
        obtain ⟨π6, hc6, he6, ho6⟩ := Chg.one (S := fun c => (p + 2 < c ∧ c < p + 82) ∨ (σ < c ∧ c < σ + 17) ∨ (κ < c ∧ c < κ + 17)) (R := b.uP.der) hA5 hP.2.2.2.2.2.1.2.2.2.2.2 (by first | omega | (dsimp only; omega)) hμ6
        have hA6 := hc6.1
        have hch6 := hch5.trans hc6
        have v6_0 : π6 (p + 13) = b.uP := (ho6 (p + 13) (by omega)).trans v5_0
        have v6_1 : π6 (p + 15) = b.uP.der := (ho6 (p + 15) (by omega)).trans v5_1
        have v6_2 : π6 ((p + 26 + 5 * (i + 1 + 2).toNat) + 1) = (igQ b (fnJ b f) (i + 1)).1 := (ho6 ((p + 26 + 5 * (i + 1 + 2).toNat) + 1) (by omega)).trans v5_2
        have v6_3 : π6 ((p + 26 + 5 * (i + 1 + 2).toNat) + 3) = (igQ b (fnJ b f) (i + 1)).2 := (ho6 ((p + 26 + 5 * (i + 1 + 2).toNat) + 3) (by omega)).trans v5_3
        have v6_4 : π6 (p + 8 + 1) = b.num (5 * f + i + 2) := (ho6 (p + 8 + 1) (by omega)).trans he5_0
        have v6_5 : π6 (p + 8 + 3) = b.den (5 * f + i + 2) := (ho6 (p + 8 + 3) (by omega)).trans he5_1
        refine v_aload hx DX4_compute_46 1 rfl ?_
        refine v_get hx DX4_compute_47 FLRX4_47 hP.1 (v := .ref (p + 23)) rfl ?_
        refine v_iload hx DX4_compute_50 0 rfl ?_
        refine v_push hx DX4_compute_51 ?_
        refine v_cSp hx DX4_compute_53 CSRX4_89 [iv i, iv 101] (j_fmod l G Λ sz μ6 (by omega)) rfl rfl (Nat.le_of_ble_eq_true rfl) (by decide) ⟨Nat.le_refl _, Nat.le_refl _⟩ ?_
        refine v_cVv hx DX4_compute_56 CVRX4_116 [iv (i % 101)] (s_scale l G Λ sz μ6 hP.2.2.2.2.2.1.2.2.2.2.2 (AB.get (A := b.uP.der) hA6 hP.2.2.2.2.2.1.2.2.2.2.2 he6) (by omega)) hP.2.2.2.2.2.1.2.2.2.2.2.1 rfl rfl (Nat.le_of_ble_eq_true rfl) (by decide) ⟨Nat.le_refl _, Nat.le_refl _⟩ (fun μ9 hμ9 => ?_)
        obtain ⟨π9, hc9, he9, ho9⟩ := Chg.one (S := fun c => (p + 2 < c ∧ c < p + 82) ∨ (σ < c ∧ c < σ + 17) ∨ (κ < c ∧ c < κ + 17)) (R := PS.sm (fi (i % 101)) b.uP.der) hA6 hP.2.2.2.2.2.1.2.2.2.2.2 (by first | omega | (dsimp only; omega)) hμ9
        have hA9 := hc9.1
        have hch9 := hch6.trans hc9
        have v9_0 : π9 (p + 13) = b.uP := (ho9 (p + 13) (by omega)).trans v6_0
        have v9_1 : π9 (p + 15) = b.uP.der := (ho9 (p + 15) (by omega)).trans v6_1
        have v9_2 : π9 ((p + 26 + 5 * (i + 1 + 2).toNat) + 1) = (igQ b (fnJ b f) (i + 1)).1 := (ho9 ((p + 26 + 5 * (i + 1 + 2).toNat) + 1) (by omega)).trans v6_2
        have v9_3 : π9 ((p + 26 + 5 * (i + 1 + 2).toNat) + 3) = (igQ b (fnJ b f) (i + 1)).2 := (ho9 ((p + 26 + 5 * (i + 1 + 2).toNat) + 3) (by omega)).trans v6_3
        have v9_4 : π9 (p + 8 + 1) = b.num (5 * f + i + 2) := (ho9 (p + 8 + 1) (by omega)).trans v6_4
        have v9_5 : π9 (p + 8 + 3) = b.den (5 * f + i + 2) := (ho9 (p + 8 + 3) (by omega)).trans v6_5
        have w10 : π9 (p + 23) = b.uP.der.sm (fi i) := he9.trans (by rw [fi_mod])
        refine v_aload hx DX4_compute_59 1 rfl ?_
        refine v_get hx DX4_compute_60 FLRX4_54 hP.1 (fv_i rfl (by rw [hch9.2.2.2.1]; exact hw13) : _ = iv b.2.2.1) ?_
        refine v_push hx DX4_compute_63 ?_
        refine v_icmp_ne hx DX4_compute_64 (by omega) (by decide) (fun c64 => ?_) (fun c64 => ?_)
        · skip
          refine v_aload hx DX4_compute_113 1 rfl ?_
          refine v_get hx DX4_compute_114 FLRX4_69 hP.1 (v := .ref σ) rfl ?_
          refine v_aload hx DX4_compute_117 1 rfl ?_
          refine v_get hx DX4_compute_118 FLRX4_25 hP.1 (v := .ref (p + 8)) rfl ?_
          refine v_aload hx DX4_compute_121 1 rfl ?_
          refine v_get hx DX4_compute_122 FLRX4_47 hP.1 (v := .ref (p + 23)) rfl ?_
          refine v_aload hx DX4_compute_125 1 rfl ?_
          refine v_iload hx DX4_compute_126 0 rfl ?_
          refine v_cVr hx DX4_compute_127 CVRX4_124 [iv i] (c_piece (i := i) l G Λ sz μ9 hP (by omega)) hP.1 rfl rfl (Nat.le_of_ble_eq_true rfl) (by decide) ⟨Nat.le_refl _, Nat.le_refl _⟩ (fun z12 μ11 hμ11 => ?_)
          obtain ⟨ea, em⟩ := hμ11
          rw [ea, em]
          refine v_aload hx DX4_compute_130 1 rfl ?_
          refine v_iload hx DX4_compute_131 0 rfl ?_
          refine v_cVr hx DX4_compute_132 CVRX4_144 [iv i] (c_rest (i := i) l G Λ sz μ9 hP (by omega)) hP.1 rfl rfl (Nat.le_of_ble_eq_true rfl) (by decide) ⟨Nat.le_refl _, Nat.le_refl _⟩ (fun z14 μ13 hμ13 => ?_)
          obtain ⟨ea, em⟩ := hμ13
          rw [ea, em]
          refine v_cVv hx DX4_compute_135 CVRX4_147 [.ref (p + 8), .ref (p + 23), .ref (p + 26 + 5 * (i + 2).toNat), .ref (p + 56 + 5 * (i + 2).toNat)] (q_runA (N := (clT b f i).1) (D := (clT b f i).2) (W := clW b i) l G Λ sz μ9 hA9 hI hK hS hP.2.2.2.2.2.1.2.2.2.2.2 hFq hFr hP.2.2.2.2.1.2 (by omega) ((w10).trans (by unfold clW; rw [if_neg (by omega)])) ((v9_4).trans (by unfold clT; rw [if_neg (by omega)]; rfl)) ((v9_5).trans (by unfold clT; rw [if_neg (by omega)]; rfl)) rn.1 rn.2.1 rn.2.2.1 rn.2.2.2) hS.1 rfl rfl (Nat.le_of_ble_eq_true rfl) (by decide) ⟨Nat.le_refl _, Nat.le_refl _⟩ (fun μ15 hμ15 => ?_)
          obtain ⟨π15, hc15, he15_0, he15_1, he15_2, he15_3⟩ := hμ15
          have hA15 := hc15.1
          have hch15 := hch9.trans (hc15.mono (fun c hc => by first | omega | (dsimp only at hc ⊢; omega)))
          have v15_0 : π15 (p + 13) = b.uP := (hc15.2.1 (p + 13) (by first | omega | (dsimp only; omega))).trans v9_0
          have v15_1 : π15 (p + 15) = b.uP.der := (hc15.2.1 (p + 15) (by first | omega | (dsimp only; omega))).trans v9_1
          have v15_2 : π15 ((p + 26 + 5 * (i + 1 + 2).toNat) + 1) = (igQ b (fnJ b f) (i + 1)).1 := (hc15.2.1 ((p + 26 + 5 * (i + 1 + 2).toNat) + 1) (by first | omega | (dsimp only; omega))).trans v9_2
          have v15_3 : π15 ((p + 26 + 5 * (i + 1 + 2).toNat) + 3) = (igQ b (fnJ b f) (i + 1)).2 := (hc15.2.1 ((p + 26 + 5 * (i + 1 + 2).toNat) + 3) (by first | omega | (dsimp only; omega))).trans v9_3
          have v15_4 : π15 (p + 8 + 1) = b.num (5 * f + i + 2) := (hc15.2.1 (p + 8 + 1) (by first | omega | (dsimp only; omega))).trans v9_4
          have v15_5 : π15 (p + 8 + 3) = b.den (5 * f + i + 2) := (hc15.2.1 (p + 8 + 3) (by first | omega | (dsimp only; omega))).trans v9_5
          have v15_6 : π15 (p + 23) = b.uP.der.sm (fi i) := (hc15.2.1 (p + 23) (by first | omega | (dsimp only; omega))).trans w10
          have g15_0 : π15 ((p + 26 + 5 * (i + 2).toNat) + 1) = (igQ b (fnJ b f) i).1 := he15_0.trans (congrArg (fun z => z.1.1) stp)
          have g15_1 : π15 ((p + 26 + 5 * (i + 2).toNat) + 3) = (igQ b (fnJ b f) i).2 := he15_1.trans (congrArg (fun z => z.1.2) stp)
          have g15_2 : π15 ((p + 56 + 5 * (i + 2).toNat) + 1) = (igR b (fnJ b f) i).1 := he15_2.trans (congrArg (fun z => z.2.1) stp)
          have g15_3 : π15 ((p + 56 + 5 * (i + 2).toNat) + 3) = (igR b (fnJ b f) i).2 := he15_3.trans (congrArg (fun z => z.2.2) stp)
          have fr : ∀ a : Nat, ((p + 26 + 5 * (i + 2).toNat + 3 < a ∧ a < p + 56) ∨ (p + 56 + 5 * (i + 2).toNat + 3 < a ∧ a < p + 82)) → π15 a = πk a := fun a ha => ((hc15.2.1 a (by first | omega | (dsimp only; omega))).trans ((ho9 a (by omega)).trans ((ho6 a (by omega)).trans (hc5.2.1 a (by first | omega | (dsimp only; omega))))))
          refine v_iinc hx DX4_compute_138 0 rfl [(3, iv (i + (-1))), (0, .ref p), (1, .ref β), (2, iv f)] rfl (by decide) ?_
          refine v_goto hx DX4_compute_141 ?_
          exact v_sub [0, 1, 2, 3] _ rfl (ih (i + (-1)) μ15 w π15 (by omega) hch15 v15_0 v15_1 (by omega) hw13 (fun j h0 h1 => Classical.byCases (fun q : j = i => q ▸ ⟨g15_0, g15_1⟩) (fun q => ⟨(fr _ (by omega)).trans (hQ j (by omega) h1).1, (fr _ (by omega)).trans (hQ j (by omega) h1).2⟩)) (fun j h0 h1 => Classical.byCases (fun q : j = i => q ▸ ⟨g15_2, g15_3⟩) (fun q => ⟨(fr _ (by omega)).trans (hR j (by omega) h1).1, (fr _ (by omega)).trans (hR j (by omega) h1).2⟩)))
        · skip
          refine v_aload hx DX4_compute_67 1 rfl ?_
          refine v_get hx DX4_compute_68 FLRX4_47 hP.1 (v := .ref (p + 23)) rfl ?_
          refine v_cVv hx DX4_compute_71 CVRX4_141 [] (s_clear l G Λ sz μ9 hP.2.2.2.2.2.1.2.2.2.2.2 (AB.get (A := b.uP.der.sm (fi i)) hA9 hP.2.2.2.2.2.1.2.2.2.2.2 w10)) hP.2.2.2.2.2.1.2.2.2.2.2.1 rfl rfl (Nat.le_of_ble_eq_true rfl) (by decide) ⟨Nat.le_refl _, Nat.le_refl _⟩ (fun μ16 hμ16 => ?_)
          obtain ⟨π16, hc16, he16, ho16⟩ := Chg.one (S := fun c => (p + 2 < c ∧ c < p + 82) ∨ (σ < c ∧ c < σ + 17) ∨ (κ < c ∧ c < κ + 17)) (R := PS.zero) hA9 hP.2.2.2.2.2.1.2.2.2.2.2 (by first | omega | (dsimp only; omega)) hμ16
          have hA16 := hc16.1
          have hch16 := hch9.trans hc16
          have v16_0 : π16 (p + 13) = b.uP := (ho16 (p + 13) (by omega)).trans v9_0
          have v16_1 : π16 (p + 15) = b.uP.der := (ho16 (p + 15) (by omega)).trans v9_1
          have v16_2 : π16 ((p + 26 + 5 * (i + 1 + 2).toNat) + 1) = (igQ b (fnJ b f) (i + 1)).1 := (ho16 ((p + 26 + 5 * (i + 1 + 2).toNat) + 1) (by omega)).trans v9_2
          have v16_3 : π16 ((p + 26 + 5 * (i + 1 + 2).toNat) + 3) = (igQ b (fnJ b f) (i + 1)).2 := (ho16 ((p + 26 + 5 * (i + 1 + 2).toNat) + 3) (by omega)).trans v9_3
          have v16_4 : π16 (p + 8 + 1) = b.num (5 * f + i + 2) := (ho16 (p + 8 + 1) (by omega)).trans v9_4
          have v16_5 : π16 (p + 8 + 3) = b.den (5 * f + i + 2) := (ho16 (p + 8 + 3) (by omega)).trans v9_5
          refine v_iload hx DX4_compute_74 0 rfl ?_
          refine v_if_lt hx DX4_compute_75 (by omega) (fun c75 => ?_) (fun c75 => ?_)
          · skip
            refine v_aload hx DX4_compute_113 1 rfl ?_
            refine v_get hx DX4_compute_114 FLRX4_69 hP.1 (v := .ref σ) rfl ?_
            refine v_aload hx DX4_compute_117 1 rfl ?_
            refine v_get hx DX4_compute_118 FLRX4_25 hP.1 (v := .ref (p + 8)) rfl ?_
            refine v_aload hx DX4_compute_121 1 rfl ?_
            refine v_get hx DX4_compute_122 FLRX4_47 hP.1 (v := .ref (p + 23)) rfl ?_
            refine v_aload hx DX4_compute_125 1 rfl ?_
            refine v_iload hx DX4_compute_126 0 rfl ?_
            refine v_cVr hx DX4_compute_127 CVRX4_124 [iv i] (c_piece (i := i) l G Λ sz μ16 hP (by omega)) hP.1 rfl rfl (Nat.le_of_ble_eq_true rfl) (by decide) ⟨Nat.le_refl _, Nat.le_refl _⟩ (fun z18 μ17 hμ17 => ?_)
            obtain ⟨ea, em⟩ := hμ17
            rw [ea, em]
            refine v_aload hx DX4_compute_130 1 rfl ?_
            refine v_iload hx DX4_compute_131 0 rfl ?_
            refine v_cVr hx DX4_compute_132 CVRX4_144 [iv i] (c_rest (i := i) l G Λ sz μ16 hP (by omega)) hP.1 rfl rfl (Nat.le_of_ble_eq_true rfl) (by decide) ⟨Nat.le_refl _, Nat.le_refl _⟩ (fun z20 μ19 hμ19 => ?_)
            obtain ⟨ea, em⟩ := hμ19
            rw [ea, em]
            refine v_cVv hx DX4_compute_135 CVRX4_147 [.ref (p + 8), .ref (p + 23), .ref (p + 26 + 5 * (i + 2).toNat), .ref (p + 56 + 5 * (i + 2).toNat)] (q_runA (N := (clT b f i).1) (D := (clT b f i).2) (W := clW b i) l G Λ sz μ16 hA16 hI hK hS hP.2.2.2.2.2.1.2.2.2.2.2 hFq hFr hP.2.2.2.2.1.2 (by omega) ((he16).trans (by unfold clW; rw [if_pos (by omega)])) ((v16_4).trans (by unfold clT; rw [if_neg (by omega)]; rfl)) ((v16_5).trans (by unfold clT; rw [if_neg (by omega)]; rfl)) rn.1 rn.2.1 rn.2.2.1 rn.2.2.2) hS.1 rfl rfl (Nat.le_of_ble_eq_true rfl) (by decide) ⟨Nat.le_refl _, Nat.le_refl _⟩ (fun μ21 hμ21 => ?_)
            obtain ⟨π21, hc21, he21_0, he21_1, he21_2, he21_3⟩ := hμ21
            have hA21 := hc21.1
            have hch21 := hch16.trans (hc21.mono (fun c hc => by first | omega | (dsimp only at hc ⊢; omega)))
            have v21_0 : π21 (p + 13) = b.uP := (hc21.2.1 (p + 13) (by first | omega | (dsimp only; omega))).trans v16_0
            have v21_1 : π21 (p + 15) = b.uP.der := (hc21.2.1 (p + 15) (by first | omega | (dsimp only; omega))).trans v16_1
            have v21_2 : π21 ((p + 26 + 5 * (i + 1 + 2).toNat) + 1) = (igQ b (fnJ b f) (i + 1)).1 := (hc21.2.1 ((p + 26 + 5 * (i + 1 + 2).toNat) + 1) (by first | omega | (dsimp only; omega))).trans v16_2
            have v21_3 : π21 ((p + 26 + 5 * (i + 1 + 2).toNat) + 3) = (igQ b (fnJ b f) (i + 1)).2 := (hc21.2.1 ((p + 26 + 5 * (i + 1 + 2).toNat) + 3) (by first | omega | (dsimp only; omega))).trans v16_3
            have v21_4 : π21 (p + 8 + 1) = b.num (5 * f + i + 2) := (hc21.2.1 (p + 8 + 1) (by first | omega | (dsimp only; omega))).trans v16_4
            have v21_5 : π21 (p + 8 + 3) = b.den (5 * f + i + 2) := (hc21.2.1 (p + 8 + 3) (by first | omega | (dsimp only; omega))).trans v16_5
            have v21_6 : π21 (p + 23) = PS.zero := (hc21.2.1 (p + 23) (by first | omega | (dsimp only; omega))).trans he16
            have g21_0 : π21 ((p + 26 + 5 * (i + 2).toNat) + 1) = (igQ b (fnJ b f) i).1 := he21_0.trans (congrArg (fun z => z.1.1) stp)
            have g21_1 : π21 ((p + 26 + 5 * (i + 2).toNat) + 3) = (igQ b (fnJ b f) i).2 := he21_1.trans (congrArg (fun z => z.1.2) stp)
            have g21_2 : π21 ((p + 56 + 5 * (i + 2).toNat) + 1) = (igR b (fnJ b f) i).1 := he21_2.trans (congrArg (fun z => z.2.1) stp)
            have g21_3 : π21 ((p + 56 + 5 * (i + 2).toNat) + 3) = (igR b (fnJ b f) i).2 := he21_3.trans (congrArg (fun z => z.2.2) stp)
            have fr : ∀ a : Nat, ((p + 26 + 5 * (i + 2).toNat + 3 < a ∧ a < p + 56) ∨ (p + 56 + 5 * (i + 2).toNat + 3 < a ∧ a < p + 82)) → π21 a = πk a := fun a ha => ((hc21.2.1 a (by first | omega | (dsimp only; omega))).trans ((ho16 a (by omega)).trans ((ho9 a (by omega)).trans ((ho6 a (by omega)).trans (hc5.2.1 a (by first | omega | (dsimp only; omega)))))))
            refine v_iinc hx DX4_compute_138 0 rfl [(3, iv (i + (-1))), (0, .ref p), (1, .ref β), (2, iv f)] rfl (by decide) ?_
            refine v_goto hx DX4_compute_141 ?_
            exact v_sub [0, 1, 2, 3] _ rfl (ih (i + (-1)) μ21 w π21 (by omega) hch21 v21_0 v21_1 (by omega) hw13 (fun j h0 h1 => Classical.byCases (fun q : j = i => q ▸ ⟨g21_0, g21_1⟩) (fun q => ⟨(fr _ (by omega)).trans (hQ j (by omega) h1).1, (fr _ (by omega)).trans (hQ j (by omega) h1).2⟩)) (fun j h0 h1 => Classical.byCases (fun q : j = i => q ▸ ⟨g21_2, g21_3⟩) (fun q => ⟨(fr _ (by omega)).trans (hR j (by omega) h1).1, (fr _ (by omega)).trans (hR j (by omega) h1).2⟩)))
          · skip
            refine v_aload hx DX4_compute_78 1 rfl ?_
            refine v_aload hx DX4_compute_79 1 rfl ?_
            refine v_iload hx DX4_compute_80 0 rfl ?_
            refine v_push hx DX4_compute_81 ?_
            refine v_iadd hx DX4_compute_82 ?_
            refine v_cVr hx DX4_compute_83 CVRX4_124 [iv (i + 1)] (c_piece (i := i + 1) l G Λ sz μ16 hP (by omega)) hP.1 rfl rfl (Nat.le_of_ble_eq_true rfl) (by decide) ⟨Nat.le_refl _, Nat.le_refl _⟩ (fun z23 μ22 hμ22 => ?_)
            obtain ⟨ea, em⟩ := hμ22
            rw [ea, em]
            refine v_iload hx DX4_compute_86 0 rfl ?_
            refine v_push hx DX4_compute_87 ?_
            refine v_iadd hx DX4_compute_88 ?_
            refine v_cVv hx DX4_compute_89 CVRX4_102 [.ref (p + 26 + 5 * (i + 1 + 2).toNat), iv (i + 1)] (c_multiplyBySlope (v := i + 1) l G Λ sz μ16 hA16 hI hK hP hFn (by omega) (by omega) (by rw [v16_2, v16_1]; have := fq.2.1; omega) (by rw [v16_3, v16_0]; have := fq.2.2; omega) (by rw [v16_3, v16_0]; exact PS.fmul_ne fq.1.2.1 (Bd.us hgd (by omega)).1 fq.1.2.2.1 (Bd.us hgd (by omega)).2.2.1)) hP.1 rfl rfl (Nat.le_of_ble_eq_true rfl) (by decide) ⟨Nat.le_refl _, Nat.le_refl _⟩ (fun μ24 hμ24 => ?_)
            obtain ⟨π24, hc24, he24_0, he24_1⟩ := hμ24
            have hA24 := hc24.1
            have hch24 := hch16.trans (hc24.mono (fun c hc => by first | omega | (dsimp only at hc ⊢; omega)))
            have v24_0 : π24 (p + 13) = b.uP := (hc24.2.1 (p + 13) (by first | omega | (dsimp only; omega))).trans v16_0
            have v24_1 : π24 (p + 15) = b.uP.der := (hc24.2.1 (p + 15) (by first | omega | (dsimp only; omega))).trans v16_1
            have v24_2 : π24 ((p + 26 + 5 * (i + 1 + 2).toNat) + 1) = (igQ b (fnJ b f) (i + 1)).1 := (hc24.2.1 ((p + 26 + 5 * (i + 1 + 2).toNat) + 1) (by first | omega | (dsimp only; omega))).trans v16_2
            have v24_3 : π24 ((p + 26 + 5 * (i + 1 + 2).toNat) + 3) = (igQ b (fnJ b f) (i + 1)).2 := (hc24.2.1 ((p + 26 + 5 * (i + 1 + 2).toNat) + 3) (by first | omega | (dsimp only; omega))).trans v16_3
            have v24_4 : π24 (p + 8 + 1) = b.num (5 * f + i + 2) := (hc24.2.1 (p + 8 + 1) (by first | omega | (dsimp only; omega))).trans v16_4
            have v24_5 : π24 (p + 8 + 3) = b.den (5 * f + i + 2) := (hc24.2.1 (p + 8 + 3) (by first | omega | (dsimp only; omega))).trans v16_5
            have v24_6 : π24 (p + 23) = PS.zero := (hc24.2.1 (p + 23) (by first | omega | (dsimp only; omega))).trans he16
            have g24_0 : π24 (p + 3 + 1) = (dfS (igQ b (fnJ b f) (i + 1)) b.uP b.uP.der i).1 := he24_0.trans (by rw [v16_2, v16_1, v16_3, v16_0]; rfl)
            have g24_1 : π24 (p + 3 + 3) = (dfS (igQ b (fnJ b f) (i + 1)) b.uP b.uP.der i).2 := he24_1.trans (by rw [v16_2, v16_1, v16_3, v16_0]; rfl)
            have us := Bd.us hgd (by omega)
            have y1 := PS.mul_sz (n := 30) fq.1.1 us.2.1 (by have := fq.2.1; omega)
            have y2 := PS.mul_sz (n := 30) fq.1.2.1 us.1 (by have := fq.2.2; omega)
            have s9 : FOK (dfS (igQ b (fnJ b f) (i + 1)) b.uP b.uP.der i) 30 30 := FOK.rd (PS.fin_sm _ (PS.fin_mul fq.1.1 us.2.1)) (PS.fin_mul fq.1.2.1 us.1) (PS.fmul_ne fq.1.2.1 us.1 fq.1.2.2.1 us.2.2.1) (Nat.le_trans (PS.size_le (PS.lt_sm _ (PS.flt (PS.fin_mul fq.1.1 us.2.1)))) y1) y2 (by omega)
            have tmk := (tm_spl (i := i) hgd hf (by omega)).1
            refine v_aload hx DX4_compute_92 1 rfl ?_
            refine v_get hx DX4_compute_93 FLRX4_65 hP.1 (v := .ref κ) rfl ?_
            refine v_aload hx DX4_compute_96 1 rfl ?_
            refine v_get hx DX4_compute_97 FLRX4_25 hP.1 (v := .ref (p + 8)) rfl ?_
            refine v_aload hx DX4_compute_100 1 rfl ?_
            refine v_get hx DX4_compute_101 FLRX4_25 hP.1 (v := .ref (p + 8)) rfl ?_
            refine v_aload hx DX4_compute_104 1 rfl ?_
            refine v_get hx DX4_compute_105 FLRX4_21 hP.1 (v := .ref (p + 3)) rfl ?_
            refine v_push hx DX4_compute_108 ?_
            refine v_cVv hx DX4_compute_110 CVRX4_106 [.ref (p + 8), .ref (p + 8), .ref (p + 3), iv 100] (q_sum (f := 100) l G Λ sz μ24 hA24 hI hK hP.2.2.2.2.1.2 hP.2.2.2.2.1.2 hP.2.2.2.2.1.1 (by omega) (by omega) (by omega) (by omega) (by omega) (by omega) (by rw [v24_4, g24_1]; have := s9.2.2; have := tmk.2.1; unfold Bd.tm at *; dsimp only at *; omega) (by rw [g24_0, v24_5]; have := s9.2.1; have := tmk.2.2; unfold Bd.tm at *; dsimp only at *; omega) (by rw [v24_5, g24_1]; have := s9.2.2; have := tmk.2.2; unfold Bd.tm at *; dsimp only at *; omega) (by rw [v24_5, g24_1]; exact PS.fmul_ne tmk.1.2.1 s9.1.2.1 tmk.1.2.2.1 s9.1.2.2.1)) hK.1 rfl rfl (Nat.le_of_ble_eq_true rfl) (by decide) ⟨Nat.le_refl _, Nat.le_refl _⟩ (fun μ25 hμ25 => ?_)
            obtain ⟨π25, hc25, he25_0, he25_1⟩ := hμ25
            have hA25 := hc25.1
            have hch25 := hch24.trans (hc25.mono (fun c hc => by first | omega | (dsimp only at hc ⊢; omega)))
            have v25_0 : π25 (p + 13) = b.uP := (hc25.2.1 (p + 13) (by first | omega | (dsimp only; omega))).trans v24_0
            have v25_1 : π25 (p + 15) = b.uP.der := (hc25.2.1 (p + 15) (by first | omega | (dsimp only; omega))).trans v24_1
            have v25_2 : π25 ((p + 26 + 5 * (i + 1 + 2).toNat) + 1) = (igQ b (fnJ b f) (i + 1)).1 := (hc25.2.1 ((p + 26 + 5 * (i + 1 + 2).toNat) + 1) (by first | omega | (dsimp only; omega))).trans v24_2
            have v25_3 : π25 ((p + 26 + 5 * (i + 1 + 2).toNat) + 3) = (igQ b (fnJ b f) (i + 1)).2 := (hc25.2.1 ((p + 26 + 5 * (i + 1 + 2).toNat) + 3) (by first | omega | (dsimp only; omega))).trans v24_3
            have v25_6 : π25 (p + 23) = PS.zero := (hc25.2.1 (p + 23) (by first | omega | (dsimp only; omega))).trans v24_6
            have v25_7 : π25 (p + 3 + 1) = (dfS (igQ b (fnJ b f) (i + 1)) b.uP b.uP.der i).1 := (hc25.2.1 (p + 3 + 1) (by first | omega | (dsimp only; omega))).trans g24_0
            have v25_8 : π25 (p + 3 + 3) = (dfS (igQ b (fnJ b f) (i + 1)) b.uP b.uP.der i).2 := (hc25.2.1 (p + 3 + 3) (by first | omega | (dsimp only; omega))).trans g24_1
            have g25_0 : π25 (p + 8 + 1) = (clT b f i).1 := he25_0.trans (by rw [v24_4, v24_5, g24_0, g24_1]; unfold clT; rw [if_pos (by omega)]; unfold fpl; rw [PS.am0]; rfl)
            have g25_1 : π25 (p + 8 + 3) = (clT b f i).2 := he25_1.trans (by rw [v24_4, v24_5, g24_0, g24_1]; unfold clT; rw [if_pos (by omega)]; unfold fpl; rw [PS.am0]; rfl)
            refine v_aload hx DX4_compute_113 1 rfl ?_
            refine v_get hx DX4_compute_114 FLRX4_69 hP.1 (v := .ref σ) rfl ?_
            refine v_aload hx DX4_compute_117 1 rfl ?_
            refine v_get hx DX4_compute_118 FLRX4_25 hP.1 (v := .ref (p + 8)) rfl ?_
            refine v_aload hx DX4_compute_121 1 rfl ?_
            refine v_get hx DX4_compute_122 FLRX4_47 hP.1 (v := .ref (p + 23)) rfl ?_
            refine v_aload hx DX4_compute_125 1 rfl ?_
            refine v_iload hx DX4_compute_126 0 rfl ?_
            refine v_cVr hx DX4_compute_127 CVRX4_124 [iv i] (c_piece (i := i) l G Λ sz μ25 hP (by omega)) hP.1 rfl rfl (Nat.le_of_ble_eq_true rfl) (by decide) ⟨Nat.le_refl _, Nat.le_refl _⟩ (fun z27 μ26 hμ26 => ?_)
            obtain ⟨ea, em⟩ := hμ26
            rw [ea, em]
            refine v_aload hx DX4_compute_130 1 rfl ?_
            refine v_iload hx DX4_compute_131 0 rfl ?_
            refine v_cVr hx DX4_compute_132 CVRX4_144 [iv i] (c_rest (i := i) l G Λ sz μ25 hP (by omega)) hP.1 rfl rfl (Nat.le_of_ble_eq_true rfl) (by decide) ⟨Nat.le_refl _, Nat.le_refl _⟩ (fun z29 μ28 hμ28 => ?_)
            obtain ⟨ea, em⟩ := hμ28
            rw [ea, em]
            refine v_cVv hx DX4_compute_135 CVRX4_147 [.ref (p + 8), .ref (p + 23), .ref (p + 26 + 5 * (i + 2).toNat), .ref (p + 56 + 5 * (i + 2).toNat)] (q_runA (N := (clT b f i).1) (D := (clT b f i).2) (W := clW b i) l G Λ sz μ25 hA25 hI hK hS hP.2.2.2.2.2.1.2.2.2.2.2 hFq hFr hP.2.2.2.2.1.2 (by omega) ((v25_6).trans (by unfold clW; rw [if_pos (by omega)])) (g25_0) (g25_1) rn.1 rn.2.1 rn.2.2.1 rn.2.2.2) hS.1 rfl rfl (Nat.le_of_ble_eq_true rfl) (by decide) ⟨Nat.le_refl _, Nat.le_refl _⟩ (fun μ30 hμ30 => ?_)
            obtain ⟨π30, hc30, he30_0, he30_1, he30_2, he30_3⟩ := hμ30
            have hA30 := hc30.1
            have hch30 := hch25.trans (hc30.mono (fun c hc => by first | omega | (dsimp only at hc ⊢; omega)))
            have v30_0 : π30 (p + 13) = b.uP := (hc30.2.1 (p + 13) (by first | omega | (dsimp only; omega))).trans v25_0
            have v30_1 : π30 (p + 15) = b.uP.der := (hc30.2.1 (p + 15) (by first | omega | (dsimp only; omega))).trans v25_1
            have v30_2 : π30 ((p + 26 + 5 * (i + 1 + 2).toNat) + 1) = (igQ b (fnJ b f) (i + 1)).1 := (hc30.2.1 ((p + 26 + 5 * (i + 1 + 2).toNat) + 1) (by first | omega | (dsimp only; omega))).trans v25_2
            have v30_3 : π30 ((p + 26 + 5 * (i + 1 + 2).toNat) + 3) = (igQ b (fnJ b f) (i + 1)).2 := (hc30.2.1 ((p + 26 + 5 * (i + 1 + 2).toNat) + 3) (by first | omega | (dsimp only; omega))).trans v25_3
            have v30_4 : π30 (p + 23) = PS.zero := (hc30.2.1 (p + 23) (by first | omega | (dsimp only; omega))).trans v25_6
            have v30_5 : π30 (p + 3 + 1) = (dfS (igQ b (fnJ b f) (i + 1)) b.uP b.uP.der i).1 := (hc30.2.1 (p + 3 + 1) (by first | omega | (dsimp only; omega))).trans v25_7
            have v30_6 : π30 (p + 3 + 3) = (dfS (igQ b (fnJ b f) (i + 1)) b.uP b.uP.der i).2 := (hc30.2.1 (p + 3 + 3) (by first | omega | (dsimp only; omega))).trans v25_8
            have v30_7 : π30 (p + 8 + 1) = (clT b f i).1 := (hc30.2.1 (p + 8 + 1) (by first | omega | (dsimp only; omega))).trans g25_0
            have v30_8 : π30 (p + 8 + 3) = (clT b f i).2 := (hc30.2.1 (p + 8 + 3) (by first | omega | (dsimp only; omega))).trans g25_1
            have g30_0 : π30 ((p + 26 + 5 * (i + 2).toNat) + 1) = (igQ b (fnJ b f) i).1 := he30_0.trans (congrArg (fun z => z.1.1) stp)
            have g30_1 : π30 ((p + 26 + 5 * (i + 2).toNat) + 3) = (igQ b (fnJ b f) i).2 := he30_1.trans (congrArg (fun z => z.1.2) stp)
            have g30_2 : π30 ((p + 56 + 5 * (i + 2).toNat) + 1) = (igR b (fnJ b f) i).1 := he30_2.trans (congrArg (fun z => z.2.1) stp)
            have g30_3 : π30 ((p + 56 + 5 * (i + 2).toNat) + 3) = (igR b (fnJ b f) i).2 := he30_3.trans (congrArg (fun z => z.2.2) stp)
            have fr : ∀ a : Nat, ((p + 26 + 5 * (i + 2).toNat + 3 < a ∧ a < p + 56) ∨ (p + 56 + 5 * (i + 2).toNat + 3 < a ∧ a < p + 82)) → π30 a = πk a := fun a ha => ((hc30.2.1 a (by first | omega | (dsimp only; omega))).trans ((hc25.2.1 a (by first | omega | (dsimp only; omega))).trans ((hc24.2.1 a (by first | omega | (dsimp only; omega))).trans ((ho16 a (by omega)).trans ((ho9 a (by omega)).trans ((ho6 a (by omega)).trans (hc5.2.1 a (by first | omega | (dsimp only; omega)))))))))
            refine v_iinc hx DX4_compute_138 0 rfl [(3, iv (i + (-1))), (0, .ref p), (1, .ref β), (2, iv f)] rfl (by decide) ?_
            refine v_goto hx DX4_compute_141 ?_
            exact v_sub [0, 1, 2, 3] _ rfl (ih (i + (-1)) μ30 w π30 (by omega) hch30 v30_0 v30_1 (by omega) hw13 (fun j h0 h1 => Classical.byCases (fun q : j = i => q ▸ ⟨g30_0, g30_1⟩) (fun q => ⟨(fr _ (by omega)).trans (hQ j (by omega) h1).1, (fr _ (by omega)).trans (hQ j (by omega) h1).2⟩)) (fun j h0 h1 => Classical.byCases (fun q : j = i => q ▸ ⟨g30_2, g30_3⟩) (fun q => ⟨(fr _ (by omega)).trans (hR j (by omega) h1).1, (fr _ (by omega)).trans (hR j (by omega) h1).2⟩)))
  refine v_aload hx DX4_compute_0 0 rfl ?_
  refine v_aload hx DX4_compute_1 1 rfl ?_
  refine v_cVv hx DX4_compute_2 CVRX4_120 [.ref β] (c_prepare l G Λ sz μ hA hP hB hb (by omega)) hP.1 rfl rfl (Nat.le_of_ble_eq_true rfl) (by decide) ⟨Nat.le_refl _, Nat.le_refl _⟩ (fun μ31 hμ31 => ?_)
  obtain ⟨πa, ca, ua, sa⟩ := hμ31
  have hAa := ca.1
  have hcha : ChgX Λ (fun c => (p + 2 < c ∧ c < p + 82) ∨ (σ < c ∧ c < σ + 17) ∨ (κ < c ∧ c < κ + 17)) p (rw1 (μ.1 p) 13 b.2.2.1) μ μ31 π πa := ChgX.of hoff (ca.mono (fun c hc => by first | omega | (dsimp only at hc ⊢; omega)))
  refine v_aload hx DX4_compute_5 0 rfl ?_
  refine v_push hx DX4_compute_6 ?_
  refine v_cVr hx DX4_compute_7 CVRX4_124 [iv 3] (c_piece (i := 3) l G Λ sz μ31 hP (by omega)) hP.1 rfl rfl (Nat.le_of_ble_eq_true rfl) (by decide) ⟨Nat.le_refl _, Nat.le_refl _⟩ (fun z34 μ33 hμ33 => ?_)
  obtain ⟨ea, em⟩ := hμ33
  have ea : z34 = p + 51 := ea
  rw [ea, em]
  refine v_push hx DX4_compute_10 ?_
  refine v_cVv hx DX4_compute_11 CVRX4_128 [iv 0] (q_fset (v := 0) l G Λ sz μ31 hAa hF5 (by omega)) hF5.1 rfl rfl (Nat.le_of_ble_eq_true rfl) (by decide) ⟨Nat.le_refl _, Nat.le_refl _⟩ (fun μ35 hμ35 => ?_)
  obtain ⟨π35, hc35, he35_0, he35_1⟩ := hμ35
  have hA35 := hc35.1
  have hch35 := hcha.trans (hc35.mono (fun c hc => by first | omega | (dsimp only at hc ⊢; omega)))
  have v35_0 : π35 (p + 13) = b.uP := (hc35.2.1 (p + 13) (by first | omega | (dsimp only; omega))).trans ua
  have v35_1 : π35 (p + 15) = b.uP.der := (hc35.2.1 (p + 15) (by first | omega | (dsimp only; omega))).trans sa
  have g35_0 : π35 ((p + 51) + 1) = PS.zero := he35_0.trans (by rw [fi_0, ← PS.zero_eq])
  refine v_push hx DX4_compute_14 ?_
  refine v_istore hx DX4_compute_15 [(3, iv 2), (0, .ref p), (1, .ref β), (2, iv f)] rfl (by decide) ?_
  exact v_sub [0, 1, 2, 3] _ rfl (L16 10 2 μ35 (rw1 (μ.1 p) 13 b.2.2.1) π35 (by omega) hch35 v35_0 v35_1 (by omega) rfl (fun j h0 h1 => by (have e3 : j = 3 := by omega); subst e3; exact ⟨g35_0, he35_1⟩) (fun j h0 h1 => absurd h1 (by omega)))
