/-! ===== the reference: worked ===== -/
theorem fl_sp {T : List Int} {n : Nat} {k w d er ex : Int} {a : FP2} {SA PA : Int → Int} {SV PV : Int → FP2} (hk : k < T.length) (h : flt T (n + 1) k w d = -1) (c : chT T k = 32) : flt T n (k + 1) w d = -1 ∧ run T (n + 1) k w d er a ex SA PA SV PV = run T n (k + 1) w d er a ex SA PA SV PV := by
  rw [flt, if_neg (by omega), if_pos c] at h
  exact ⟨h, by rw [run, if_neg (by omega), if_pos c]⟩
theorem fl_hat {T : List Int} {n : Nat} {k w d er ex : Int} {a : FP2} {SA PA : Int → Int} {SV PV : Int → FP2} (h0 : 0 ≤ k) (hk : k < T.length) (h : flt T (n + 1) k w d = -1) (c : chT T k = 94) : w = 1 ∧ flt T n (k + 1) 2 d = -1 ∧ run T (n + 1) k w d er a ex SA PA SV PV = run T n (k + 1) 2 d er a (-2) SA PA SV PV := by
  rw [flt, if_neg (by omega), if_neg (by omega)] at h
  by_cases w0 : w = 0
  · rw [if_pos w0, if_neg (by omega), if_neg (by omega)] at h; omega
  · rw [if_neg w0] at h
    by_cases w2 : w = 2
    · rw [if_pos w2, if_neg (by omega)] at h; omega
    · rw [if_neg w2] at h
      by_cases w1 : w = 1
      · rw [if_pos ⟨c, w1⟩] at h
        exact ⟨w1, h, by rw [run, if_neg (by omega), if_neg (by omega), if_neg w0, if_neg w2, if_pos c]⟩
      · rw [if_neg (by omega), if_neg (by omega), if_neg (by omega)] at h; omega
theorem fl_fig {T : List Int} {n : Nat} {k d er ex : Int} {a : FP2} {SA PA : Int → Int} {SV PV : Int → FP2} (h0 : 0 ≤ k) (hk : k < T.length) (h : flt T (n + 1) k 2 d = -1) (c : chT T k ≠ 32) : (48 ≤ chT T k ∧ chT T k ≤ 56) ∧ flt T n (k + 1) 3 d = -1 ∧ run T (n + 1) k 2 d er a ex SA PA SV PV = run T n (k + 1) 3 d er a (chT T k - 48) SA PA SV PV := by
  rw [flt, if_neg (by omega), if_neg c, if_neg (by decide), if_pos rfl] at h
  by_cases q : 48 ≤ chT T k ∧ chT T k ≤ 56
  · rw [if_pos q] at h
    exact ⟨q, h, by rw [run, if_neg (by omega), if_neg c, if_neg (by decide), if_pos rfl]⟩
  · rw [if_neg q] at h; omega
theorem fl_x {T : List Int} {n : Nat} {k w d er ex : Int} {a : FP2} {SA PA : Int → Int} {SV PV : Int → FP2} (h0 : 0 ≤ k) (hk : k < T.length) (h : flt T (n + 1) k w d = -1) (c : chT T k = 120) : w = 0 ∧ flt T n (k + 1) 1 d = -1 ∧ run T (n + 1) k w d er a ex SA PA SV PV = run T n (k + 1) 1 d er xF (-1) SA PA SV PV := by
  rw [flt, if_neg (by omega), if_neg (by omega)] at h
  by_cases w0 : w = 0
  · have x0 : exd T k = 0 := by unfold exd; rw [if0 (fun q => by have := (isFg_ch ⟨h0, hk⟩).mp q.1; omega)]
    rw [if_pos w0, if_neg (by omega), if_pos (Or.inr c), x0, show k + 0 + 1 = k + 1 by omega] at h
    exact ⟨w0, h, by rw [run, if_neg (by omega), if_neg (by omega), if_pos w0, if_neg (by omega), if_pos c]⟩
  · rw [if_neg w0] at h
    by_cases w2 : w = 2
    · rw [if_pos w2, if_neg (by omega)] at h; omega
    · rw [if_neg w2, if_neg (by omega), if_neg (by omega), if_neg (by omega)] at h; omega
theorem fl_num {T : List Int} {n : Nat} {k w d er ex : Int} {a : FP2} {SA PA : Int → Int} {SV PV : Int → FP2} (h0 : 0 ≤ k) (hk : k < T.length) (hn : (T.length : Int) < k + (n + 1 : Nat)) (w2 : w ≠ 2) (h : flt T (n + 1) k w d = -1) (c : isFg T k) : w = 0 ∧ flt T n (k + exd T k + 1) 1 d = -1 ∧ run T (n + 1) k w d er a ex SA PA SV PV = run T n (k + exd T k + 1) 1 d er (nF (nmv T k)) (-1) SA PA SV PV ∧ ¬ isFg T (k + exd T k + 1) := by
  have cc := (isFg_ch ⟨h0, hk⟩).mp c
  rw [flt, if_neg (by omega), if_neg (by omega)] at h
  by_cases w0 : w = 0
  · rw [if_pos w0, if_neg (by omega), if_pos (Or.inl cc)] at h
    refine ⟨w0, h, by rw [run, if_neg (by omega), if_neg (by omega), if_pos w0, if_neg (by omega), if_neg (by omega)], fun q => ?_⟩
    have xl := exd_lt hk
    have q2 := q.2.1
    obtain ⟨m, rfl⟩ : ∃ m, n = m + 1 := ⟨n - 1, by omega⟩
    have q3 : 48 ≤ chT T (k + exd T k + 1) ∧ chT T (k + exd T k + 1) ≤ 57 := q.2.2
    by_cases e2 : exd T k = 2
    · rw [flt, if_neg (by omega), if_neg (by omega), if_neg (by decide), if_neg (by decide), if_neg (by omega), if_neg (by omega), if_neg (by omega)] at h
      have := exd_rng T k; omega
    · unfold exd at q e2
      by_cases g1 : isFg T (k + 1)
      · by_cases g2 : isFg T (k + 2)
        · rw [if1 ⟨c, g1⟩, if1 g2] at e2; exact e2 rfl
        · rw [if1 ⟨c, g1⟩, if0 g2, show k + 1 + 1 = k + 2 by omega] at q; exact g2 q
      · rw [if0 (fun z => g1 z.2), show k + 0 + 1 = k + 1 by omega] at q; exact g1 q
  · rw [if_neg w0, if_neg w2, if_neg (by omega), if_neg (by omega), if_neg (by omega)] at h; omega
theorem fl_open {T : List Int} {n : Nat} {k w d er ex : Int} {a : FP2} {SA PA : Int → Int} {SV PV : Int → FP2} (h0 : 0 ≤ k) (hk : k < T.length) (h : flt T (n + 1) k w d = -1) (c : chT T k = 40) : w = 0 ∧ d < 6 ∧ flt T n (k + 1) 0 (d + 1) = -1 ∧ run T (n + 1) k w d er a ex SA PA SV PV = run T n (k + 1) 0 (d + 1) er a ex (up1 SA (d + 1) 0) (up1 PA (d + 1) 0) SV PV := by
  rw [flt, if_neg (by omega), if_neg (by omega)] at h
  by_cases w0 : w = 0
  · by_cases d6 : d < 6
    · rw [if_pos w0, if_pos ⟨c, d6⟩] at h
      exact ⟨w0, d6, h, by rw [run, if_neg (by omega), if_neg (by omega), if_pos w0, if_pos c]⟩
    · rw [if_pos w0, if_neg (by omega), if_neg (by omega)] at h; omega
  · rw [if_neg w0] at h
    by_cases w2 : w = 2
    · rw [if_pos w2, if_neg (by omega)] at h; omega
    · rw [if_neg w2, if_neg (by omega), if_neg (by omega), if_neg (by omega)] at h; omega
theorem fl_act {T : List Int} {n : Nat} {k w d : Int} (h0 : 0 ≤ k) (hk : k < T.length) (h : flt T (n + 1) k w d = -1) (w2 : w ≠ 2) (c1 : chT T k ≠ 32) (c2 : chT T k ≠ 94) (c3 : chT T k ≠ 120) (c4 : ¬ isFg T k) (c5 : chT T k ≠ 40) : w ≠ 0 ∧ ((chT T k = 41 ∧ 0 < d ∧ flt T n (k + 1) 1 (d - 1) = -1) ∨ (isop (chT T k) ∧ flt T n (k + 1) 0 d = -1)) := by
  have cc : ¬ (48 ≤ chT T k ∧ chT T k ≤ 57) := fun q => c4 ((isFg_ch ⟨h0, hk⟩).mpr q)
  rw [flt, if_neg (by omega), if_neg c1] at h
  by_cases w0 : w = 0
  · rw [if_pos w0, if_neg (by omega), if_neg (by omega)] at h; omega
  · rw [if_neg w0, if_neg w2, if_neg (by omega)] at h
    refine ⟨w0, ?_⟩
    by_cases p : chT T k = 41 ∧ 0 < d
    · rw [if_pos p] at h; exact Or.inl ⟨p.1, p.2, h⟩
    · rw [if_neg p] at h
      by_cases s : chT T k = 43 ∨ chT T k = 45 ∨ chT T k = 42 ∨ chT T k = 47
      · rw [if_pos s] at h; exact Or.inr ⟨by unfold isop; omega, h⟩
      · rw [if_neg s] at h; omega
theorem fl_end {T : List Int} {n : Nat} {k w d : Int} (hk : (T.length : Int) ≤ k) (h : flt T (n + 1) k w d = -1) : ¬ (0 < d ∨ w = 0 ∨ w = 2) := fun q => by
  rw [flt, if_pos hk, if_pos q] at h; omega
def WKI (μ m : Mem) (ν : Nat) (ρ σ : Nat → PS) (wn d : Int) (a : FP2) (SA PA : Int → Int) (SV PV : Int → FP2) : Prop := RW m ν σ ∧ (wn ≠ 0 → RFI σ 56 a ∧ FOK a 7 5) ∧ (∀ j : Int, 0 ≤ j → j ≤ d → (m.1 (ν + 13) j = SA j ∧ m.1 (ν + 14) j = PA j) ∧ (SA j ≠ 0 → RFI σ (42 + j) (SV j) ∧ FOK (SV j) 7 5) ∧ (PA j ≠ 0 → RFI σ (49 + j) (PV j) ∧ FOK (PV j) 7 5)) ∧ AOK d SA PA ∧ (∀ r : Nat, r < 84 → σ r = ρ r) ∧ Fr [ν + 1, ν + 2, ν + 13, ν + 14] μ m
def exw (w ex : Int) : Prop := (w = 0 ∧ ex = -1) ∨ (w = 1 ∧ ex = -1) ∨ (w = 2 ∧ ex = -2) ∨ (w = 3 ∧ 0 ≤ ex ∧ ex ≤ 8)
theorem WKI.wn {μ m : Mem} {ν : Nat} {ρ σ : Nat → PS} {w w' d : Int} {a : FP2} {SA PA : Int → Int} {SV PV : Int → FP2} (h : WKI μ m ν ρ σ w d a SA PA SV PV) (hw : w ≠ 0) : WKI μ m ν ρ σ w' d a SA PA SV PV := ⟨h.1, fun _ => h.2.1 hw, h.2.2⟩
theorem WKI.at_ {μ m m' : Mem} {ν : Nat} {ρ σ σ' : Nat → PS} {w w' d : Int} {a a' : FP2} {SA PA : Int → Int} {SV PV : Int → FP2} (h : WKI μ m ν ρ σ w d a SA PA SV PV) (hd : d ≤ 6) (hw : RW m' ν σ') (x : RFI σ' 56 a') (fa : FOK a' 7 5) (k : ∀ r : Nat, r < 140 → r ≠ 112 → r ≠ 113 → σ' r = σ r) (f : Fr [ν + 1] m m') : WKI μ m' ν ρ σ' w' d a' SA PA SV PV :=
  ⟨hw, fun _ => ⟨x, fa⟩, fun j h0 h1 => by
    have q := h.2.2.1 j h0 h1
    refine ⟨⟨(congrFun (f.1 _ (by simp)) j).trans q.1.1, (congrFun (f.1 _ (by simp)) j).trans q.1.2⟩, fun z => ⟨⟨(k _ (by omega) (by omega) (by omega)).trans (q.2.1 z).1.1, (k _ (by omega) (by omega) (by omega)).trans (q.2.1 z).1.2⟩, (q.2.1 z).2⟩, fun z => ⟨⟨(k _ (by omega) (by omega) (by omega)).trans (q.2.2 z).1.1, (k _ (by omega) (by omega) (by omega)).trans (q.2.2 z).1.2⟩, (q.2.2 z).2⟩⟩, h.2.2.2.1, fun r hr => (k r (by omega) (by omega) (by omega)).trans (h.2.2.2.2.1 r hr), h.2.2.2.2.2.trans (f.mono (by simp))⟩
theorem WKI.opn {μ m : Mem} {ν : Nat} {ρ σ : Nat → PS} {d : Int} {a : FP2} {SA PA : Int → Int} {SV PV : Int → FP2} (h : WKI μ m ν ρ σ 0 d a SA PA SV PV) : WKI μ (mI (mI m (ν + 13) (d + 1) 0) (ν + 14) (d + 1) 0) ν ρ σ 0 (d + 1) a (up1 SA (d + 1) 0) (up1 PA (d + 1) 0) SV PV :=
  ⟨h.1.fr (by rw [mI_ne (by omega), mI_ne (by omega)]), fun q => absurd rfl q, fun j h0 h1 => by
    rw [mI_ne (a := ν + 14) (by omega), mI_at, mI_at, mI_ne (by omega)]
    by_cases c : j = d + 1
    · rw [if_pos c, if_pos c, c, up1_eq, up1_eq]
      exact ⟨⟨rfl, rfl⟩, fun q => absurd rfl q, fun q => absurd rfl q⟩
    · rw [if_neg c, if_neg c, up1_ne c, up1_ne c]
      exact h.2.2.1 j h0 (by omega), fun j h0 h1 => by
    by_cases c : j = d + 1
    · rw [c, up1_eq, up1_eq]; exact ⟨Or.inl rfl, Or.inl rfl⟩
    · rw [up1_ne c, up1_ne c]; exact h.2.2.2.1 j h0 (by omega), h.2.2.2.2.1, (h.2.2.2.2.2.trans (Fr.mI (by simp))).trans (Fr.mI (by simp))⟩
/-- what the power and the product gave -/
def PWD (m m' : Mem) (ν : Nat) (σ σ' : Nat → PS) (d : Int) (p : FP2) (e : Int) : Prop := RW m' ν σ' ∧ (∀ r : Nat, r < 84 → σ' r = σ r) ∧ Fr [ν + 1, ν + 2, ν + 14] m m' ∧ (e = 0 → RFI σ' (49 + d) p ∧ FOK p 7 5 ∧ (∀ r : Nat, r < 140 → r ≠ 2 * (49 + d).toNat → r ≠ 2 * (49 + d).toNat + 1 → r ≠ 114 → r ≠ 115 → σ' r = σ r) ∧ (∀ j : Int, m'.1 (ν + 14) j = if j = d then 0 else m.1 (ν + 14) j))
theorem pw_fin {μ m m' : Mem} {ν : Nat} {ρ σ σ' : Nat → PS} {w d ex z : Int} {a : FP2} {SA PA : Int → Int} {SV PV : Int → FP2} (h : WKI μ m ν ρ σ w d a SA PA SV PV) (hw : w ≠ 0) (hd : 0 ≤ d ∧ d ≤ 6)
    (q : RW m' ν σ' ∧ ((z = -3 ∧ 0 ≤ ex ∧ ¬ pwOK a ex.toNat ∧ (∀ r : Nat, r < 140 → r ≠ 114 → r ≠ 115 → σ' r = σ r) ∧ Fr [ν + 1, ν + 2] m m') ∨ ((ex < 0 ∨ pwOK a ex.toNat) ∧ z = opA (PA d) (PV d) (powR a ex) ∧ (z = 0 → RFI σ' (49 + d) (opR (PA d) (PV d) (powR a ex))) ∧ (∀ r : Nat, r < 140 → r ≠ 2 * (49 + d).toNat → r ≠ 2 * (49 + d).toNat + 1 → r ≠ 114 → r ≠ 115 → σ' r = σ r) ∧ (∀ j : Int, m'.1 (ν + 14) j = if j = d then 0 else m.1 (ν + 14) j) ∧ Fr [ν + 1, ν + 2, ν + 14] m m'))) :
    z = pwE 0 a ex (PA d) (PV d) ∧ PWD m m' ν σ σ' d (opR (PA d) (PV d) (powR a ex)) z := by
  unfold pwE
  rw [if_neg (by decide)]
  rcases q.2 with ⟨e1, e2, e3, e4, e5⟩ | ⟨e1, e2, e3, e4, e5, e6⟩
  · rw [if1 ⟨e2, e3⟩]
    exact ⟨e1, q.1, fun r hr => e4 r (by omega) (by omega) (by omega), e5.mono (by simp), fun t => absurd t (by omega)⟩
  · rw [if0 (fun t => e1.elim (fun s => absurd t.1 (by omega)) t.2)]
    refine ⟨e2, q.1, fun r hr => e4 r (by omega) (by omega) (by omega) (by omega) (by omega), e6, fun t => ⟨e3 t, ?_, e4, e5⟩⟩
    rw [e2] at t
    exact opR_ok (fun s => ((h.2.2.1 d hd.1 (Int.le_refl d)).2.2 s).2) (powR_ok (h.2.1 hw).2 e1) t
/-- an act of rank two -/
theorem WKI.part {μ m m1 : Mem} {ν : Nat} {ρ σ σ1 : Nat → PS} {w d c : Int} {a p : FP2} {SA PA : Int → Int} {SV PV : Int → FP2} (h : WKI μ m ν ρ σ w d a SA PA SV PV) (hd : 0 ≤ d ∧ d ≤ 6) (q : PWD m m1 ν σ σ1 d p 0) (hc : c = 42 ∨ c = 47) : WKI μ (mI m1 (ν + 14) d c) ν ρ σ1 0 d a SA (up1 PA d c) SV (upF PV d p) := by
  obtain ⟨q1, q2, q3, q4⟩ := q
  obtain ⟨x, fp, k, pa⟩ := q4 rfl
  refine ⟨q1.fr (by rw [mI_ne (by omega)]), fun t => absurd rfl t, fun j h0 h1 => ?_, fun j h0 h1 => ?_, fun r hr => (q2 r hr).trans (h.2.2.2.2.1 r hr), (h.2.2.2.2.2.trans (q3.mono (by simp))).trans (Fr.mI (by simp))⟩
  · have g := h.2.2.1 j h0 h1
    rw [mI_ne (a := ν + 14) (by omega), mI_at, pa, q3.1 _ (by simp)]
    refine ⟨⟨g.1.1, ?_⟩, fun t => ⟨⟨(k _ (by omega) (by omega) (by omega) (by omega) (by omega)).trans (g.2.1 t).1.1, (k _ (by omega) (by omega) (by omega) (by omega) (by omega)).trans (g.2.1 t).1.2⟩, (g.2.1 t).2⟩, fun t => ?_⟩
    · by_cases cj : j = d
      · rw [if_pos cj, cj, up1_eq]
      · rw [if_neg cj, if_neg cj, up1_ne cj]; exact g.1.2
    · by_cases cj : j = d
      · rw [cj, upF_eq]; exact ⟨x, fp⟩
      · rw [up1_ne cj] at t
        rw [upF_ne cj]
        exact ⟨⟨(k _ (by omega) (by omega) (by omega) (by omega) (by omega)).trans (g.2.2 t).1.1, (k _ (by omega) (by omega) (by omega) (by omega) (by omega)).trans (g.2.2 t).1.2⟩, (g.2.2 t).2⟩
  · by_cases cj : j = d
    · rw [cj, up1_eq]; exact ⟨(h.2.2.2.1 d hd.1 (Int.le_refl d)).1, by omega⟩
    · rw [up1_ne cj]; exact h.2.2.2.1 j h0 h1
/-- what the sum gave, and the act that waits then -/
theorem WKI.sum {μ m m1 m2 : Mem} {ν : Nat} {ρ σ σ1 σ2 : Nat → PS} {w d c : Int} {a p : FP2} {SA PA : Int → Int} {SV PV : Int → FP2} (h : WKI μ m ν ρ σ w d a SA PA SV PV) (hd : 0 ≤ d ∧ d ≤ 6) (q : PWD m m1 ν σ σ1 d p 0) (w2 : RW m2 ν σ2) (x2 : RFI σ2 (42 + d) (opR (SA d) (SV d) p)) (z2 : opA (SA d) (SV d) p = 0) (k2 : ∀ r : Nat, r < 140 → r ≠ 2 * (42 + d).toNat → r ≠ 2 * (42 + d).toNat + 1 → σ2 r = σ1 r) (f2 : Fr [ν + 1, ν + 2] m1 m2) (hc : c = 0 ∨ c = 43 ∨ c = 45) :
    WKI μ (mI m2 (ν + 13) d c) ν ρ σ2 0 d a (up1 SA d c) (up1 PA d 0) (upF SV d (opR (SA d) (SV d) p)) (upF PV d p) ∧ FOK (opR (SA d) (SV d) p) 7 5 := by
  obtain ⟨q1, q2, q3, q4⟩ := q
  obtain ⟨x, fp, k, pa⟩ := q4 rfl
  have fs : FOK (opR (SA d) (SV d) p) 7 5 := opR_ok (fun s => ((h.2.2.1 d hd.1 (Int.le_refl d)).2.1 s).2) fp z2
  refine ⟨⟨w2.fr (by rw [mI_ne (by omega)]), fun t => absurd rfl t, fun j h0 h1 => ?_, fun j h0 h1 => ?_, fun r hr => ((k2 r (by omega) (by omega) (by omega)).trans (q2 r hr)).trans (h.2.2.2.2.1 r hr), ((h.2.2.2.2.2.trans (q3.mono (by simp))).trans (f2.mono (by simp))).trans (Fr.mI (by simp))⟩, fs⟩
  · have g := h.2.2.1 j h0 h1
    rw [mI_at, mI_ne (a := ν + 13) (by omega), f2.1 _ (by simp), f2.1 _ (by simp), pa, q3.1 _ (by simp)]
    by_cases cj : j = d
    · rw [if_pos cj, if_pos cj, cj, up1_eq, up1_eq, upF_eq, upF_eq]
      exact ⟨⟨rfl, rfl⟩, fun t => ⟨x2, fs⟩, fun t => absurd rfl t⟩
    · rw [if_neg cj, if_neg cj, up1_ne cj, up1_ne cj, upF_ne cj, upF_ne cj]
      have kk : ∀ r : Nat, r < 140 → r ≠ 2 * (42 + d).toNat → r ≠ 2 * (42 + d).toNat + 1 → r ≠ 2 * (49 + d).toNat → r ≠ 2 * (49 + d).toNat + 1 → r ≠ 114 → r ≠ 115 → σ2 r = σ r := fun r g0 g1 g2 g3 g4 g5 g6 => (k2 r g0 g1 g2).trans (k r g0 g3 g4 g5 g6)
      exact ⟨g.1, fun t => ⟨⟨(kk _ (by omega) (by omega) (by omega) (by omega) (by omega) (by omega) (by omega)).trans (g.2.1 t).1.1, (kk _ (by omega) (by omega) (by omega) (by omega) (by omega) (by omega) (by omega)).trans (g.2.1 t).1.2⟩, (g.2.1 t).2⟩, fun t => ⟨⟨(kk _ (by omega) (by omega) (by omega) (by omega) (by omega) (by omega) (by omega)).trans (g.2.2 t).1.1, (kk _ (by omega) (by omega) (by omega) (by omega) (by omega) (by omega) (by omega)).trans (g.2.2 t).1.2⟩, (g.2.2 t).2⟩⟩
  · by_cases cj : j = d
    · rw [cj, up1_eq, up1_eq]; exact ⟨hc, Or.inl rfl⟩
    · rw [up1_ne cj, up1_ne cj]; exact h.2.2.2.1 j h0 h1
theorem WKI.down {μ m : Mem} {ν : Nat} {ρ σ : Nat → PS} {w d : Int} {a : FP2} {SA PA : Int → Int} {SV PV : Int → FP2} (h : WKI μ m ν ρ σ w d a SA PA SV PV) : WKI μ m ν ρ σ w (d - 1) a SA PA SV PV := ⟨h.1, h.2.1, fun j h0 h1 => h.2.2.1 j h0 (by omega), fun j h0 h1 => h.2.2.2.1 j h0 (by omega), h.2.2.2.2⟩
noncomputable def rdM (T : List Int) : Int × FP2 := run T 92 0 0 0 0 f00 (-1) (fun _ => 0) (fun _ => 0) (fun _ => f00) (fun _ => f00)
theorem pwE_rng (a : FP2) (ex pa : Int) (pv : FP2) : -3 ≤ pwE 0 a ex pa pv ∧ pwE 0 a ex pa pv ≤ 0 := by
  unfold pwE
  rw [if_neg (by decide)]
  have := opA_rng pa pv (powR a ex)
  split <;> omega
theorem mo1_sz : (PS.mo 1).size = 2 := PS.size_eq ⟨Or.inr (by decide), PS.mo_lt 1⟩
theorem C_lt1 (c : F) : (PS.C c).lt 1 := fun k hk => by show (if k = 0 then c else 0) = 0; rw [if_neg (by omega)]
theorem xF_ok : FOK xF 7 5 := ⟨⟨⟨_, PS.mo_lt 1⟩, PS.fin_one, PS.one_ne, PS.mnc_one, fun P hP _ q => PS.irr_one hP q⟩, by show (PS.mo 1).size ≤ 7; rw [mo1_sz]; omega, by show PS.one.size ≤ 5; rw [PS.one_sz]; omega⟩
theorem nF_ok (v : Int) : FOK (nF v) 7 5 := ⟨⟨⟨_, C_lt1 _⟩, PS.fin_one, PS.one_ne, PS.mnc_one, fun P hP _ q => PS.irr_one hP q⟩, by show (PS.C (fi v)).size ≤ 7; have := PS.size_le (C_lt1 (fi v)); omega, by show PS.one.size ≤ 5; rw [PS.one_sz]; omega⟩
theorem run_P {T : List Int} {n : Nat} {k w d ex : Int} {a : FP2} {SA PA : Int → Int} {SV PV : Int → FP2} (hk : k ≤ T.length) (hn : (T.length : Int) < k + (n + 1 : Nat)) (w0 : w ≠ 0) (w2 : w ≠ 2) (hc : k < T.length → chT T k ≠ 32 ∧ chT T k ≠ 94) (h : pwE 0 a ex (PA d) (PV d) ≠ 0) : (run T (n + 1) k w d 0 a ex SA PA SV PV).1 = pwE 0 a ex (PA d) (PV d) := by
  have es : ∀ sa sv p, smE (pwE 0 a ex (PA d) (PV d)) sa sv p = pwE 0 a ex (PA d) (PV d) := fun sa sv p => if_pos h
  rw [run]
  by_cases c : (T.length : Int) ≤ k
  · rw [if_pos c]; exact es _ _ _
  · have q := hc (by omega)
    rw [if_neg c, if_neg q.1, if_neg w0, if_neg w2, if_neg q.2]
    simp only [es]
    repeat' split
    all_goals exact run_err T _ _ _ _ _ _ _ _ _ _ _ h (by omega) (by omega)
theorem run_Q {T : List Int} {n : Nat} {k w d ex : Int} {a : FP2} {SA PA : Int → Int} {SV PV : Int → FP2} (hk : k ≤ T.length) (hn : (T.length : Int) < k + (n + 1 : Nat)) (w0 : w ≠ 0) (w2 : w ≠ 2) (hc : k < T.length → chT T k ≠ 32 ∧ chT T k ≠ 94 ∧ ¬ (chT T k = 42 ∨ chT T k = 47)) (hp : pwE 0 a ex (PA d) (PV d) = 0) (h : opA (SA d) (SV d) (opR (PA d) (PV d) (powR a ex)) ≠ 0) : (run T (n + 1) k w d 0 a ex SA PA SV PV).1 = opA (SA d) (SV d) (opR (PA d) (PV d) (powR a ex)) := by
  have es : smE (pwE 0 a ex (PA d) (PV d)) (SA d) (SV d) (opR (PA d) (PV d) (powR a ex)) = opA (SA d) (SV d) (opR (PA d) (PV d) (powR a ex)) := by rw [hp]; exact if_neg (by decide)
  rw [run]
  by_cases c : (T.length : Int) ≤ k
  · rw [if_pos c]; exact es
  · have q := hc (by omega)
    rw [if_neg c, if_neg q.1, if_neg w0, if_neg w2, if_neg q.2.1, if_neg q.2.2]
    simp only [es]
    split
    all_goals exact run_err T _ _ _ _ _ _ _ _ _ _ _ h (by omega) (by omega)
theorem rt_fr {μ m : Mem} {ν : Nat} {T : List Int} {S : List Nat} (h : RT μ ν T) (f : Fr S μ m) (h1 : ν ∉ S := by simp) (h2 : ν + 12 ∉ S := by simp) : RT m ν T := ⟨h.1, (congrFun (f.1 ν h1) 25).trans h.2.1, fun i hi => (congrFun (f.1 (ν + 12) h2) (i : Int)).trans (h.2.2.1 i hi), h.2.2.2⟩
theorem wk_start {μ : Mem} {ν : Nat} {ρ : Nat → PS} (hw : RW μ ν ρ) : WKI μ (mI (mI μ (ν + 13) 0 0) (ν + 14) 0 0) ν ρ ρ 0 0 f00 (fun _ => 0) (fun _ => 0) (fun _ => f00) (fun _ => f00) :=
  ⟨hw.fr (by rw [mI_ne (by omega), mI_ne (by omega)]), fun q => absurd rfl q, fun j h0 h1 => by
    rw [mI_ne (a := ν + 14) (by omega), mI_at, mI_at, if_pos (by omega), if_pos (by omega)]
    exact ⟨⟨rfl, rfl⟩, fun q => absurd rfl q, fun q => absurd rfl q⟩, fun j _ _ => ⟨Or.inl rfl, Or.inl rfl⟩, fun _ _ => rfl, (Fr.mI (by simp)).trans (Fr.mI (by simp))⟩
theorem r_worked (l : Launch) (G : Gl) (Λ : Lay) (sz : Nat) (μ : Mem) {ν : Nat} {ρ : Nat → PS} {T : List Int} (hR : refK Λ ν) (hw : RW μ ν ρ) (hT : RT μ ν T) (hfl : fltA T = -1) : Sp l G yX12_worked cX12_worked 8 (some FieldType.int) 8 [.ref ν] Λ sz μ (pI (fun z μ' => z = (rdM T).1 ∧ ∃ σ, RW μ' ν σ ∧ (z = 0 → RFI σ 42 (rdM T).2 ∧ FOK (rdM T).2 7 5) ∧ (∀ r : Nat, r < 84 → σ r = ρ r) ∧ Fr [ν + 1, ν + 2, ν + 13, ν + 14] μ μ')) := by
  refine Sp.intro (by decide) (Nat.le_of_ble_eq_true rfl) (fun x hx hBD => ?_)
  refine v_lv [(0, .ref ν)] rfl ?_
  have h90 := hT.1
  have L23 : ∀ (nf : Nat) (k w d ex ws : Int) (q : Nat) (a : FP2) (SA PA : Int → Int) (SV PV : Int → FP2) (m : Mem) (σ : Nat → PS), ((T.length : Int) + 1 - k < (nf : Int)) → (0 ≤ k ∧ k ≤ (T.length : Int) + 1) → ((w = 0 ∧ ws = 0) ∨ (w ≠ 0 ∧ ws = 1)) → (Fr [ν + 1, ν + 2, ν + 13, ν + 14] μ m) → (k ≤ (T.length : Int) → WKI μ m ν ρ σ w d a SA PA SV PV ∧ exw w ex ∧ (0 ≤ d ∧ d ≤ 6) ∧ (T.length : Int) < k + (q : Nat) ∧ flt T q k w d = -1 ∧ run T q k w d 0 a ex SA PA SV PV = rdM T) → ((T.length : Int) < k → (rdM T).1 = 0 ∧ RW m ν σ ∧ RFI σ 42 (rdM T).2 ∧ FOK (rdM T).2 7 5 ∧ (∀ r : Nat, r < 84 → σ r = ρ r)) → V G x (0, 0) Λ sz m 23 [(4, iv k), (3, iv ws), (2, iv ex), (1, iv d), (0, .ref ν)] [] := by
    intro nf
    induction nf with
    | zero => intro k w d ex ws q a SA PA SV PV m σ hm hk hws hfm h1 h2; exact absurd hm (by omega)
    | succ nf ih =>
      intro k w d ex ws q a SA PA SV PV m σ hm hk hws hfm h1 h2
      refine v_iload hx DX12_worked_23 0 rfl ?_
      refine v_aload hx DX12_worked_25 4 rfl ?_
      refine v_get hx DX12_worked_26 FLRX12_320 hR.o (fv_i rfl ((congrFun (hfm.1 ν (by simp)) 25).trans hT.2.1) : _ = iv (T.length : Int)) ?_
      refine v_icmp_gt hx DX12_worked_29 (by omega) (by omega) (fun c29 => ?_) (fun c29 => ?_)
      · skip
        refine v_push hx DX12_worked_383 ?_
        exact v_ri hx hBD DX12_worked_384 (⟨((h2 (by omega)).1).symm, σ, (h2 (by omega)).2.1, fun _ => ⟨(h2 (by omega)).2.2.1, (h2 (by omega)).2.2.2.1⟩, (h2 (by omega)).2.2.2.2, hfm⟩)
      · skip
        obtain ⟨hI, hex, hd, hq, hfk, hrn⟩ := h1 (by omega)
        obtain ⟨n1, rfl⟩ : ∃ n1, q = n1 + 1 := ⟨q - 1, by omega⟩
        have exr : -2 ≤ ex ∧ ex ≤ 8 := by unfold exw at hex; omega
        refine v_iload hx DX12_worked_32 0 rfl ?_
        refine v_aload hx DX12_worked_34 4 rfl ?_
        refine v_get hx DX12_worked_35 FLRX12_320 hR.o (fv_i rfl ((congrFun (hfm.1 ν (by simp)) 25).trans hT.2.1) : _ = iv (T.length : Int)) ?_
        refine v_icmp_ne hx DX12_worked_38 (by omega) (by omega) (fun c38 => ?_) (fun c38 => ?_)
        · skip
          have hk2 : k < T.length := by omega
          have hcm := hT.2.2.2 _ (ch_mem (T := T) (k := k) (by omega))
          refine v_aload hx DX12_worked_46 4 rfl ?_
          refine v_get hx DX12_worked_47 FLRX12_99 hR.o (v := .ref (ν + 12)) rfl ?_
          refine v_iload hx DX12_worked_50 0 rfl ?_
          refine v_iald hx DX12_worked_52 hR.tape (by omega) (by decide) (z := chT T k) (by have z := hT.2.2.1 k.toNat (by omega); rw [Int.toNat_of_nonneg (by omega)] at z; exact (congrFun (hfm.1 (ν + 12) (by simp)) k).trans z) ?_
          refine v_istore hx DX12_worked_53 [(5, iv (chT T k)), (4, iv k), (3, iv ws), (2, iv ex), (1, iv d), (0, .ref ν)] rfl (by decide) ?_
          refine v_push hx DX12_worked_55 ?_
          refine v_istore hx DX12_worked_56 [(6, iv 0), (5, iv (chT T k)), (4, iv k), (3, iv ws), (2, iv ex), (1, iv d), (0, .ref ν)] rfl (by decide) ?_
          refine v_iload hx DX12_worked_58 1 rfl ?_
          refine v_push hx DX12_worked_60 ?_
          refine v_icmp_ne hx DX12_worked_62 (by omega) (by decide) (fun c62 => ?_) (fun c62 => ?_)
          · skip
            refine v_iload hx DX12_worked_68 1 rfl ?_
            refine v_push hx DX12_worked_70 ?_
            refine v_icmp_ne hx DX12_worked_72 (by omega) (by decide) (fun c72 => ?_) (fun c72 => ?_)
            · skip
              refine v_iload hx DX12_worked_81 4 rfl ?_
              refine v_push hx DX12_worked_82 ?_
              refine v_icmp_ne hx DX12_worked_84 (by omega) (by decide) (fun c84 => ?_) (fun c84 => ?_)
              · skip
                have wn2 : w ≠ 2 := by unfold exw at hex; omega
                refine v_iload hx DX12_worked_96 1 rfl ?_
                refine v_push hx DX12_worked_98 ?_
                refine v_icmp_ne hx DX12_worked_100 (by omega) (by decide) (fun c100 => ?_) (fun c100 => ?_)
                · skip
                  refine v_aload hx DX12_worked_130 6 rfl ?_
                  refine v_iload hx DX12_worked_131 2 rfl ?_
                  refine v_cVp hx DX12_worked_133 CVRX12_323 [iv k] (r_isFigure l G Λ sz m hR (rt_fr hT hfm) (by omega)) hR.o rfl rfl (Nat.le_of_ble_eq_true rfl) (by decide) ⟨Nat.le_refl _, Nat.le_refl _⟩ ?_
                  have br133 := bz_rng (isFg T k)
                  refine v_if_eq hx DX12_worked_136 (by omega) (fun c136 => ?_) (fun c136 => ?_)
                  · skip
                    have d136 := bzf c136
                    have gz1 := d136
                    refine v_iload hx DX12_worked_212 1 rfl ?_
                    refine v_push hx DX12_worked_214 ?_
                    refine v_icmp_ne hx DX12_worked_216 (by omega) (by decide) (fun c216 => ?_) (fun c216 => ?_)
                    · skip
                      have fa := fl_act (by omega) hk2 hfk wn2 (by omega) (by omega) (by omega) d136 (by omega)
                      have w0 := fa.1
                      refine v_iload hx DX12_worked_239 3 rfl ?_
                      refine v_if_eq hx DX12_worked_240 (by omega) (fun c240 => ?_) (fun c240 => ?_)
                      · exact absurd c240 (by omega)
                      · skip
                        refine v_aload hx DX12_worked_243 6 rfl ?_
                        refine v_iload hx DX12_worked_244 5 rfl ?_
                        refine v_iload hx DX12_worked_245 4 rfl ?_
                        refine v_cVi hx DX12_worked_246 CVRX12_333 [iv d, iv ex] (r_powered (lev := d) (e := ex) (pa := PA d) (a := PV d) (c := a) l G Λ sz m hR hI.1 (by omega) (by unfold exw at hex; omega) (by have := (hI.2.2.2.1 d hd.1 (Int.le_refl d)).2; omega) (hI.2.2.1 d hd.1 (Int.le_refl d)).1.2 (fun t => (hI.2.2.1 d hd.1 (Int.le_refl d)).2.2 t) (hI.2.1 w0).1 (hI.2.1 w0).2) hR.o rfl rfl (Nat.le_of_ble_eq_true rfl) (by decide) ⟨Nat.le_refl _, Nat.le_refl _⟩ (fun z4 μ3 hμ3 => ?_)
                        obtain ⟨σ1, hq1⟩ := hμ3
                        obtain ⟨ez, pd⟩ := pw_fin hI w0 hd hq1
                        subst ez
                        have per := pwE_rng a ex (PA d) (PV d)
                        refine v_goto hx DX12_worked_249 ?_
                        refine v_istore hx DX12_worked_253 [(6, iv (pwE 0 a ex (PA d) (PV d))), (5, iv (chT T k)), (4, iv k), (3, iv ws), (2, iv ex), (1, iv d), (0, .ref ν)] rfl (by decide) ?_
                        refine v_push hx DX12_worked_255 ?_
                        refine v_istore hx DX12_worked_256 [(2, iv (-1)), (6, iv (pwE 0 a ex (PA d) (PV d))), (5, iv (chT T k)), (4, iv k), (3, iv ws), (1, iv d), (0, .ref ν)] rfl (by decide) ?_
                        refine v_push hx DX12_worked_257 ?_
                        refine v_istore hx DX12_worked_258 [(3, iv 0), (2, iv (-1)), (6, iv (pwE 0 a ex (PA d) (PV d))), (5, iv (chT T k)), (4, iv k), (1, iv d), (0, .ref ν)] rfl (by decide) ?_
                        refine v_iload hx DX12_worked_259 2 rfl ?_
                        refine v_if_ne hx DX12_worked_261 (by omega) (fun c261 => ?_) (fun c261 => ?_)
                        · skip
                          refine v_iload hx DX12_worked_289 2 rfl ?_
                          refine v_if_ne hx DX12_worked_291 (by omega) (fun c291 => ?_) (fun c291 => ?_)
                          · skip
                            refine v_iload hx DX12_worked_369 2 rfl ?_
                            refine v_if_eq hx DX12_worked_371 (by omega) (fun c371 => ?_) (fun c371 => ?_)
                            · exact absurd c371 (by omega)
                            · skip
                              refine v_iload hx DX12_worked_374 2 rfl ?_
                              exact v_ri hx hBD DX12_worked_376 (⟨by rw [← hrn]; exact (run_P (by omega) hq w0 (by omega) (fun _ => ⟨by omega, by omega⟩) (by omega)).symm, σ1, pd.1, fun t => absurd t (by omega), fun r hr => (pd.2.1 r hr).trans (hI.2.2.2.2.1 r hr), hfm.trans (pd.2.2.1.mono (by simp))⟩)
                          · exact absurd c291 (by omega)
                        · skip
                          have pe0 : pwE 0 a ex (PA d) (PV d) = 0 := by omega
                          refine v_iload hx DX12_worked_264 3 rfl ?_
                          refine v_push hx DX12_worked_266 ?_
                          refine v_icmp_eq hx DX12_worked_268 (by omega) (by decide) (fun c268 => ?_) (fun c268 => ?_)
                          · skip
                            refine v_aload hx DX12_worked_278 6 rfl ?_
                            refine v_get hx DX12_worked_279 FLRX12_105 hR.o (v := .ref (ν + 14)) rfl ?_
                            refine v_iload hx DX12_worked_282 5 rfl ?_
                            refine v_iload hx DX12_worked_283 3 rfl ?_
                            refine v_iastm hx DX12_worked_285 hR.partAct (by omega) (by decide) (fun μ5 eμ5 => ?_)
                            refine v_goto hx DX12_worked_286 ?_
                            refine v_iload hx DX12_worked_369 2 rfl ?_
                            refine v_if_eq hx DX12_worked_371 (by omega) (fun c371 => ?_) (fun c371 => ?_)
                            · skip
                              refine v_iinc hx DX12_worked_377 4 rfl [(4, iv (k + 1)), (3, iv 0), (2, iv (-1)), (6, iv (pwE 0 a ex (PA d) (PV d))), (5, iv (chT T k)), (1, iv d), (0, .ref ν)] rfl (by decide) ?_
                              refine v_goto hx DX12_worked_380 ?_
                              exact v_sub [0, 1, 2, 5, 6] _ rfl (ih (k + 1) 0 d (-1) 0 n1 a SA (up1 PA d (chT T k)) SV (upF PV d (opR (PA d) (PV d) (powR a ex))) μ5 σ1 (by omega) (by omega) (Or.inl ⟨rfl, rfl⟩) ((hfm.trans (pd.2.2.1.mono (by simp))).trans (by rw [eμ5]; exact Fr.mI (by simp))) (fun _ => ⟨by have pd0 := pd; rw [pe0] at pd0; rw [eμ5]; exact hI.part hd pd0 (by omega), Or.inl ⟨rfl, rfl⟩, hd, by omega, by rcases fa.2 with t | t; (· exact absurd t.1 (by omega)); (· exact t.2), by rw [← hrn, run, if_neg (by omega), if_neg (by omega), if_neg w0, if_neg wn2, if_neg (by omega), if_pos (by omega), pe0]⟩) (fun t => absurd t (by omega)))
                            · exact absurd c371 (by omega)
                          · skip
                            refine v_iload hx DX12_worked_271 3 rfl ?_
                            refine v_push hx DX12_worked_273 ?_
                            refine v_icmp_ne hx DX12_worked_275 (by omega) (by decide) (fun c275 => ?_) (fun c275 => ?_)
                            · skip
                              refine v_iload hx DX12_worked_289 2 rfl ?_
                              refine v_if_ne hx DX12_worked_291 (by omega) (fun c291 => ?_) (fun c291 => ?_)
                              · exact absurd c291 (by omega)
                              · skip
                                refine v_aload hx DX12_worked_294 6 rfl ?_
                                refine v_push hx DX12_worked_295 ?_
                                refine v_iload hx DX12_worked_297 5 rfl ?_
                                refine v_iadd hx DX12_worked_298 ?_
                                refine v_aload hx DX12_worked_299 6 rfl ?_
                                refine v_get hx DX12_worked_300 FLRX12_102 hR.o (v := .ref (ν + 13)) rfl ?_
                                refine v_iload hx DX12_worked_303 5 rfl ?_
                                refine v_iald hx DX12_worked_304 hR.sumAct (by omega) (by decide) (z := SA d) ((congrFun (pd.2.2.1.1 (ν + 13) (by simp)) d).trans (hI.2.2.1 d hd.1 (Int.le_refl d)).1.1) ?_
                                refine v_push hx DX12_worked_305 ?_
                                refine v_iload hx DX12_worked_307 5 rfl ?_
                                refine v_iadd hx DX12_worked_308 ?_
                                refine v_cVi hx DX12_worked_309 CVRX12_329 [iv (42 + d), iv (SA d), iv (49 + d)] (r_acts (o := 42 + d) (act := SA d) (y := 49 + d) (a := SV d) (v := (opR (PA d) (PV d) (powR a ex))) l G Λ sz μ3 hR pd.1 (by omega) (by omega) (by have := (hI.2.2.2.1 d hd.1 (Int.le_refl d)).1; omega) (fun t => ⟨⟨((pd.2.2.2 pe0).2.2.1 _ (by omega) (by omega) (by omega) (by omega) (by omega)).trans ((hI.2.2.1 d hd.1 (Int.le_refl d)).2.1 t).1.1, ((pd.2.2.2 pe0).2.2.1 _ (by omega) (by omega) (by omega) (by omega) (by omega)).trans ((hI.2.2.1 d hd.1 (Int.le_refl d)).2.1 t).1.2⟩, ((hI.2.2.1 d hd.1 (Int.le_refl d)).2.1 t).2⟩) (pd.2.2.2 pe0).1 (pd.2.2.2 pe0).2.1) hR.o rfl rfl (Nat.le_of_ble_eq_true rfl) (by decide) ⟨Nat.le_refl _, Nat.le_refl _⟩ (fun z7 μ6 hμ6 => ?_)
                                obtain ⟨ez2, σ2, w2, x2, k2, f2⟩ := hμ6
                                subst ez2
                                have qer := opA_rng (SA d) (SV d) (opR (PA d) (PV d) (powR a ex))
                                refine v_istore hx DX12_worked_312 [(6, iv (opA (SA d) (SV d) (opR (PA d) (PV d) (powR a ex)))), (3, iv 0), (2, iv (-1)), (5, iv (chT T k)), (4, iv k), (1, iv d), (0, .ref ν)] rfl (by decide) ?_
                                refine v_aload hx DX12_worked_314 6 rfl ?_
                                refine v_get hx DX12_worked_315 FLRX12_102 hR.o (v := .ref (ν + 13)) rfl ?_
                                refine v_iload hx DX12_worked_318 5 rfl ?_
                                refine v_iload hx DX12_worked_319 3 rfl ?_
                                refine v_push hx DX12_worked_321 ?_
                                refine v_icmp_ne hx DX12_worked_323 (by omega) (by decide) (fun c323 => ?_) (fun c323 => ?_)
                                · skip
                                  refine v_iload hx DX12_worked_330 3 rfl ?_
                                  refine v_iastm hx DX12_worked_332 hR.sumAct (by omega) (by decide) (fun μ8 eμ8 => ?_)
                                  have hf5 : Fr [ν + 1, ν + 2, ν + 13, ν + 14] μ μ8 := (((hfm.trans (pd.2.2.1.mono (by simp))).trans (f2.mono (by simp))).trans (by rw [eμ8]; exact Fr.mI (by simp)))
                                  refine v_iload hx DX12_worked_333 0 rfl ?_
                                  refine v_if_ne hx DX12_worked_335 (by omega) (fun c335 => ?_) (fun c335 => ?_)
                                  · skip
                                    refine v_iload hx DX12_worked_369 0 rfl ?_
                                    refine v_if_eq hx DX12_worked_371 (by omega) (fun c371 => ?_) (fun c371 => ?_)
                                    · exact absurd c371 (by omega)
                                    · skip
                                      refine v_iload hx DX12_worked_374 0 rfl ?_
                                      exact v_ri hx hBD DX12_worked_376 (⟨by rw [← hrn]; exact (run_Q (by omega) hq w0 (by omega) (fun _ => ⟨by omega, by omega, by omega⟩) pe0 (by omega)).symm, σ2, w2.fr (by rw [eμ8, mI_ne (by omega)]), fun t => absurd t (by omega), fun r hr => ((k2 r (by omega) (by omega) (by omega)).trans (pd.2.1 r hr)).trans (hI.2.2.2.2.1 r hr), hf5⟩)
                                  · skip
                                    refine v_iload hx DX12_worked_338 3 rfl ?_
                                    refine v_push hx DX12_worked_340 ?_
                                    refine v_icmp_ne hx DX12_worked_342 (by omega) (by decide) (fun c342 => ?_) (fun c342 => ?_)
                                    · skip
                                      refine v_iload hx DX12_worked_369 0 rfl ?_
                                      refine v_if_eq hx DX12_worked_371 (by omega) (fun c371 => ?_) (fun c371 => ?_)
                                      · skip
                                        refine v_iinc hx DX12_worked_377 4 rfl [(4, iv (k + 1)), (6, iv (opA (SA d) (SV d) (opR (PA d) (PV d) (powR a ex)))), (3, iv 0), (2, iv (-1)), (5, iv (chT T k)), (1, iv d), (0, .ref ν)] rfl (by decide) ?_
                                        refine v_goto hx DX12_worked_380 ?_
                                        exact v_sub [0, 2, 3, 5, 6] _ rfl (ih (k + 1) 0 d (-1) 0 n1 a (up1 SA d (chT T k)) (up1 PA d 0) (upF SV d (opR (SA d) (SV d) (opR (PA d) (PV d) (powR a ex)))) (upF PV d (opR (PA d) (PV d) (powR a ex))) μ8 σ2 (by omega) (by omega) (Or.inl ⟨rfl, rfl⟩) (hf5) (fun _ => ⟨by have pd0 := pd; rw [pe0] at pd0; rw [eμ8]; exact (hI.sum hd pd0 w2 (x2 (by omega)) (by omega) k2 f2 (by rcases fa.2 with t | t; (· exact absurd t.1 (by omega)); (· have := t.1; unfold isop at this; omega))).1, Or.inl ⟨rfl, rfl⟩, hd, by omega, by rcases fa.2 with t | t; (· exact absurd t.1 (by omega)); (· exact t.2), by rw [← hrn, run, if_neg (by omega), if_neg (by omega), if_neg w0, if_neg wn2, if_neg (by omega), if_neg (by omega), if_neg (by omega), show smE (pwE 0 a ex (PA d) (PV d)) (SA d) (SV d) (opR (PA d) (PV d) (powR a ex)) = 0 by rw [pe0]; exact (if_neg (by decide)).trans (by omega)]⟩) (fun t => absurd t (by omega)))
                                      · exact absurd c371 (by omega)
                                    · exact absurd c342 (by omega)
                                · skip
                                  refine v_push hx DX12_worked_326 ?_
                                  refine v_goto hx DX12_worked_327 ?_
                                  refine v_iastm hx DX12_worked_332 hR.sumAct (by omega) (by decide) (fun μ9 eμ9 => ?_)
                                  have hf5 : Fr [ν + 1, ν + 2, ν + 13, ν + 14] μ μ9 := (((hfm.trans (pd.2.2.1.mono (by simp))).trans (f2.mono (by simp))).trans (by rw [eμ9]; exact Fr.mI (by simp)))
                                  refine v_iload hx DX12_worked_333 0 rfl ?_
                                  refine v_if_ne hx DX12_worked_335 (by omega) (fun c335 => ?_) (fun c335 => ?_)
                                  · skip
                                    refine v_iload hx DX12_worked_369 0 rfl ?_
                                    refine v_if_eq hx DX12_worked_371 (by omega) (fun c371 => ?_) (fun c371 => ?_)
                                    · exact absurd c371 (by omega)
                                    · skip
                                      refine v_iload hx DX12_worked_374 0 rfl ?_
                                      exact v_ri hx hBD DX12_worked_376 (⟨by rw [← hrn]; exact (run_Q (by omega) hq w0 (by omega) (fun _ => ⟨by omega, by omega, by omega⟩) pe0 (by omega)).symm, σ2, w2.fr (by rw [eμ9, mI_ne (by omega)]), fun t => absurd t (by omega), fun r hr => ((k2 r (by omega) (by omega) (by omega)).trans (pd.2.1 r hr)).trans (hI.2.2.2.2.1 r hr), hf5⟩)
                                  · skip
                                    refine v_iload hx DX12_worked_338 3 rfl ?_
                                    refine v_push hx DX12_worked_340 ?_
                                    refine v_icmp_ne hx DX12_worked_342 (by omega) (by decide) (fun c342 => ?_) (fun c342 => ?_)
                                    · exact absurd c342 (by omega)
                                    · skip
                                      have pd0 := pd
                                      rw [pe0] at pd0
                                      have h5 := hI.sum (c := 0) hd pd0 w2 (x2 (by omega)) (by omega) k2 f2 (Or.inl rfl)
                                      have x2z := x2 (by omega)
                                      rw [← eμ9] at h5
                                      refine v_iload hx DX12_worked_345 4 rfl ?_
                                      refine v_aload hx DX12_worked_347 6 rfl ?_
                                      refine v_get hx DX12_worked_348 FLRX12_320 hR.o (fv_i rfl ((congrFun (hf5.1 ν (by simp)) 25).trans hT.2.1) : _ = iv (T.length : Int)) ?_
                                      refine v_icmp_ge hx DX12_worked_351 (by omega) (by omega) (fun c351 => ?_) (fun c351 => ?_)
                                      · skip
                                        exact absurd c351 (by omega)
                                      · skip
                                        refine v_aload hx DX12_worked_354 6 rfl ?_
                                        refine v_push hx DX12_worked_355 ?_
                                        refine v_push hx DX12_worked_357 ?_
                                        refine v_iload hx DX12_worked_359 5 rfl ?_
                                        refine v_iadd hx DX12_worked_360 ?_
                                        refine v_cVv hx DX12_worked_361 CVRX12_217 [iv 56, iv (42 + d)] (r_takesF (o := 56) (a := 42 + d) (A := (opR (SA d) (SV d) (opR (PA d) (PV d) (powR a ex)))) l G Λ sz μ9 hR h5.1.1 (by omega) (by omega) x2z) hR.o rfl rfl (Nat.le_of_ble_eq_true rfl) (by decide) ⟨Nat.le_refl _, Nat.le_refl _⟩ (fun μ10 hμ10 => ?_)
                                        have h361 := hμ10
                                        refine v_iinc hx DX12_worked_364 5 rfl [(1, iv (d + (-1))), (6, iv (opA (SA d) (SV d) (opR (PA d) (PV d) (powR a ex)))), (3, iv 0), (2, iv (-1)), (5, iv (chT T k)), (4, iv k), (0, .ref ν)] rfl (by decide) ?_
                                        refine v_push hx DX12_worked_367 ?_
                                        refine v_istore hx DX12_worked_368 [(3, iv 1), (1, iv (d + (-1))), (6, iv (opA (SA d) (SV d) (opR (PA d) (PV d) (powR a ex)))), (2, iv (-1)), (5, iv (chT T k)), (4, iv k), (0, .ref ν)] rfl (by decide) ?_
                                        refine v_iload hx DX12_worked_369 2 rfl ?_
                                        refine v_if_eq hx DX12_worked_371 (by omega) (fun c371 => ?_) (fun c371 => ?_)
                                        · skip
                                          refine v_iinc hx DX12_worked_377 5 rfl [(4, iv (k + 1)), (3, iv 1), (1, iv (d + (-1))), (6, iv (opA (SA d) (SV d) (opR (PA d) (PV d) (powR a ex)))), (2, iv (-1)), (5, iv (chT T k)), (0, .ref ν)] rfl (by decide) ?_
                                          refine v_goto hx DX12_worked_380 ?_
                                          exact v_sub [0, 1, 4, 2, 6] _ rfl (ih (k + 1) 1 (d + (-1)) (-1) 1 n1 (opR (SA d) (SV d) (opR (PA d) (PV d) (powR a ex))) (up1 SA d 0) (up1 PA d 0) (upF SV d (opR (SA d) (SV d) (opR (PA d) (PV d) (powR a ex)))) (upF PV d (opR (PA d) (PV d) (powR a ex))) μ10 _ (by omega) (by omega) (Or.inr ⟨by decide, rfl⟩) (hf5.trans (h361.2.mono (by simp))) (fun _ => ⟨(h5.1.at_ hd.2 h361.1 (RFI.wr (o := 56) (opR (SA d) (SV d) (opR (PA d) (PV d) (powR a ex)))) h5.2 (fun r g0 g1 g2 => by show up (up σ2 112 _) 113 _ r = _; rw [up_ne g2, up_ne g1]) h361.2).down, Or.inr (Or.inl ⟨rfl, rfl⟩), by rcases fa.2 with t | t; (· have := t.2.1; omega); (· unfold isop at t; omega), by omega, by rcases fa.2 with t | t; (· exact t.2.2); (· unfold isop at t; omega), by rw [← hrn, run, if_neg (by omega), if_neg (by omega), if_neg w0, if_neg wn2, if_neg (by omega), if_neg (by omega), if_pos (by omega), show smE (pwE 0 a ex (PA d) (PV d)) (SA d) (SV d) (opR (PA d) (PV d) (powR a ex)) = 0 by rw [pe0]; exact (if_neg (by decide)).trans (by omega), show d - 1 = d + -1 by omega]⟩) (fun t => absurd t (by omega)))
                                        · exact absurd c371 (by omega)
                            · skip
                              refine v_aload hx DX12_worked_278 6 rfl ?_
                              refine v_get hx DX12_worked_279 FLRX12_105 hR.o (v := .ref (ν + 14)) rfl ?_
                              refine v_iload hx DX12_worked_282 5 rfl ?_
                              refine v_iload hx DX12_worked_283 3 rfl ?_
                              refine v_iastm hx DX12_worked_285 hR.partAct (by omega) (by decide) (fun μ12 eμ12 => ?_)
                              refine v_goto hx DX12_worked_286 ?_
                              refine v_iload hx DX12_worked_369 2 rfl ?_
                              refine v_if_eq hx DX12_worked_371 (by omega) (fun c371 => ?_) (fun c371 => ?_)
                              · skip
                                refine v_iinc hx DX12_worked_377 4 rfl [(4, iv (k + 1)), (3, iv 0), (2, iv (-1)), (6, iv (pwE 0 a ex (PA d) (PV d))), (5, iv (chT T k)), (1, iv d), (0, .ref ν)] rfl (by decide) ?_
                                refine v_goto hx DX12_worked_380 ?_
                                exact v_sub [0, 1, 2, 5, 6] _ rfl (ih (k + 1) 0 d (-1) 0 n1 a SA (up1 PA d (chT T k)) SV (upF PV d (opR (PA d) (PV d) (powR a ex))) μ12 σ1 (by omega) (by omega) (Or.inl ⟨rfl, rfl⟩) ((hfm.trans (pd.2.2.1.mono (by simp))).trans (by rw [eμ12]; exact Fr.mI (by simp))) (fun _ => ⟨by have pd0 := pd; rw [pe0] at pd0; rw [eμ12]; exact hI.part hd pd0 (by omega), Or.inl ⟨rfl, rfl⟩, hd, by omega, by rcases fa.2 with t | t; (· exact absurd t.1 (by omega)); (· exact t.2), by rw [← hrn, run, if_neg (by omega), if_neg (by omega), if_neg w0, if_neg wn2, if_neg (by omega), if_pos (by omega), pe0]⟩) (fun t => absurd t (by omega)))
                              · exact absurd c371 (by omega)
                    · skip
                      obtain ⟨w0, d6, f2, r2⟩ := fl_open (er := 0) (ex := ex) (a := a) (SA := SA) (PA := PA) (SV := SV) (PV := PV) (by omega) hk2 hfk (by omega)
                      subst w0
                      refine v_iinc hx DX12_worked_219 5 rfl [(1, iv (d + 1)), (6, iv 0), (5, iv (chT T k)), (4, iv k), (3, iv ws), (2, iv ex), (0, .ref ν)] rfl (by decide) ?_
                      refine v_aload hx DX12_worked_222 6 rfl ?_
                      refine v_get hx DX12_worked_223 FLRX12_102 hR.o (v := .ref (ν + 13)) rfl ?_
                      refine v_iload hx DX12_worked_226 0 rfl ?_
                      refine v_push hx DX12_worked_227 ?_
                      refine v_iastm hx DX12_worked_228 hR.sumAct (by omega) (by decide) (fun μ13 eμ13 => ?_)
                      refine v_aload hx DX12_worked_229 6 rfl ?_
                      refine v_get hx DX12_worked_230 FLRX12_105 hR.o (v := .ref (ν + 14)) rfl ?_
                      refine v_iload hx DX12_worked_233 0 rfl ?_
                      refine v_push hx DX12_worked_234 ?_
                      refine v_iastm hx DX12_worked_235 hR.partAct (by omega) (by decide) (fun μ14 eμ14 => ?_)
                      refine v_goto hx DX12_worked_236 ?_
                      refine v_iload hx DX12_worked_369 1 rfl ?_
                      refine v_if_eq hx DX12_worked_371 (by decide) (fun c371 => ?_) (fun c371 => ?_)
                      · skip
                        refine v_iinc hx DX12_worked_377 3 rfl [(4, iv (k + 1)), (1, iv (d + 1)), (6, iv 0), (5, iv (chT T k)), (3, iv ws), (2, iv ex), (0, .ref ν)] rfl (by decide) ?_
                        refine v_goto hx DX12_worked_380 ?_
                        exact v_sub [0, 4, 5, 1, 6] _ rfl (ih (k + 1) 0 (d + 1) ex ws n1 a (up1 SA (d + 1) 0) (up1 PA (d + 1) 0) SV PV μ14 σ (by omega) (by omega) (Or.inl ⟨rfl, by omega⟩) ((hfm.trans (show Fr [ν + 1, ν + 2, ν + 13, ν + 14] m μ13 from by rw [eμ13]; exact Fr.mI (by simp))).trans (by rw [eμ14]; exact Fr.mI (by simp))) (fun _ => ⟨by rw [eμ14, eμ13]; exact hI.opn, hex, by omega, by omega, f2, r2.symm.trans hrn⟩) (fun t => absurd t (by omega)))
                      · exact absurd c371 (by decide)
                  · skip
                    have d136 := bzt c136
                    have gz2 := d136
                    obtain ⟨w0, f2, r2, nf2⟩ := fl_num (er := 0) (ex := ex) (a := a) (SA := SA) (PA := PA) (SV := SV) (PV := PV) (by omega) hk2 hq wn2 hfk d136
                    refine v_iload hx DX12_worked_139 2 rfl ?_
                    refine v_aload hx DX12_worked_141 6 rfl ?_
                    refine v_get hx DX12_worked_142 FLRX12_320 hR.o (fv_i rfl ((congrFun (hfm.1 ν (by simp)) 25).trans hT.2.1) : _ = iv (T.length : Int)) ?_
                    refine v_icmp_ge hx DX12_worked_145 (by omega) (by omega) (fun c145 => ?_) (fun c145 => ?_)
                    · exact absurd c145 (by omega)
                    · skip
                      refine v_iload hx DX12_worked_148 1 rfl ?_
                      refine v_push hx DX12_worked_150 ?_
                      refine v_isub hx DX12_worked_152 ?_
                      refine v_istore hx DX12_worked_153 [(7, iv ((chT T k) - 48)), (6, iv 0), (5, iv (chT T k)), (4, iv k), (3, iv ws), (2, iv ex), (1, iv d), (0, .ref ν)] rfl (by decide) ?_
                      refine v_aload hx DX12_worked_155 7 rfl ?_
                      refine v_iload hx DX12_worked_156 3 rfl ?_
                      refine v_push hx DX12_worked_158 ?_
                      refine v_iadd hx DX12_worked_159 ?_
                      refine v_cVp hx DX12_worked_160 CVRX12_323 [iv (k + 1)] (r_isFigure l G Λ sz m hR (rt_fr hT hfm) (by omega)) hR.o rfl rfl (Nat.le_of_ble_eq_true rfl) (by decide) ⟨Nat.le_refl _, Nat.le_refl _⟩ ?_
                      have br160 := bz_rng (isFg T (k + 1))
                      refine v_if_eq hx DX12_worked_163 (by omega) (fun c163 => ?_) (fun c163 => ?_)
                      · skip
                        have d163 := bzf c163
                        have gz3 := d163
                        have ex0 : exd T k = 0 := by unfold exd; rw [if0 (fun t => d163 t.2)]
                        have l0 := (isFg_ch (T := T) (k := k) ⟨by omega, hk2⟩).mp d136
                        have nv : (chT T k) - 48 = nmv T k := by unfold nmv; rw [ex0, if_pos rfl]
                        have nvr : 0 ≤ nmv T k ∧ nmv T k < 1000 := by rw [← nv]; omega
                        refine v_aload hx DX12_worked_190 7 rfl ?_
                        refine v_push hx DX12_worked_191 ?_
                        refine v_cVv hx DX12_worked_193 CVRX12_118 [iv 56] (r_nought (f := 56) l G Λ sz m hR hI.1 (by decide)) hR.o rfl rfl (Nat.le_of_ble_eq_true rfl) (by decide) ⟨Nat.le_refl _, Nat.le_refl _⟩ (fun μ17 hμ17 => ?_)
                        have h193 := hμ17
                        refine v_aload hx DX12_worked_196 7 rfl ?_
                        refine v_push hx DX12_worked_197 ?_
                        refine v_cSp hx DX12_worked_199 CSRX12_38 [iv 56] (r_above (f := 56) l G Λ sz μ17) rfl rfl (Nat.le_of_ble_eq_true rfl) (by decide) ⟨Nat.le_refl _, Nat.le_refl _⟩ ?_
                        refine v_iload hx DX12_worked_202 0 rfl ?_
                        refine v_cVv hx DX12_worked_204 CVRX12_47 [iv ((2 * 56 : Nat) : Int), iv ((chT T k) - 48)] (r_number (s := 112) l G Λ sz μ17 hR h193.1 (by decide) (by omega)) hR.o rfl rfl (Nat.le_of_ble_eq_true rfl) (by decide) ⟨Nat.le_refl _, Nat.le_refl _⟩ (fun μ21 hμ21 => ?_)
                        have h204 := hμ21
                        refine v_push hx DX12_worked_207 ?_
                        refine v_istore hx DX12_worked_208 [(3, iv 1), (7, iv ((chT T k) - 48)), (6, iv 0), (5, iv (chT T k)), (4, iv k), (2, iv ex), (1, iv d), (0, .ref ν)] rfl (by decide) ?_
                        refine v_goto hx DX12_worked_209 ?_
                        refine v_iload hx DX12_worked_369 2 rfl ?_
                        refine v_if_eq hx DX12_worked_371 (by decide) (fun c371 => ?_) (fun c371 => ?_)
                        · skip
                          refine v_iinc hx DX12_worked_377 4 rfl [(4, iv (k + 1)), (3, iv 1), (7, iv ((chT T k) - 48)), (6, iv 0), (5, iv (chT T k)), (2, iv ex), (1, iv d), (0, .ref ν)] rfl (by decide) ?_
                          refine v_goto hx DX12_worked_380 ?_
                          exact v_sub [0, 1, 5, 6, 7] _ rfl (ih (k + 1) 1 d ex 1 n1 (nF (nmv T k)) SA PA SV PV μ21 _ (by omega) (by omega) (Or.inr ⟨by decide, rfl⟩) (hfm.trans ((h193.2.trans h204.2).mono (by simp))) (fun _ => ⟨hI.at_ hd.2 h204.1 ⟨by show up _ 112 _ 112 = PS.C (fi (nmv T k)); rw [up_at, nv], by show up _ 112 _ 113 = PS.one; rw [up_ne (by decide)]; exact up_at⟩ (nF_ok _) (fun r g0 g1 g2 => by rw [up_ne g1]; show up (up σ 112 _) 113 _ r = _; rw [up_ne g2, up_ne g1]) (h193.2.trans h204.2), Or.inr (Or.inl ⟨rfl, by unfold exw at hex; omega⟩), hd, by omega, by rw [show k + exd T k + 1 = k + 1 by omega] at f2; exact f2, by rw [← hrn, r2, show k + exd T k + 1 = k + 1 by omega, show ex = -1 by unfold exw at hex; omega]⟩) (fun t => absurd t (by omega)))
                        · exact absurd c371 (by decide)
                      · skip
                        have d163 := bzt c163
                        have gz4 := d163
                        have g1 := d163
                        have b1 := d163.2.1
                        have l1 : 48 ≤ chT T (k + 1) ∧ chT T (k + 1) ≤ 57 := d163.2.2
                        refine v_iinc hx DX12_worked_166 3 rfl [(4, iv (k + 1)), (7, iv ((chT T k) - 48)), (6, iv 0), (5, iv (chT T k)), (3, iv ws), (2, iv ex), (1, iv d), (0, .ref ν)] rfl (by decide) ?_
                        refine v_push hx DX12_worked_169 ?_
                        refine v_iload hx DX12_worked_171 1 rfl ?_
                        refine v_imul hx DX12_worked_173 ?_
                        refine v_aload hx DX12_worked_174 7 rfl ?_
                        refine v_get hx DX12_worked_175 FLRX12_99 hR.o (v := .ref (ν + 12)) rfl ?_
                        refine v_iload hx DX12_worked_178 0 rfl ?_
                        refine v_iald hx DX12_worked_180 hR.tape (by omega) (by decide) (z := chT T (k + 1)) (by have z := hT.2.2.1 (k + 1).toNat (by omega); rw [Int.toNat_of_nonneg (by omega)] at z; exact (congrFun (hfm.1 (ν + 12) (by simp)) (k + 1)).trans z) ?_
                        refine v_iadd hx DX12_worked_181 ?_
                        refine v_push hx DX12_worked_182 ?_
                        refine v_isub hx DX12_worked_184 ?_
                        refine v_istore hx DX12_worked_185 [(7, iv (((10 * ((chT T k) - 48)) + (chT T (k + 1))) - 48)), (4, iv (k + 1)), (6, iv 0), (5, iv (chT T k)), (3, iv ws), (2, iv ex), (1, iv d), (0, .ref ν)] rfl (by decide) ?_
                        refine v_goto hx DX12_worked_187 ?_
                        refine v_aload hx DX12_worked_155 7 rfl ?_
                        refine v_iload hx DX12_worked_156 1 rfl ?_
                        refine v_push hx DX12_worked_158 ?_
                        refine v_iadd hx DX12_worked_159 ?_
                        refine v_cVp hx DX12_worked_160 CVRX12_323 [iv ((k + 1) + 1)] (r_isFigure l G Λ sz m hR (rt_fr hT hfm) (by omega)) hR.o rfl rfl (Nat.le_of_ble_eq_true rfl) (by decide) ⟨Nat.le_refl _, Nat.le_refl _⟩ ?_
                        have br160 := bz_rng (isFg T ((k + 1) + 1))
                        refine v_if_eq hx DX12_worked_163 (by omega) (fun c163 => ?_) (fun c163 => ?_)
                        · skip
                          have d163 := bzf c163
                          have gz5 := d163
                          have ex0 : exd T k = 1 := by unfold exd; rw [if1 ⟨d136, g1⟩, if0 (fun t => d163 (by rw [show k + 1 + 1 = k + 2 by omega]; exact t))]
                          have l0 := (isFg_ch (T := T) (k := k) ⟨by omega, hk2⟩).mp d136
                          have nv : ((10 * ((chT T k) - 48)) + (chT T (k + 1))) - 48 = nmv T k := by unfold nmv; rw [ex0, if_neg (by decide), if_pos rfl]
                          have nvr : 0 ≤ nmv T k ∧ nmv T k < 1000 := by rw [← nv]; omega
                          refine v_aload hx DX12_worked_190 7 rfl ?_
                          refine v_push hx DX12_worked_191 ?_
                          refine v_cVv hx DX12_worked_193 CVRX12_118 [iv 56] (r_nought (f := 56) l G Λ sz m hR hI.1 (by decide)) hR.o rfl rfl (Nat.le_of_ble_eq_true rfl) (by decide) ⟨Nat.le_refl _, Nat.le_refl _⟩ (fun μ25 hμ25 => ?_)
                          have h193 := hμ25
                          refine v_aload hx DX12_worked_196 7 rfl ?_
                          refine v_push hx DX12_worked_197 ?_
                          refine v_cSp hx DX12_worked_199 CSRX12_38 [iv 56] (r_above (f := 56) l G Λ sz μ25) rfl rfl (Nat.le_of_ble_eq_true rfl) (by decide) ⟨Nat.le_refl _, Nat.le_refl _⟩ ?_
                          refine v_iload hx DX12_worked_202 0 rfl ?_
                          refine v_cVv hx DX12_worked_204 CVRX12_47 [iv ((2 * 56 : Nat) : Int), iv (((10 * ((chT T k) - 48)) + (chT T (k + 1))) - 48)] (r_number (s := 112) l G Λ sz μ25 hR h193.1 (by decide) (by omega)) hR.o rfl rfl (Nat.le_of_ble_eq_true rfl) (by decide) ⟨Nat.le_refl _, Nat.le_refl _⟩ (fun μ29 hμ29 => ?_)
                          have h204 := hμ29
                          refine v_push hx DX12_worked_207 ?_
                          refine v_istore hx DX12_worked_208 [(3, iv 1), (7, iv (((10 * ((chT T k) - 48)) + (chT T (k + 1))) - 48)), (4, iv (k + 1)), (6, iv 0), (5, iv (chT T k)), (2, iv ex), (1, iv d), (0, .ref ν)] rfl (by decide) ?_
                          refine v_goto hx DX12_worked_209 ?_
                          refine v_iload hx DX12_worked_369 3 rfl ?_
                          refine v_if_eq hx DX12_worked_371 (by decide) (fun c371 => ?_) (fun c371 => ?_)
                          · skip
                            refine v_iinc hx DX12_worked_377 2 rfl [(4, iv ((k + 1) + 1)), (3, iv 1), (7, iv (((10 * ((chT T k) - 48)) + (chT T (k + 1))) - 48)), (6, iv 0), (5, iv (chT T k)), (2, iv ex), (1, iv d), (0, .ref ν)] rfl (by decide) ?_
                            refine v_goto hx DX12_worked_380 ?_
                            exact v_sub [0, 1, 5, 6, 7] _ rfl (ih ((k + 1) + 1) 1 d ex 1 n1 (nF (nmv T k)) SA PA SV PV μ29 _ (by omega) (by omega) (Or.inr ⟨by decide, rfl⟩) (hfm.trans ((h193.2.trans h204.2).mono (by simp))) (fun _ => ⟨hI.at_ hd.2 h204.1 ⟨by show up _ 112 _ 112 = PS.C (fi (nmv T k)); rw [up_at, nv], by show up _ 112 _ 113 = PS.one; rw [up_ne (by decide)]; exact up_at⟩ (nF_ok _) (fun r g0 g1 g2 => by rw [up_ne g1]; show up (up σ 112 _) 113 _ r = _; rw [up_ne g2, up_ne g1]) (h193.2.trans h204.2), Or.inr (Or.inl ⟨rfl, by unfold exw at hex; omega⟩), hd, by omega, by rw [show k + exd T k + 1 = (k + 1) + 1 by omega] at f2; exact f2, by rw [← hrn, r2, show k + exd T k + 1 = (k + 1) + 1 by omega, show ex = -1 by unfold exw at hex; omega]⟩) (fun t => absurd t (by omega)))
                          · exact absurd c371 (by decide)
                        · skip
                          have d163 := bzt c163
                          have gz6 := d163
                          have g2 := d163
                          have b2 := d163.2.1
                          have l2 : 48 ≤ chT T (k + 1 + 1) ∧ chT T (k + 1 + 1) ≤ 57 := d163.2.2
                          refine v_iinc hx DX12_worked_166 1 rfl [(4, iv ((k + 1) + 1)), (7, iv (((10 * ((chT T k) - 48)) + (chT T (k + 1))) - 48)), (6, iv 0), (5, iv (chT T k)), (3, iv ws), (2, iv ex), (1, iv d), (0, .ref ν)] rfl (by decide) ?_
                          refine v_push hx DX12_worked_169 ?_
                          refine v_iload hx DX12_worked_171 1 rfl ?_
                          refine v_imul hx DX12_worked_173 ?_
                          refine v_aload hx DX12_worked_174 7 rfl ?_
                          refine v_get hx DX12_worked_175 FLRX12_99 hR.o (v := .ref (ν + 12)) rfl ?_
                          refine v_iload hx DX12_worked_178 0 rfl ?_
                          refine v_iald hx DX12_worked_180 hR.tape (by omega) (by decide) (z := chT T ((k + 1) + 1)) (by have z := hT.2.2.1 ((k + 1) + 1).toNat (by omega); rw [Int.toNat_of_nonneg (by omega)] at z; exact (congrFun (hfm.1 (ν + 12) (by simp)) ((k + 1) + 1)).trans z) ?_
                          refine v_iadd hx DX12_worked_181 ?_
                          refine v_push hx DX12_worked_182 ?_
                          refine v_isub hx DX12_worked_184 ?_
                          refine v_istore hx DX12_worked_185 [(7, iv (((10 * (((10 * ((chT T k) - 48)) + (chT T (k + 1))) - 48)) + (chT T ((k + 1) + 1))) - 48)), (4, iv ((k + 1) + 1)), (6, iv 0), (5, iv (chT T k)), (3, iv ws), (2, iv ex), (1, iv d), (0, .ref ν)] rfl (by decide) ?_
                          refine v_goto hx DX12_worked_187 ?_
                          refine v_aload hx DX12_worked_155 7 rfl ?_
                          refine v_iload hx DX12_worked_156 1 rfl ?_
                          refine v_push hx DX12_worked_158 ?_
                          refine v_iadd hx DX12_worked_159 ?_
                          refine v_cVp hx DX12_worked_160 CVRX12_323 [iv (((k + 1) + 1) + 1)] (r_isFigure l G Λ sz m hR (rt_fr hT hfm) (by omega)) hR.o rfl rfl (Nat.le_of_ble_eq_true rfl) (by decide) ⟨Nat.le_refl _, Nat.le_refl _⟩ ?_
                          have br160 := bz_rng (isFg T (((k + 1) + 1) + 1))
                          refine v_if_eq hx DX12_worked_163 (by omega) (fun c163 => ?_) (fun c163 => ?_)
                          · skip
                            have d163 := bzf c163
                            have gz7 := d163
                            have ex0 : exd T k = 2 := by unfold exd; rw [if1 ⟨d136, g1⟩, if1 (by rw [show k + 2 = k + 1 + 1 by omega]; exact g2)]
                            have l0 := (isFg_ch (T := T) (k := k) ⟨by omega, hk2⟩).mp d136
                            have nv : ((10 * (((10 * ((chT T k) - 48)) + (chT T (k + 1))) - 48)) + (chT T ((k + 1) + 1))) - 48 = nmv T k := by unfold nmv; rw [ex0, if_neg (by decide), if_neg (by decide), show k + 2 = k + 1 + 1 by omega]
                            have nvr : 0 ≤ nmv T k ∧ nmv T k < 1000 := by rw [← nv]; omega
                            refine v_aload hx DX12_worked_190 7 rfl ?_
                            refine v_push hx DX12_worked_191 ?_
                            refine v_cVv hx DX12_worked_193 CVRX12_118 [iv 56] (r_nought (f := 56) l G Λ sz m hR hI.1 (by decide)) hR.o rfl rfl (Nat.le_of_ble_eq_true rfl) (by decide) ⟨Nat.le_refl _, Nat.le_refl _⟩ (fun μ33 hμ33 => ?_)
                            have h193 := hμ33
                            refine v_aload hx DX12_worked_196 7 rfl ?_
                            refine v_push hx DX12_worked_197 ?_
                            refine v_cSp hx DX12_worked_199 CSRX12_38 [iv 56] (r_above (f := 56) l G Λ sz μ33) rfl rfl (Nat.le_of_ble_eq_true rfl) (by decide) ⟨Nat.le_refl _, Nat.le_refl _⟩ ?_
                            refine v_iload hx DX12_worked_202 0 rfl ?_
                            refine v_cVv hx DX12_worked_204 CVRX12_47 [iv ((2 * 56 : Nat) : Int), iv (((10 * (((10 * ((chT T k) - 48)) + (chT T (k + 1))) - 48)) + (chT T ((k + 1) + 1))) - 48)] (r_number (s := 112) l G Λ sz μ33 hR h193.1 (by decide) (by omega)) hR.o rfl rfl (Nat.le_of_ble_eq_true rfl) (by decide) ⟨Nat.le_refl _, Nat.le_refl _⟩ (fun μ37 hμ37 => ?_)
                            have h204 := hμ37
                            refine v_push hx DX12_worked_207 ?_
                            refine v_istore hx DX12_worked_208 [(3, iv 1), (7, iv (((10 * (((10 * ((chT T k) - 48)) + (chT T (k + 1))) - 48)) + (chT T ((k + 1) + 1))) - 48)), (4, iv ((k + 1) + 1)), (6, iv 0), (5, iv (chT T k)), (2, iv ex), (1, iv d), (0, .ref ν)] rfl (by decide) ?_
                            refine v_goto hx DX12_worked_209 ?_
                            refine v_iload hx DX12_worked_369 3 rfl ?_
                            refine v_if_eq hx DX12_worked_371 (by decide) (fun c371 => ?_) (fun c371 => ?_)
                            · skip
                              refine v_iinc hx DX12_worked_377 2 rfl [(4, iv (((k + 1) + 1) + 1)), (3, iv 1), (7, iv (((10 * (((10 * ((chT T k) - 48)) + (chT T (k + 1))) - 48)) + (chT T ((k + 1) + 1))) - 48)), (6, iv 0), (5, iv (chT T k)), (2, iv ex), (1, iv d), (0, .ref ν)] rfl (by decide) ?_
                              refine v_goto hx DX12_worked_380 ?_
                              exact v_sub [0, 1, 5, 6, 7] _ rfl (ih (((k + 1) + 1) + 1) 1 d ex 1 n1 (nF (nmv T k)) SA PA SV PV μ37 _ (by omega) (by omega) (Or.inr ⟨by decide, rfl⟩) (hfm.trans ((h193.2.trans h204.2).mono (by simp))) (fun _ => ⟨hI.at_ hd.2 h204.1 ⟨by show up _ 112 _ 112 = PS.C (fi (nmv T k)); rw [up_at, nv], by show up _ 112 _ 113 = PS.one; rw [up_ne (by decide)]; exact up_at⟩ (nF_ok _) (fun r g0 g1 g2 => by rw [up_ne g1]; show up (up σ 112 _) 113 _ r = _; rw [up_ne g2, up_ne g1]) (h193.2.trans h204.2), Or.inr (Or.inl ⟨rfl, by unfold exw at hex; omega⟩), hd, by omega, by rw [show k + exd T k + 1 = ((k + 1) + 1) + 1 by omega] at f2; exact f2, by rw [← hrn, r2, show k + exd T k + 1 = ((k + 1) + 1) + 1 by omega, show ex = -1 by unfold exw at hex; omega]⟩) (fun t => absurd t (by omega)))
                            · exact absurd c371 (by decide)
                          · skip
                            have d163 := bzt c163
                            have gz8 := d163
                            exact absurd d163 (by (have e : exd T k = 2 := by unfold exd; rw [if1 ⟨d136, g1⟩, if1 (by rw [show k + 2 = k + 1 + 1 by omega]; exact g2)]); rw [e, show k + 2 + 1 = k + 1 + 1 + 1 by omega] at nf2; exact nf2)
                · skip
                  obtain ⟨w0, f2, r2⟩ := fl_x (er := 0) (ex := ex) (a := a) (SA := SA) (PA := PA) (SV := SV) (PV := PV) (by omega) hk2 hfk (by omega)
                  refine v_aload hx DX12_worked_103 6 rfl ?_
                  refine v_push hx DX12_worked_104 ?_
                  refine v_cVv hx DX12_worked_106 CVRX12_118 [iv 56] (r_nought (f := 56) l G Λ sz m hR hI.1 (by decide)) hR.o rfl rfl (Nat.le_of_ble_eq_true rfl) (by decide) ⟨Nat.le_refl _, Nat.le_refl _⟩ (fun μ39 hμ39 => ?_)
                  have h106 := hμ39
                  refine v_aload hx DX12_worked_109 6 rfl ?_
                  refine v_get hx DX12_worked_110 FLRX12_3 hR.o (v := .ref (ν + 1)) rfl ?_
                  refine v_push hx DX12_worked_113 ?_
                  refine v_push hx DX12_worked_115 ?_
                  refine v_cSp hx DX12_worked_117 CSRX12_38 [iv 56] (r_above (f := 56) l G Λ sz μ39) rfl rfl (Nat.le_of_ble_eq_true rfl) (by decide) ⟨Nat.le_refl _, Nat.le_refl _⟩ ?_
                  refine v_imul hx DX12_worked_120 ?_
                  refine v_push hx DX12_worked_121 ?_
                  refine v_iadd hx DX12_worked_122 ?_
                  refine v_push hx DX12_worked_123 ?_
                  refine v_iastm hx DX12_worked_124 hR.p (by omega) (by decide) (fun μ43 eμ43 => ?_)
                  have h124 : RW μ43 ν (up (up (up σ 112 PS.zero) 113 PS.one) 112 ((up (up σ 112 PS.zero) 113 PS.one 112).set (Int.toNat 1) (fi 1))) := by
                    rw [eμ43]; exact RW.put1 (s := 112) (k := 1) h106.1 (by decide) (by decide) rfl (by decide)
                  have f124 : Fr [ν + 1] m μ43 := h106.2.trans (by rw [eμ43]; exact Fr.mI (by simp))
                  refine v_push hx DX12_worked_125 ?_
                  refine v_istore hx DX12_worked_126 [(3, iv 1), (6, iv 0), (5, iv (chT T k)), (4, iv k), (2, iv ex), (1, iv d), (0, .ref ν)] rfl (by decide) ?_
                  refine v_goto hx DX12_worked_127 ?_
                  refine v_iload hx DX12_worked_369 1 rfl ?_
                  refine v_if_eq hx DX12_worked_371 (by decide) (fun c371 => ?_) (fun c371 => ?_)
                  · skip
                    refine v_iinc hx DX12_worked_377 3 rfl [(4, iv (k + 1)), (3, iv 1), (6, iv 0), (5, iv (chT T k)), (2, iv ex), (1, iv d), (0, .ref ν)] rfl (by decide) ?_
                    refine v_goto hx DX12_worked_380 ?_
                    exact v_sub [0, 1, 4, 5, 6] _ rfl (ih (k + 1) 1 d ex 1 n1 xF SA PA SV PV μ43 _ (by omega) (by omega) (Or.inr ⟨by decide, rfl⟩) (hfm.trans (f124.mono (by simp))) (fun _ => ⟨hI.at_ hd.2 h124 ⟨by show up _ 112 _ 112 = PS.mo 1; rw [up_at]; show (up (up σ 112 PS.zero) 113 PS.one 112).set (Int.toNat 1) (fi 1) = PS.mo 1; rw [up_ne (by decide), up_at, fi_1]; rfl, by show up _ 112 _ 113 = PS.one; rw [up_ne (by decide), up_at]⟩ xF_ok (fun r g0 g1 g2 => by rw [up_ne g1, up_ne g2, up_ne g1]) f124, Or.inr (Or.inl ⟨rfl, by unfold exw at hex; omega⟩), hd, by omega, f2, by rw [← hrn, r2, show ex = -1 by unfold exw at hex; omega]⟩) (fun t => absurd t (by omega)))
                  · exact absurd c371 (by decide)
              · skip
                have w2 : w = 2 := by unfold exw at hex; omega
                subst w2
                obtain ⟨cr, f2, r2⟩ := fl_fig (er := 0) (ex := ex) (a := a) (SA := SA) (PA := PA) (SV := SV) (PV := PV) (by omega) hk2 hfk (by omega)
                refine v_iload hx DX12_worked_87 1 rfl ?_
                refine v_push hx DX12_worked_89 ?_
                refine v_isub hx DX12_worked_91 ?_
                refine v_istore hx DX12_worked_92 [(2, iv ((chT T k) - 48)), (6, iv 0), (5, iv (chT T k)), (4, iv k), (3, iv ws), (1, iv d), (0, .ref ν)] rfl (by decide) ?_
                refine v_goto hx DX12_worked_93 ?_
                refine v_iload hx DX12_worked_369 1 rfl ?_
                refine v_if_eq hx DX12_worked_371 (by decide) (fun c371 => ?_) (fun c371 => ?_)
                · skip
                  refine v_iinc hx DX12_worked_377 3 rfl [(4, iv (k + 1)), (2, iv ((chT T k) - 48)), (6, iv 0), (5, iv (chT T k)), (3, iv ws), (1, iv d), (0, .ref ν)] rfl (by decide) ?_
                  refine v_goto hx DX12_worked_380 ?_
                  exact v_sub [0, 4, 1, 5, 6] _ rfl (ih (k + 1) 3 d ((chT T k) - 48) ws n1 a SA PA SV PV m σ (by omega) (by omega) (Or.inr ⟨by decide, by omega⟩) (hfm) (fun _ => ⟨hI.wn (by omega), Or.inr (Or.inr (Or.inr ⟨rfl, by omega⟩)), hd, by omega, f2, r2.symm.trans hrn⟩) (fun t => absurd t (by omega)))
                · exact absurd c371 (by decide)
            · skip
              obtain ⟨w1, f2, r2⟩ := fl_hat (er := 0) (ex := ex) (a := a) (SA := SA) (PA := PA) (SV := SV) (PV := PV) (by omega) hk2 hfk (by omega)
              refine v_push hx DX12_worked_75 ?_
              refine v_istore hx DX12_worked_77 [(2, iv (-2)), (6, iv 0), (5, iv (chT T k)), (4, iv k), (3, iv ws), (1, iv d), (0, .ref ν)] rfl (by decide) ?_
              refine v_goto hx DX12_worked_78 ?_
              refine v_iload hx DX12_worked_369 1 rfl ?_
              refine v_if_eq hx DX12_worked_371 (by decide) (fun c371 => ?_) (fun c371 => ?_)
              · skip
                refine v_iinc hx DX12_worked_377 3 rfl [(4, iv (k + 1)), (2, iv (-2)), (6, iv 0), (5, iv (chT T k)), (3, iv ws), (1, iv d), (0, .ref ν)] rfl (by decide) ?_
                refine v_goto hx DX12_worked_380 ?_
                exact v_sub [0, 4, 1, 5, 6] _ rfl (ih (k + 1) 2 d (-2) ws n1 a SA PA SV PV m σ (by omega) (by omega) (Or.inr ⟨by decide, by omega⟩) (hfm) (fun _ => ⟨hI.wn (by omega), Or.inr (Or.inr (Or.inl ⟨rfl, rfl⟩)), hd, by omega, f2, r2.symm.trans hrn⟩) (fun t => absurd t (by omega)))
              · exact absurd c371 (by decide)
          · skip
            refine v_goto hx DX12_worked_65 ?_
            refine v_iinc hx DX12_worked_377 2 rfl [(4, iv (k + 1)), (6, iv 0), (5, iv (chT T k)), (3, iv ws), (2, iv ex), (1, iv d), (0, .ref ν)] rfl (by decide) ?_
            refine v_goto hx DX12_worked_380 ?_
            exact v_sub [0, 3, 4, 5, 6] _ rfl (ih (k + 1) w d ex ws n1 a SA PA SV PV m σ (by omega) (by omega) hws hfm (fun _ => ⟨hI, hex, hd, by omega, (fl_sp (er := 0) (ex := ex) (a := a) (SA := SA) (PA := PA) (SV := SV) (PV := PV) hk2 hfk (by omega)).1, (fl_sp hk2 hfk (by omega)).2.symm.trans hrn⟩) (fun t => absurd t (by omega)))
        · skip
          have fe := fl_end (T := T) (by omega) hfk
          refine v_push hx DX12_worked_41 ?_
          refine v_goto hx DX12_worked_43 ?_
          refine v_istore hx DX12_worked_53 [(5, iv 41), (4, iv k), (3, iv ws), (2, iv ex), (1, iv d), (0, .ref ν)] rfl (by decide) ?_
          refine v_push hx DX12_worked_55 ?_
          refine v_istore hx DX12_worked_56 [(6, iv 0), (5, iv 41), (4, iv k), (3, iv ws), (2, iv ex), (1, iv d), (0, .ref ν)] rfl (by decide) ?_
          refine v_iload hx DX12_worked_58 1 rfl ?_
          refine v_push hx DX12_worked_60 ?_
          refine v_icmp_ne hx DX12_worked_62 (by decide) (by decide) (fun c62 => ?_) (fun c62 => ?_)
          · skip
            refine v_iload hx DX12_worked_68 1 rfl ?_
            refine v_push hx DX12_worked_70 ?_
            refine v_icmp_ne hx DX12_worked_72 (by decide) (by decide) (fun c72 => ?_) (fun c72 => ?_)
            · skip
              refine v_iload hx DX12_worked_81 4 rfl ?_
              refine v_push hx DX12_worked_82 ?_
              refine v_icmp_ne hx DX12_worked_84 (by omega) (by decide) (fun c84 => ?_) (fun c84 => ?_)
              · skip
                have wn2 : w ≠ 2 := by unfold exw at hex; omega
                refine v_iload hx DX12_worked_96 1 rfl ?_
                refine v_push hx DX12_worked_98 ?_
                refine v_icmp_ne hx DX12_worked_100 (by decide) (by decide) (fun c100 => ?_) (fun c100 => ?_)
                · skip
                  refine v_aload hx DX12_worked_130 6 rfl ?_
                  refine v_iload hx DX12_worked_131 2 rfl ?_
                  refine v_cVp hx DX12_worked_133 CVRX12_323 [iv k] (r_isFigure l G Λ sz m hR (rt_fr hT hfm) (by omega)) hR.o rfl rfl (Nat.le_of_ble_eq_true rfl) (by decide) ⟨Nat.le_refl _, Nat.le_refl _⟩ ?_
                  have br133 := bz_rng (isFg T k)
                  refine v_if_eq hx DX12_worked_136 (by omega) (fun c136 => ?_) (fun c136 => ?_)
                  · skip
                    have d136 := bzf c136
                    have gz9 := d136
                    refine v_iload hx DX12_worked_212 1 rfl ?_
                    refine v_push hx DX12_worked_214 ?_
                    refine v_icmp_ne hx DX12_worked_216 (by decide) (by decide) (fun c216 => ?_) (fun c216 => ?_)
                    · skip
                      have w0 : w ≠ 0 := by omega
                      refine v_iload hx DX12_worked_239 3 rfl ?_
                      refine v_if_eq hx DX12_worked_240 (by omega) (fun c240 => ?_) (fun c240 => ?_)
                      · exact absurd c240 (by omega)
                      · skip
                        refine v_aload hx DX12_worked_243 6 rfl ?_
                        refine v_iload hx DX12_worked_244 5 rfl ?_
                        refine v_iload hx DX12_worked_245 4 rfl ?_
                        refine v_cVi hx DX12_worked_246 CVRX12_333 [iv d, iv ex] (r_powered (lev := d) (e := ex) (pa := PA d) (a := PV d) (c := a) l G Λ sz m hR hI.1 (by omega) (by unfold exw at hex; omega) (by have := (hI.2.2.2.1 d hd.1 (Int.le_refl d)).2; omega) (hI.2.2.1 d hd.1 (Int.le_refl d)).1.2 (fun t => (hI.2.2.1 d hd.1 (Int.le_refl d)).2.2 t) (hI.2.1 w0).1 (hI.2.1 w0).2) hR.o rfl rfl (Nat.le_of_ble_eq_true rfl) (by decide) ⟨Nat.le_refl _, Nat.le_refl _⟩ (fun z47 μ46 hμ46 => ?_)
                        obtain ⟨σ1, hq1⟩ := hμ46
                        obtain ⟨ez, pd⟩ := pw_fin hI w0 hd hq1
                        subst ez
                        have per := pwE_rng a ex (PA d) (PV d)
                        refine v_goto hx DX12_worked_249 ?_
                        refine v_istore hx DX12_worked_253 [(6, iv (pwE 0 a ex (PA d) (PV d))), (5, iv 41), (4, iv k), (3, iv ws), (2, iv ex), (1, iv d), (0, .ref ν)] rfl (by decide) ?_
                        refine v_push hx DX12_worked_255 ?_
                        refine v_istore hx DX12_worked_256 [(2, iv (-1)), (6, iv (pwE 0 a ex (PA d) (PV d))), (5, iv 41), (4, iv k), (3, iv ws), (1, iv d), (0, .ref ν)] rfl (by decide) ?_
                        refine v_push hx DX12_worked_257 ?_
                        refine v_istore hx DX12_worked_258 [(3, iv 0), (2, iv (-1)), (6, iv (pwE 0 a ex (PA d) (PV d))), (5, iv 41), (4, iv k), (1, iv d), (0, .ref ν)] rfl (by decide) ?_
                        refine v_iload hx DX12_worked_259 2 rfl ?_
                        refine v_if_ne hx DX12_worked_261 (by omega) (fun c261 => ?_) (fun c261 => ?_)
                        · skip
                          refine v_iload hx DX12_worked_289 2 rfl ?_
                          refine v_if_ne hx DX12_worked_291 (by omega) (fun c291 => ?_) (fun c291 => ?_)
                          · skip
                            refine v_iload hx DX12_worked_369 2 rfl ?_
                            refine v_if_eq hx DX12_worked_371 (by omega) (fun c371 => ?_) (fun c371 => ?_)
                            · exact absurd c371 (by omega)
                            · skip
                              refine v_iload hx DX12_worked_374 2 rfl ?_
                              exact v_ri hx hBD DX12_worked_376 (⟨by rw [← hrn]; exact (run_P (by omega) hq w0 (by omega) (fun t => absurd t (by omega)) (by omega)).symm, σ1, pd.1, fun t => absurd t (by omega), fun r hr => (pd.2.1 r hr).trans (hI.2.2.2.2.1 r hr), hfm.trans (pd.2.2.1.mono (by simp))⟩)
                          · exact absurd c291 (by omega)
                        · skip
                          have pe0 : pwE 0 a ex (PA d) (PV d) = 0 := by omega
                          refine v_iload hx DX12_worked_264 3 rfl ?_
                          refine v_push hx DX12_worked_266 ?_
                          refine v_icmp_eq hx DX12_worked_268 (by decide) (by decide) (fun c268 => ?_) (fun c268 => ?_)
                          · exact absurd c268 (by decide)
                          · skip
                            refine v_iload hx DX12_worked_271 3 rfl ?_
                            refine v_push hx DX12_worked_273 ?_
                            refine v_icmp_ne hx DX12_worked_275 (by decide) (by decide) (fun c275 => ?_) (fun c275 => ?_)
                            · skip
                              refine v_iload hx DX12_worked_289 2 rfl ?_
                              refine v_if_ne hx DX12_worked_291 (by omega) (fun c291 => ?_) (fun c291 => ?_)
                              · exact absurd c291 (by omega)
                              · skip
                                refine v_aload hx DX12_worked_294 6 rfl ?_
                                refine v_push hx DX12_worked_295 ?_
                                refine v_iload hx DX12_worked_297 5 rfl ?_
                                refine v_iadd hx DX12_worked_298 ?_
                                refine v_aload hx DX12_worked_299 6 rfl ?_
                                refine v_get hx DX12_worked_300 FLRX12_102 hR.o (v := .ref (ν + 13)) rfl ?_
                                refine v_iload hx DX12_worked_303 5 rfl ?_
                                refine v_iald hx DX12_worked_304 hR.sumAct (by omega) (by decide) (z := SA d) ((congrFun (pd.2.2.1.1 (ν + 13) (by simp)) d).trans (hI.2.2.1 d hd.1 (Int.le_refl d)).1.1) ?_
                                refine v_push hx DX12_worked_305 ?_
                                refine v_iload hx DX12_worked_307 5 rfl ?_
                                refine v_iadd hx DX12_worked_308 ?_
                                refine v_cVi hx DX12_worked_309 CVRX12_329 [iv (42 + d), iv (SA d), iv (49 + d)] (r_acts (o := 42 + d) (act := SA d) (y := 49 + d) (a := SV d) (v := (opR (PA d) (PV d) (powR a ex))) l G Λ sz μ46 hR pd.1 (by omega) (by omega) (by have := (hI.2.2.2.1 d hd.1 (Int.le_refl d)).1; omega) (fun t => ⟨⟨((pd.2.2.2 pe0).2.2.1 _ (by omega) (by omega) (by omega) (by omega) (by omega)).trans ((hI.2.2.1 d hd.1 (Int.le_refl d)).2.1 t).1.1, ((pd.2.2.2 pe0).2.2.1 _ (by omega) (by omega) (by omega) (by omega) (by omega)).trans ((hI.2.2.1 d hd.1 (Int.le_refl d)).2.1 t).1.2⟩, ((hI.2.2.1 d hd.1 (Int.le_refl d)).2.1 t).2⟩) (pd.2.2.2 pe0).1 (pd.2.2.2 pe0).2.1) hR.o rfl rfl (Nat.le_of_ble_eq_true rfl) (by decide) ⟨Nat.le_refl _, Nat.le_refl _⟩ (fun z49 μ48 hμ48 => ?_)
                                obtain ⟨ez2, σ2, w2, x2, k2, f2⟩ := hμ48
                                subst ez2
                                have qer := opA_rng (SA d) (SV d) (opR (PA d) (PV d) (powR a ex))
                                refine v_istore hx DX12_worked_312 [(6, iv (opA (SA d) (SV d) (opR (PA d) (PV d) (powR a ex)))), (3, iv 0), (2, iv (-1)), (5, iv 41), (4, iv k), (1, iv d), (0, .ref ν)] rfl (by decide) ?_
                                refine v_aload hx DX12_worked_314 6 rfl ?_
                                refine v_get hx DX12_worked_315 FLRX12_102 hR.o (v := .ref (ν + 13)) rfl ?_
                                refine v_iload hx DX12_worked_318 5 rfl ?_
                                refine v_iload hx DX12_worked_319 3 rfl ?_
                                refine v_push hx DX12_worked_321 ?_
                                refine v_icmp_ne hx DX12_worked_323 (by decide) (by decide) (fun c323 => ?_) (fun c323 => ?_)
                                · exact absurd c323 (by decide)
                                · skip
                                  refine v_push hx DX12_worked_326 ?_
                                  refine v_goto hx DX12_worked_327 ?_
                                  refine v_iastm hx DX12_worked_332 hR.sumAct (by omega) (by decide) (fun μ50 eμ50 => ?_)
                                  have hf5 : Fr [ν + 1, ν + 2, ν + 13, ν + 14] μ μ50 := (((hfm.trans (pd.2.2.1.mono (by simp))).trans (f2.mono (by simp))).trans (by rw [eμ50]; exact Fr.mI (by simp)))
                                  refine v_iload hx DX12_worked_333 0 rfl ?_
                                  refine v_if_ne hx DX12_worked_335 (by omega) (fun c335 => ?_) (fun c335 => ?_)
                                  · skip
                                    refine v_iload hx DX12_worked_369 0 rfl ?_
                                    refine v_if_eq hx DX12_worked_371 (by omega) (fun c371 => ?_) (fun c371 => ?_)
                                    · exact absurd c371 (by omega)
                                    · skip
                                      refine v_iload hx DX12_worked_374 0 rfl ?_
                                      exact v_ri hx hBD DX12_worked_376 (⟨by rw [← hrn]; exact (run_Q (by omega) hq w0 (by omega) (fun t => absurd t (by omega)) pe0 (by omega)).symm, σ2, w2.fr (by rw [eμ50, mI_ne (by omega)]), fun t => absurd t (by omega), fun r hr => ((k2 r (by omega) (by omega) (by omega)).trans (pd.2.1 r hr)).trans (hI.2.2.2.2.1 r hr), hf5⟩)
                                  · skip
                                    refine v_iload hx DX12_worked_338 3 rfl ?_
                                    refine v_push hx DX12_worked_340 ?_
                                    refine v_icmp_ne hx DX12_worked_342 (by decide) (by decide) (fun c342 => ?_) (fun c342 => ?_)
                                    · exact absurd c342 (by decide)
                                    · skip
                                      have pd0 := pd
                                      rw [pe0] at pd0
                                      have h5 := hI.sum (c := 0) hd pd0 w2 (x2 (by omega)) (by omega) k2 f2 (Or.inl rfl)
                                      have x2z := x2 (by omega)
                                      rw [← eμ50] at h5
                                      refine v_iload hx DX12_worked_345 4 rfl ?_
                                      refine v_aload hx DX12_worked_347 6 rfl ?_
                                      refine v_get hx DX12_worked_348 FLRX12_320 hR.o (fv_i rfl ((congrFun (hf5.1 ν (by simp)) 25).trans hT.2.1) : _ = iv (T.length : Int)) ?_
                                      refine v_icmp_ge hx DX12_worked_351 (by omega) (by omega) (fun c351 => ?_) (fun c351 => ?_)
                                      · skip
                                        refine v_iload hx DX12_worked_369 0 rfl ?_
                                        refine v_if_eq hx DX12_worked_371 (by omega) (fun c371 => ?_) (fun c371 => ?_)
                                        · skip
                                          refine v_iinc hx DX12_worked_377 4 rfl [(4, iv (k + 1)), (6, iv (opA (SA d) (SV d) (opR (PA d) (PV d) (powR a ex)))), (3, iv 0), (2, iv (-1)), (5, iv 41), (1, iv d), (0, .ref ν)] rfl (by decide) ?_
                                          refine v_goto hx DX12_worked_380 ?_
                                          exact v_sub [0, 2, 3, 5, 6] _ rfl (ih (k + 1) 0 d (-1) 0 n1 a SA PA SV PV μ50 σ2 (by omega) (by omega) (Or.inl ⟨rfl, rfl⟩) hf5 (fun t => absurd t (by omega)) (fun _ => by (have e : run T (n1 + 1) k w d 0 a ex SA PA SV PV = (smE (pwE 0 a ex (PA d) (PV d)) (SA d) (SV d) (opR (PA d) (PV d) (powR a ex)), (opR (SA d) (SV d) (opR (PA d) (PV d) (powR a ex)))) := by rw [run, if_pos (by omega)]); rw [hrn] at e; rw [e]; exact ⟨by show smE (pwE 0 a ex (PA d) (PV d)) (SA d) (SV d) (opR (PA d) (PV d) (powR a ex)) = 0; rw [pe0]; exact (if_neg (by decide)).trans (by omega), h5.1.1, (by have t := x2z; rw [show (42 : Int) + d = 42 by omega] at t; exact t), h5.2, h5.1.2.2.2.2.1⟩))
                                        · exact absurd c371 (by omega)
                                      · skip
                                        exact absurd c351 (by omega)
                            · exact absurd c275 (by decide)
                    · exact absurd c216 (by decide)
                  · skip
                    have d136 := bzt c136
                    have gz10 := d136
                    exact absurd d136.2.1 (by omega)
                · exact absurd c100 (by decide)
              · skip
                exact absurd c84 (by unfold exw at hex; omega)
            · exact absurd c72 (by decide)
          · exact absurd c62 (by decide)
  refine v_push hx DX12_worked_0 ?_
  refine v_istore hx DX12_worked_1 [(1, iv 0), (0, .ref ν)] rfl (by decide) ?_
  refine v_push hx DX12_worked_2 ?_
  refine v_istore hx DX12_worked_3 [(2, iv (-1)), (1, iv 0), (0, .ref ν)] rfl (by decide) ?_
  refine v_push hx DX12_worked_4 ?_
  refine v_istore hx DX12_worked_5 [(3, iv 0), (2, iv (-1)), (1, iv 0), (0, .ref ν)] rfl (by decide) ?_
  refine v_aload hx DX12_worked_6 3 rfl ?_
  refine v_get hx DX12_worked_7 FLRX12_102 hR.o (v := .ref (ν + 13)) rfl ?_
  refine v_push hx DX12_worked_10 ?_
  refine v_push hx DX12_worked_11 ?_
  refine v_iastm hx DX12_worked_12 hR.sumAct (by omega) (by decide) (fun μ51 eμ51 => ?_)
  refine v_aload hx DX12_worked_13 3 rfl ?_
  refine v_get hx DX12_worked_14 FLRX12_105 hR.o (v := .ref (ν + 14)) rfl ?_
  refine v_push hx DX12_worked_17 ?_
  refine v_push hx DX12_worked_18 ?_
  refine v_iastm hx DX12_worked_19 hR.partAct (by omega) (by decide) (fun μ52 eμ52 => ?_)
  refine v_push hx DX12_worked_20 ?_
  refine v_istore hx DX12_worked_21 [(4, iv 0), (3, iv 0), (2, iv (-1)), (1, iv 0), (0, .ref ν)] rfl (by decide) ?_
  exact v_sub [0, 1, 2, 3, 4] _ rfl (L23 200 0 0 0 (-1) 0 92 f00 (fun _ => 0) (fun _ => 0) (fun _ => f00) (fun _ => f00) μ52 ρ (by omega) (by omega) (Or.inl ⟨rfl, rfl⟩) ((show Fr [ν + 1, ν + 2, ν + 13, ν + 14] μ μ51 from (by rw [eμ51]; exact Fr.mI (by simp))).trans (by rw [eμ52]; exact Fr.mI (by simp))) (fun _ => ⟨by rw [eμ52, eμ51]; exact wk_start hw, Or.inl ⟨rfl, rfl⟩, by omega, by omega, hfl, rfl⟩) (fun t => absurd t (by omega)))
