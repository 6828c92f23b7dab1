/-! ===== the constants of the rests: class and reference ===== -/
theorem sm_ne {q : PS} {c : F} (hq : q ≠ PS.zero) (h : q.sm c ≠ PS.zero) : c ≠ 0 := fun e => h (by rw [e]; funext n; show (0 : F) * q n = 0; grind)
theorem hd_ne {q : PS} (hq : q.fin) (h0 : q ≠ PS.zero) : fi (hdI q) ≠ 0 := by
  obtain ⟨n, -, hz⟩ := PS.fne_isz hq h0
  rw [hdI_eq hz]
  rcases hz.1 with h | h
  · omega
  · exact h
theorem fi_iv {q : PS} (hq : q.fin) (h0 : q ≠ PS.zero) (e : F) : fi (cf (q.sm e) ((q.size : Int) - 1) * ivI (hdI q) % 101) = e := by
  obtain ⟨n, hn, hz⟩ := PS.fne_isz hq h0
  have hs : q.size = n + 1 := PS.size_eq hz
  rw [fi_mod, fi_mul, fi_cf, fi_ivI, hdI_eq hz, hs]
  show e * q (((n + 1 : Nat) : Int) - 1).toNat * finv (q n) = e
  rw [show (((n + 1 : Nat) : Int) - 1).toNat = n by omega]
  have hne : q n ≠ 0 := by
    rcases hz.1 with h | h
    · omega
    · exact h
  have := finv_mul _ hne
  grind
theorem ratI_of {p q : PS} {e : Int} (hq : q.fin) (h0 : q ≠ PS.zero) (he : 0 ≤ e ∧ e < 101) (h : p = q.sm (fi e)) : ratI p q = e := by
  have hp := PS.fpos hq h0
  have e1 : fi (ca p ((q.size : Int) - 1) * ivI (hdI q) % 101) = fi e := by
    rw [ca_of (by omega), h]; exact fi_iv hq h0 _
  have e2 : ca p ((q.size : Int) - 1) * ivI (hdI q) % 101 = e := fi_inj (by omega) he e1
  unfold ratI
  rw [if_pos (by rw [e2]; exact h), e2]
theorem ratI_no {p q : PS} (h : ∀ e : Int, 0 ≤ e → e < 101 → p ≠ q.sm (fi e)) : ratI p q = -1 := by
  unfold ratI
  rw [if_neg (h _ (by omega) (by omega))]
theorem ratI_yes {p q : PS} (h : 0 ≤ ratI p q) : p = q.sm (fi (ratI p q)) := by
  unfold ratI at h ⊢
  split
  · assumption
  · rename_i c; rw [if_neg c] at h; omega
theorem ratI_zero (p : PS) : ratI p PS.zero = if bz (p = PS.zero) = 1 then 0 else -1 := by
  have z : ∀ c : F, PS.zero.sm c = PS.zero := fun c => by funext n; show c * (0 : F) = 0; grind
  by_cases c : p = PS.zero
  · rw [if1 c]
    unfold ratI
    rw [if_pos (by rw [z]; exact c), ca, if_pos (by rw [PS.zero_sz]; omega)]
    omega
  · rw [if0 c]
    exact ratI_no (fun e _ _ q => c (by rw [q, z]))
theorem RDP.sm {n d : PS} {c : F} (h : RDP n d) (hc : c ≠ 0) : RDP (n.sm c) d :=
  ⟨PS.fin_sm _ h.1, h.2.1, h.2.2.1, h.2.2.2.1, fun P hP q => h.2.2.2.2 P hP (by
    have := PS.dvd_sm (finv c) q
    rw [PS.sm_sm, show finv c * c = 1 by have := finv_mul _ hc; grind, PS.sm_one] at this
    exact this)⟩
theorem alg_c1 {α : Type} [Lean.Grind.CommRing α] (N D u s d1 d2 e : α) (h : N * u = e * (D * s)) (hd : d1 * u = s * d2) : u * (N * d2) = u * ((e * d1) * D) := by
  have e1 : u * (N * d2) = (N * u) * d2 := by grind
  have e2 : u * ((e * d1) * D) = e * D * (d1 * u) := by grind
  rw [e1, e2, h, hd]; grind
theorem alg_c2 {α : Type} [Lean.Grind.CommRing α] (u s d1 d2 e : α) (hd : d1 * u = s * d2) : (e * d1) * u = e * (d2 * s) := by
  have e1 : (e * d1) * u = e * (d1 * u) := by grind
  rw [e1, hd]; grind
theorem cst_mul {a : FP2} {u s : PS} (ha : RDP a.1 a.2) (hu : u.fin) (hs : s.fin) (hu0 : u ≠ PS.zero) (hs0 : s ≠ PS.zero) (zu : u.size < 200) : ratI (a.1.mul u) (a.2.mul s) = mulI a (frd s u) := by
  have fd := rd_spec hs hu hu0 zu
  have fq := PS.fin_mul ha.2.1 hs
  have nq := PS.fmul_ne ha.2.1 hs ha.2.2.1 hs0
  have nd : rdN s u ≠ PS.zero := fun q => by
    have := fd.2.1
    rw [q, PS.zero_mul] at this
    exact PS.fmul_ne hs fd.1.2.1 hs0 fd.1.2.2.1 this.symm
  unfold mulI
  by_cases c : a.1 = PS.zero
  · rw [if_pos c]
    refine ratI_of fq nq (by omega) ?_
    rw [c, PS.zero_mul]
    funext n; show (0 : F) = fi 0 * _; rw [fi_0]; grind
  · rw [if_neg c]
    have np := PS.fmul_ne ha.1 hu c hu0
    by_cases k : (rdN s u).sm (fi (hdI a.1 * ivI (hdI (rdN s u)) % 101)) = a.1 ∧ rdD s u = a.2
    · have k' : (frd s u).1.sm (fi (hdI a.1 * ivI (hdI (frd s u).1) % 101)) = a.1 ∧ (frd s u).2 = a.2 := k
      rw [if_pos k']
      refine ratI_of fq nq (by omega) ?_
      obtain ⟨k1, k2⟩ := k
      have q := @alg_c2 PS psRing u s (rdN s u) (rdD s u) (PS.C (fi (hdI a.1 * ivI (hdI (rdN s u)) % 101))) fd.2.1
      have q2 : ((rdN s u).sm (fi (hdI a.1 * ivI (hdI (rdN s u)) % 101))).mul u = ((rdD s u).mul s).sm (fi (hdI a.1 * ivI (hdI (rdN s u)) % 101)) := by rw [sm_C, sm_C]; exact q
      rw [k1, k2] at q2
      exact q2
    · have k' : ¬ ((frd s u).1.sm (fi (hdI a.1 * ivI (hdI (frd s u).1) % 101)) = a.1 ∧ (frd s u).2 = a.2) := k
      rw [if_neg k']
      refine ratI_no (fun e h0 h1 q => k ?_)
      have en : fi e ≠ 0 := sm_ne nq (by rw [← q]; exact np)
      rw [sm_C] at q
      have q1 := PS.cancel hu (PS.fin_mul ha.1 fd.1.2.1) (PS.fin_mul (PS.fin_mul (PS.fin_C _) fd.1.1) ha.2.1) hu0 (@alg_c1 PS psRing a.1 a.2 u s (rdN s u) (rdD s u) (PS.C (fi e)) q fd.2.1)
      have r := fd.1.sm (c := fi e) en
      rw [sm_C] at r
      have t := RDP.un ha r q1
      have t1 : a.1 = (rdN s u).sm (fi e) := by rw [sm_C]; exact t.1
      refine ⟨?_, t.2.symm⟩
      have hd := fi_iv fd.1.1 nd (fi e)
      have hsz : a.1.size = (rdN s u).size := by rw [t1]; exact PS.size_eq (PS.isz_sm en (PS.fisz fd.1.1))
      have hpos := PS.fpos fd.1.1 nd
      have hh : hdI a.1 = cf ((rdN s u).sm (fi e)) (((rdN s u).size : Int) - 1) := by
        unfold hdI
        rw [if_neg (by omega), hsz, ← t1]
      rw [hh, hd]
      exact t1.symm
theorem Bd.us {b : Bd} (h : b.good) (hk : b.2.2.1 ≠ 0) : b.uP.fin ∧ b.uP.der.fin ∧ b.uP ≠ PS.zero ∧ b.uP.der ≠ PS.zero := by
  have q := Bd.uP_ne h hk
  have f : b.uP.fin := ⟨_, b.uP_lt⟩
  refine ⟨f, PS.fin_der f, q.1, fun e => ?_⟩
  have z := b.uP_sz
  obtain ⟨n, hn, hz⟩ := PS.fne_isz f q.1
  have hs : b.uP.size = n + 1 := PS.size_eq hz
  obtain ⟨m, rfl⟩ : ∃ m, n = m + 1 := ⟨n - 1, by omega⟩
  have h1 := congrFun e m
  have h2 : b.uP (m + 1) ≠ 0 := by
    rcases hz.1 with t | t
    · omega
    · exact t
  have h3 : b.uP.der m = fi ((m : Int) + 1) * b.uP (m + 1) := rfl
  rw [h3] at h1
  refine h2 (F_dom h1 ?_)
  have : m = 0 ∨ m = 1 ∨ m = 2 := by omega
  rcases this with rfl | rfl | rfl <;> decide
