/-! ===== derivative of products; multiplicities ===== -/
theorem fi_succ (n : Nat) : fi ((n : Int) + 1) = fi (n : Int) + 1 := by rw [fi_add, fi_1]
theorem PS.der_mul (p q : PS) : (p.mul q).der = (p.der.mul q).add (p.mul q.der) := PS.ext fun n => by
  show fi ((n : Int) + 1) * fsum (fun i => p i * q (n + 1 - i)) (n + 1 + 1) = fsum (fun i => (fi ((i : Int) + 1) * p (i + 1)) * q (n - i)) (n + 1) + fsum (fun i => p i * (fi (((n - i : Nat) : Int) + 1) * q (n - i + 1))) (n + 1)
  have h1 : fi ((n : Int) + 1) * fsum (fun i => p i * q (n + 1 - i)) (n + 1 + 1) = fsum (fun i => fi (i : Int) * (p i * q (n + 1 - i))) (n + 1 + 1) + fsum (fun i => fi (((n + 1 - i : Nat) : Int)) * (p i * q (n + 1 - i))) (n + 1 + 1) := by
    rw [← fsum_mul, ← fsum_add]
    refine fsum_congr (fun i hi => ?_)
    have e : fi ((n : Int) + 1) = fi (i : Int) + fi (((n + 1 - i : Nat) : Int)) := by
      rw [← fi_add]; congr 1; omega
    rw [e]; grind
  rw [h1, fsum_front (fun i => fi (i : Int) * (p i * q (n + 1 - i))) (n + 1), show fsum (fun i => fi (((n + 1 - i : Nat) : Int)) * (p i * q (n + 1 - i))) (n + 1 + 1) = fsum (fun i => fi (((n + 1 - i : Nat) : Int)) * (p i * q (n + 1 - i))) (n + 1) + fi (((n + 1 - (n + 1) : Nat) : Int)) * (p (n + 1) * q (n + 1 - (n + 1))) from rfl]
  have z1 : fi ((0 : Nat) : Int) = 0 := by decide
  have z2 : fi (((n + 1 - (n + 1) : Nat)) : Int) = 0 := by rw [Nat.sub_self]; decide
  rw [z1, z2]
  have e1 : fsum (fun i => fi ((i + 1 : Nat) : Int) * (p (i + 1) * q (n + 1 - (i + 1)))) (n + 1) = fsum (fun i => (fi ((i : Int) + 1) * p (i + 1)) * q (n - i)) (n + 1) :=
    fsum_congr (fun i _ => by
      rw [show n + 1 - (i + 1) = n - i by omega, show ((i + 1 : Nat) : Int) = (i : Int) + 1 by omega]; grind)
  have e2 : fsum (fun i => fi (((n + 1 - i : Nat) : Int)) * (p i * q (n + 1 - i))) (n + 1) = fsum (fun i => p i * (fi (((n - i : Nat) : Int) + 1) * q (n - i + 1))) (n + 1) :=
    fsum_congr (fun i hi => by
      rw [show n + 1 - i = n - i + 1 by omega, show ((n - i + 1 : Nat) : Int) = ((n - i : Nat) : Int) + 1 by omega]; grind)
  rw [e1, e2]; grind
theorem PS.der_add (p q : PS) : (p.add q).der = p.der.add q.der := PS.ext fun n => by
  show fi ((n : Int) + 1) * (p (n + 1) + q (n + 1)) = fi ((n : Int) + 1) * p (n + 1) + fi ((n : Int) + 1) * q (n + 1)
  grind
theorem PS.der_sub (p q : PS) : (p.sub q).der = p.der.sub q.der := PS.ext fun n => by
  show fi ((n : Int) + 1) * (p (n + 1) - q (n + 1)) = fi ((n : Int) + 1) * p (n + 1) - fi ((n : Int) + 1) * q (n + 1)
  grind
theorem PS.der_sm (c : F) (p : PS) : (p.sm c).der = p.der.sm c := PS.ext fun n => by
  show fi ((n : Int) + 1) * (c * p (n + 1)) = c * (fi ((n : Int) + 1) * p (n + 1))
  grind
theorem PS.der_C (c : F) : (PS.C c).der = PS.zero := PS.ext fun n => by
  show fi ((n : Int) + 1) * (if n + 1 = 0 then c else 0) = 0
  rw [if_neg (by omega)]; grind
theorem PS.der_zero : PS.zero.der = PS.zero := PS.ext fun n => by
  show fi ((n : Int) + 1) * 0 = 0
  grind
/-- (p^(n+1))' = (n+1) p^n p' -/
theorem PS.der_pw (p : PS) (n : Nat) : (p.pw (n + 1)).der = ((p.pw n).mul p.der).sm (fi ((n : Int) + 1)) := by
  induction n with
  | zero =>
    have e : p.pw (0 + 1) = p := PS.one_mul p
    rw [e]
    have e2 : (p.pw 0).mul p.der = p.der := PS.one_mul _
    rw [e2, show fi (((0 : Nat) : Int) + 1) = 1 by decide, PS.sm_one]
  | succ n ih =>
    have e : p.pw (n + 1 + 1) = (p.pw (n + 1)).mul p := rfl
    rw [e, PS.der_mul, ih]
    have e3 : p.pw (n + 1) = (p.pw n).mul p := rfl
    rw [e3]
    have e4 : fi (((n + 1 : Nat) : Int) + 1) = fi ((n : Int) + 1) + 1 := by rw [show (((n + 1 : Nat) : Int) + 1) = ((n : Int) + 1) + 1 by omega, fi_add, fi_1]
    rw [e4]
    generalize fi ((n : Int) + 1) = c
    rw [← PS.C_mul, ← PS.C_mul]
    have e5 : PS.C (c + 1) = (PS.C c).add PS.one := PS.ext fun k => by
      show (if k = 0 then c + 1 else 0) = (if k = 0 then c else 0) + (if k = 0 then 1 else 0)
      split <;> grind
    rw [e5]
    generalize PS.C c = X
    generalize p.pw n = Y
    letI := psRing
    show (X * (Y * p.der)) * p + (Y * p) * p.der = (X + 1) * ((Y * p) * p.der)
    grind
theorem PS.pw_add (p : PS) (n m : Nat) : p.pw (n + m) = (p.pw n).mul (p.pw m) := by
  induction m with
  | zero => show p.pw n = (p.pw n).mul PS.one; rw [PS.mul_comm, PS.one_mul]
  | succ m ih =>
    show (p.pw (n + m)).mul p = (p.pw n).mul ((p.pw m).mul p)
    rw [ih, PS.mul_assoc]
theorem PS.pw_ne {p : PS} (hp : p.fin) (h0 : p ≠ PS.zero) (n : Nat) : p.pw n ≠ PS.zero := by
  induction n with
  | zero =>
    intro h
    have : (PS.one : PS) 0 = 0 := congrFun h 0
    revert this
    decide
  | succ n ih => exact PS.fmul_ne (PS.fin_pw hp n) hp ih h0
/-- a is P^k c, and P doesn't divide c -/
def PS.mlt (P : PS) (a : PS) (k : Nat) : Prop := ∃ c : PS, c.fin ∧ a = (P.pw k).mul c ∧ ¬ P.dvd c
theorem PS.mlt_ex {P : PS} (h : P.irr) : ∀ (n : Nat) (a : PS), a.fin → a ≠ PS.zero → a.size ≤ n → ∃ k, P.mlt a k ∧ k < a.size := by
  intro n
  induction n with
  | zero => intro a ha h0 hs; have := PS.fpos ha h0; omega
  | succ n ih =>
    intro a ha h0 hs
    by_cases hd : P.dvd a
    · obtain ⟨c, hc, rfl⟩ := hd
      have hc0 : c ≠ PS.zero := fun e => h0 (by rw [e, PS.zero_mul])
      have h1 := PS.fsize_mul hc h.1 hc0 (PS.irr_ne h)
      have h2 := h.2.1
      obtain ⟨k, ⟨d, hd, e, hnd⟩, hk⟩ := ih c hc hc0 (by omega)
      refine ⟨k + 1, ⟨d, hd, ?_, hnd⟩, by omega⟩
      rw [e]
      show ((P.pw k).mul d).mul P = ((P.pw k).mul P).mul d
      generalize P.pw k = X
      letI := psRing
      show X * d * P = X * P * d
      grind
    · exact ⟨0, ⟨a, ha, (PS.one_mul a).symm, hd⟩, PS.fpos ha h0⟩
theorem PS.mlt_un {P a : PS} {k j : Nat} (h : P.irr) (h1 : P.mlt a k) (h2 : P.mlt a j) : k = j := by
  have key : ∀ (k j : Nat), P.mlt a k → P.mlt a j → ¬ k < j := by
    intro k j ⟨c, hc, e1, n1⟩ ⟨d, hd, e2, n2⟩ hlt
    have e3 : j = k + (j - k - 1 + 1) := by omega
    rw [e3, PS.pw_add, e1, PS.mul_assoc] at e2
    have e4 := PS.cancel (PS.fin_pw h.1 k) hc (PS.fin_mul (PS.fin_pw h.1 _) hd) (PS.pw_ne h.1 (PS.irr_ne h) k) e2
    apply n1
    rw [e4]
    exact PS.dvd_mul_right d hd ⟨_, PS.fin_pw h.1 _, rfl⟩
  rcases Nat.lt_trichotomy k j with q | q | q
  · exact absurd q (key k j h1 h2)
  · exact q
  · exact absurd q (key j k h2 h1)
theorem PS.mlt_mul {P a b : PS} {k j : Nat} (h : P.irr) (h1 : P.mlt a k) (h2 : P.mlt b j) (hs : a.size < 200) : P.mlt (a.mul b) (k + j) := by
  obtain ⟨c, hc, e1, n1⟩ := h1
  obtain ⟨d, hd, e2, n2⟩ := h2
  refine ⟨c.mul d, PS.fin_mul hc hd, ?_, fun z => ?_⟩
  · rw [e1, e2, PS.pw_add]
    generalize P.pw k = X
    generalize P.pw j = Y
    letI := psRing
    show X * c * (Y * d) = X * Y * (c * d)
    grind
  · have hcs : c.size < 200 := by
      by_cases hc0 : c = PS.zero
      · rw [hc0, PS.size_zero]; omega
      · have := PS.dvd_size hc (show c.dvd a from ⟨P.pw k, PS.fin_pw h.1 k, e1⟩) (by rw [e1]; exact PS.fmul_ne (PS.fin_pw h.1 k) hc (PS.pw_ne h.1 (PS.irr_ne h) k) hc0)
        omega
    rcases PS.irr_prime h hc hd hcs z with q | q
    · exact n1 q
    · exact n2 q
theorem PS.mlt_pos {P a : PS} {k : Nat} (h : P.irr) (h1 : P.mlt a k) : P.dvd a ↔ 0 < k := by
  constructor
  · intro hd
    apply Classical.byContradiction
    intro hk
    obtain ⟨c, hc, e, n⟩ := h1
    rw [show k = 0 by omega] at e
    have e' : a = PS.one.mul c := e
    rw [PS.one_mul] at e'
    exact n (e' ▸ hd)
  · intro hk
    obtain ⟨c, hc, e, n⟩ := h1
    rw [e, show k = k - 1 + 1 by omega]
    exact PS.dvd_mul_right c hc ⟨_, PS.fin_pw h.1 _, rfl⟩
theorem PS.mlt_ge {P a : PS} {k j : Nat} (h : P.irr) (h1 : P.mlt a k) : (P.pw j).dvd a ↔ j ≤ k := by
  constructor
  · intro hd
    apply Classical.byContradiction
    intro hk
    obtain ⟨c, hc, e, n⟩ := h1
    obtain ⟨u, hu, e2⟩ := hd
    rw [show j = k + (j - k - 1 + 1) by omega, PS.pw_add] at e2
    have e3 : (P.pw k).mul c = (P.pw k).mul (u.mul (P.pw (j - k - 1 + 1))) := by
      rw [← e, e2]
      generalize P.pw k = X
      generalize P.pw (j - k - 1 + 1) = Y
      letI := psRing
      show u * (X * Y) = X * (u * Y)
      grind
    have e4 := PS.cancel (PS.fin_pw h.1 k) hc (PS.fin_mul hu (PS.fin_pw h.1 _)) (PS.pw_ne h.1 (PS.irr_ne h) k) e3
    apply n
    rw [e4]
    exact PS.dvd_mul_left u hu ⟨_, PS.fin_pw h.1 _, rfl⟩
  · intro hk
    obtain ⟨c, hc, e, n⟩ := h1
    rw [e, show k = (k - j) + j by omega, PS.pw_add]
    refine ⟨(P.pw (k - j)).mul c, PS.fin_mul (PS.fin_pw h.1 _) hc, ?_⟩
    generalize P.pw (k - j) = X
    generalize P.pw j = Y
    letI := psRing
    show X * Y * c = X * c * Y
    grind
/-- the derivative of a prime polynomial isn't divided by it -/
theorem fi_small {k : Int} (h1 : 0 < k) (h2 : k < 101) : fi k ≠ 0 := fun e => by
  have := (fi_zero (a := k) (by omega)).mp e
  omega
theorem PS.der_isz {P : PS} {n : Nat} (h : P.isz (n + 2)) (hn : n < 100) : P.der.isz (n + 1) := by
  refine ⟨Or.inr ?_, PS.der_lt h.2⟩
  show fi (((n + 1 - 1 : Nat) : Int) + 1) * P (n + 1 - 1 + 1) ≠ 0
  rw [show n + 1 - 1 = n by omega]
  intro e
  exact h.1.resolve_left (by omega) (F_dom e (fi_small (by omega) (by omega)))
theorem PS.irr_der {P : PS} (h : P.irr) (hs : P.size ≤ 101) : ¬ P.dvd P.der := by
  obtain ⟨n, hn, hz⟩ := PS.fne_isz h.1 (PS.irr_ne h)
  have h2 := h.2.1
  rw [show n + 1 = (n - 1) + 2 by omega] at hz
  have h3 := PS.der_isz hz (by omega)
  intro hd
  have h4 : P.der ≠ PS.zero := fun e => by
    have h5 := PS.size_eq h3
    rw [e, PS.size_zero] at h5
    omega
  have h6 := (PS.dvd_size h.1 hd h4).1
  rw [PS.size_eq h3] at h6
  omega
theorem PS.ndvd_sm {P a : PS} {c : F} (hc : c ≠ 0) (h : ¬ P.dvd a) : ¬ P.dvd (a.sm c) := fun hd => h (by
  have h1 := PS.dvd_sm (finv c) hd
  rw [PS.sm_sm, show finv c * c = 1 by have := finv_mul c hc; grind, PS.sm_one] at h1
  exact h1)
theorem PS.add_sub_cancel' {a b : PS} : (a.add b).sub b = a := PS.ext fun n => by
  show a n + b n - b n = a n
  grind
theorem PS.ndvd_add {P a b : PS} (h : ¬ P.dvd a) (hb : P.dvd b) : ¬ P.dvd (a.add b) := fun hd => h (by
  have h1 := PS.dvd_sub hd hb
  rw [PS.add_sub_cancel'] at h1
  exact h1)
theorem PS.mlt_der {P a : PS} {k : Nat} (h : P.irr) (hPs : P.size ≤ 101) (hk : k < 100) (h1 : P.mlt a (k + 1)) : P.mlt a.der k := by
  obtain ⟨c, hc, e, n⟩ := h1
  refine ⟨((P.der.mul c).sm (fi ((k : Int) + 1))).add (P.mul c.der), PS.fin_add (PS.fin_sm _ (PS.fin_mul (PS.fin_der h.1) hc)) (PS.fin_mul h.1 (PS.fin_der hc)), ?_, ?_⟩
  · rw [e, PS.der_mul, PS.der_pw]
    have e3 : P.pw (k + 1) = (P.pw k).mul P := rfl
    rw [e3]
    generalize fi ((k : Int) + 1) = x
    rw [← PS.C_mul, ← PS.C_mul]
    generalize PS.C x = X
    generalize P.pw k = Y
    generalize P.der = P'
    generalize c.der = c'
    letI := psRing
    show X * (Y * P') * c + Y * P * c' = Y * (X * (P' * c) + P * c')
    grind
  · refine PS.ndvd_add (PS.ndvd_sm (fi_small (by omega) (by omega)) ?_) (PS.dvd_mul_right _ (PS.fin_der hc) (PS.dvd_refl P))
    intro hd
    have hs : P.der.size < 200 := by
      obtain ⟨m, hm⟩ := h.1
      have := PS.size_le (PS.der_lt (PS.lt_mono (PS.lt_size hm) (Nat.le_succ _)))
      omega
    rcases PS.irr_prime h (PS.fin_der h.1) hc hs hd with q | q
    · exact PS.irr_der h hPs q
    · exact n q
/-- who has no fewer of each prime divisor is divided -/
theorem PS.dvd_of_mlt : ∀ (n : Nat) (a b : PS), a.fin → b.fin → a ≠ PS.zero → b ≠ PS.zero → a.size ≤ n → a.size < 200 → b.size < 200 → (∀ P : PS, P.irr → ∀ i j, P.mlt a i → P.mlt b j → i ≤ j) → a.dvd b := by
  intro n
  induction n with
  | zero => intro a b ha _ h0 _ hs; have := PS.fpos ha h0; omega
  | succ n ih =>
    intro a b ha hb ha0 hb0 hs hs2 hs3 hall
    rcases Nat.lt_or_ge 1 a.size with q | q
    · obtain ⟨P, hP, hd⟩ := PS.irr_ex a.size a ha q (Nat.le_refl _)
      obtain ⟨i, hi, -⟩ := PS.mlt_ex hP a.size a ha ha0 (Nat.le_refl _)
      obtain ⟨j, hj, -⟩ := PS.mlt_ex hP b.size b hb hb0 (Nat.le_refl _)
      have h1 := (PS.mlt_pos hP hi).mp hd
      have h2 := hall P hP i j hi hj
      have hdb := (PS.mlt_pos hP hj).mpr (by omega)
      obtain ⟨a1, ha1, e1⟩ := hd
      obtain ⟨b1, hb1, e2⟩ := hdb
      have ha10 : a1 ≠ PS.zero := fun e => ha0 (by rw [e1, e, PS.zero_mul])
      have hb10 : b1 ≠ PS.zero := fun e => hb0 (by rw [e2, e, PS.zero_mul])
      have s1 := PS.fsize_mul ha1 hP.1 ha10 (PS.irr_ne hP)
      have s2 := PS.fsize_mul hb1 hP.1 hb10 (PS.irr_ne hP)
      rw [← e1] at s1
      rw [← e2] at s2
      have s3 := hP.2.1
      have h3 := ih a1 b1 ha1 hb1 ha10 hb10 (by omega) (by omega) (by omega) (fun P' hP' i' j' hi' hj' => by
        obtain ⟨k, hk, -⟩ := PS.mlt_ex hP' P.size P hP.1 (PS.irr_ne hP) (Nat.le_refl _)
        have g1 := PS.mlt_mul hP' hi' hk (by omega)
        have g2 := PS.mlt_mul hP' hj' hk (by omega)
        rw [← e1] at g1
        rw [← e2] at g2
        have := hall P' hP' _ _ g1 g2
        omega)
      obtain ⟨u, hu, e3⟩ := h3
      exact ⟨u, hu, by rw [e2, e3, e1, PS.mul_assoc]⟩
    · exact PS.const_dvd ha (by have := PS.fpos ha ha0; omega) hb
