/-! ===== divisors, prime polynomials, multiplicities ===== -/
def PS.fin (p : PS) : Prop := ∃ N, p.lt N
theorem PS.fin_zero : PS.zero.fin := ⟨0, PS.zero_lt 0⟩
theorem PS.fin_C (c : F) : (PS.C c).fin := ⟨1, PS.C_lt c⟩
theorem PS.fin_one : PS.one.fin := PS.fin_C 1
theorem PS.fin_add {p q : PS} (hp : p.fin) (hq : q.fin) : (p.add q).fin := by
  obtain ⟨N, h1⟩ := hp
  obtain ⟨M, h2⟩ := hq
  exact ⟨N + M, PS.lt_add (PS.lt_mono h1 (by omega)) (PS.lt_mono h2 (by omega))⟩
theorem PS.fin_sub {p q : PS} (hp : p.fin) (hq : q.fin) : (p.sub q).fin := by
  obtain ⟨N, h1⟩ := hp
  obtain ⟨M, h2⟩ := hq
  exact ⟨N + M, PS.lt_sub (PS.lt_mono h1 (by omega)) (PS.lt_mono h2 (by omega))⟩
theorem PS.fin_mul {p q : PS} (hp : p.fin) (hq : q.fin) : (p.mul q).fin := by
  obtain ⟨N, h1⟩ := hp
  obtain ⟨M, h2⟩ := hq
  exact ⟨_, PS.lt_mul h1 h2⟩
theorem PS.fin_sm {p : PS} (c : F) (hp : p.fin) : (p.sm c).fin := by
  obtain ⟨N, h1⟩ := hp
  exact ⟨N, PS.lt_sm c h1⟩
theorem PS.neg_eq (p : PS) : p.neg = p.sm (-1) := PS.ext fun n => by
  show - p n = -1 * p n
  grind
theorem PS.fin_neg {p : PS} (hp : p.fin) : p.neg.fin := by rw [PS.neg_eq]; exact PS.fin_sm _ hp
theorem PS.fin_der {p : PS} (hp : p.fin) : p.der.fin := by
  obtain ⟨N, h1⟩ := hp
  exact ⟨N, PS.der_lt (PS.lt_mono h1 (by omega))⟩
theorem PS.fin_pw {p : PS} (hp : p.fin) (n : Nat) : (p.pw n).fin := by
  induction n with
  | zero => exact PS.fin_one
  | succ n ih => exact PS.fin_mul ih hp
theorem PS.fisz {p : PS} (hp : p.fin) : p.isz p.size := by
  obtain ⟨N, h1⟩ := hp
  exact PS.size_isz h1
theorem PS.fsz0 {p : PS} (hp : p.fin) : p.size = 0 ↔ p = PS.zero := by
  obtain ⟨N, h1⟩ := hp
  exact PS.size_eq_zero h1
theorem PS.fsize_mul {p q : PS} (hp : p.fin) (hq : q.fin) (hp0 : p ≠ PS.zero) (hq0 : q ≠ PS.zero) : (p.mul q).size + 1 = p.size + q.size := by
  obtain ⟨N, h1⟩ := hp
  obtain ⟨M, h2⟩ := hq
  exact PS.size_mul h1 h2 hp0 hq0
theorem PS.fmul_ne {p q : PS} (hp : p.fin) (hq : q.fin) (hp0 : p ≠ PS.zero) (hq0 : q ≠ PS.zero) : p.mul q ≠ PS.zero := by
  obtain ⟨N, h1⟩ := hp
  obtain ⟨M, h2⟩ := hq
  exact PS.mul_ne h1 h2 hp0 hq0
theorem PS.fne_isz {p : PS} (hp : p.fin) (h0 : p ≠ PS.zero) : ∃ n, p.size = n + 1 ∧ p.isz (n + 1) := by
  obtain ⟨N, h1⟩ := hp
  obtain ⟨n, -, h2, h3⟩ := PS.ne_zero_isz h1 h0
  exact ⟨n, h2, h3⟩
theorem PS.fpos {p : PS} (hp : p.fin) (h0 : p ≠ PS.zero) : 0 < p.size := by
  obtain ⟨n, h1, -⟩ := PS.fne_isz hp h0
  omega
theorem PS.cancel {a b c : PS} (ha : a.fin) (hb : b.fin) (hc : c.fin) (h0 : a ≠ PS.zero) (h : a.mul b = a.mul c) : b = c := by
  by_cases e : b.sub c = PS.zero
  · exact PS.sub_eq_zero e
  · exfalso
    apply PS.fmul_ne ha (PS.fin_sub hb hc) h0 e
    have : a.mul (b.sub c) = (a.mul b).sub (a.mul c) := by
      letI := psRing
      show a * (b - c) = a * b - a * c
      grind
    rw [this, h]
    exact PS.ext fun n => by
      show (a.mul c) n - (a.mul c) n = 0
      grind
/-- a divides b -/
def PS.dvd (a b : PS) : Prop := ∃ c : PS, c.fin ∧ b = c.mul a
theorem PS.dvd_refl (a : PS) : a.dvd a := ⟨PS.one, PS.fin_one, (PS.one_mul a).symm⟩
theorem PS.dvd_trans {a b c : PS} (h : a.dvd b) (h' : b.dvd c) : a.dvd c := by
  obtain ⟨u, hu, rfl⟩ := h
  obtain ⟨v, hv, rfl⟩ := h'
  exact ⟨v.mul u, PS.fin_mul hv hu, (PS.mul_assoc v u a).symm⟩
theorem PS.dvd_zero (a : PS) : a.dvd PS.zero := ⟨PS.zero, PS.fin_zero, (PS.zero_mul a).symm⟩
theorem PS.dvd_add {a b c : PS} (h : a.dvd b) (h' : a.dvd c) : a.dvd (b.add c) := by
  obtain ⟨u, hu, rfl⟩ := h
  obtain ⟨v, hv, rfl⟩ := h'
  exact ⟨u.add v, PS.fin_add hu hv, (PS.add_mul u v a).symm⟩
theorem PS.sub_mul (p q r : PS) : (p.sub q).mul r = (p.mul r).sub (q.mul r) := by
  letI := psRing
  show (p - q) * r = p * r - q * r
  grind
theorem PS.dvd_sub {a b c : PS} (h : a.dvd b) (h' : a.dvd c) : a.dvd (b.sub c) := by
  obtain ⟨u, hu, rfl⟩ := h
  obtain ⟨v, hv, rfl⟩ := h'
  exact ⟨u.sub v, PS.fin_sub hu hv, (PS.sub_mul u v a).symm⟩
theorem PS.dvd_mul_left {a b : PS} (c : PS) (hc : c.fin) (h : a.dvd b) : a.dvd (c.mul b) := by
  obtain ⟨u, hu, rfl⟩ := h
  exact ⟨c.mul u, PS.fin_mul hc hu, (PS.mul_assoc c u a).symm⟩
theorem PS.dvd_mul_right {a b : PS} (c : PS) (hc : c.fin) (h : a.dvd b) : a.dvd (b.mul c) := by rw [PS.mul_comm]; exact PS.dvd_mul_left c hc h
theorem PS.dvd_fin {a b : PS} (ha : a.fin) (h : a.dvd b) : b.fin := by
  obtain ⟨u, hu, rfl⟩ := h
  exact PS.fin_mul hu ha
theorem PS.dvd_size {a b : PS} (ha : a.fin) (h : a.dvd b) (hb0 : b ≠ PS.zero) : a.size ≤ b.size ∧ a ≠ PS.zero := by
  obtain ⟨u, hu, rfl⟩ := h
  have hu0 : u ≠ PS.zero := fun e => hb0 (by rw [e, PS.zero_mul])
  have ha0 : a ≠ PS.zero := fun e => hb0 (by rw [e, PS.mul_zero])
  have h1 := PS.fsize_mul hu ha hu0 ha0
  have h2 := PS.fpos hu hu0
  exact ⟨by omega, ha0⟩
theorem PS.dvd_sm {a b : PS} (c : F) (h : a.dvd b) : a.dvd (b.sm c) := by
  rw [← PS.C_mul]; exact PS.dvd_mul_left _ (PS.fin_C c) h
theorem PS.sm_sm (a b : F) (p : PS) : (p.sm b).sm a = p.sm (a * b) := PS.ext fun n => by
  show a * (b * p n) = a * b * p n
  grind
theorem PS.sm_one (p : PS) : p.sm 1 = p := PS.ext fun n => by
  show 1 * p n = p n
  grind
theorem PS.sm_dvd {a b : PS} {c : F} (hc : c ≠ 0) (h : a.dvd b) : (a.sm c).dvd b := by
  obtain ⟨u, hu, rfl⟩ := h
  refine ⟨u.sm (finv c), PS.fin_sm _ hu, ?_⟩
  rw [PS.sm_mul, PS.mul_comm u (a.sm c), PS.sm_mul, PS.sm_sm, PS.mul_comm a u, show finv c * c = 1 by have := finv_mul c hc; grind, PS.sm_one]
/-- a number that isn't 0 -/
theorem PS.const {p : PS} (hp : p.fin) (h : p.size = 1) : p = PS.C (p 0) ∧ p 0 ≠ 0 := by
  have hz := PS.fisz hp
  rw [h] at hz
  refine ⟨PS.ext fun n => ?_, hz.1.resolve_left (by omega)⟩
  show p n = if n = 0 then p 0 else 0
  by_cases e : n = 0
  · rw [e]; rfl
  · rw [if_neg e]; exact hz.2 n (by omega)
theorem PS.const_dvd {p q : PS} (hp : p.fin) (h : p.size = 1) (hq : q.fin) : p.dvd q := by
  obtain ⟨h1, h2⟩ := PS.const hp h
  refine ⟨q.sm (finv (p 0)), PS.fin_sm _ hq, ?_⟩
  rw [PS.mul_comm, h1, PS.C_mul]
  show q = (q.sm (finv (PS.C (p 0) 0))).sm (p 0)
  have e : PS.C (p 0) 0 = p 0 := rfl
  rw [e, PS.sm_sm, finv_mul _ h2, PS.sm_one]
/-! Euclid's divisor divides, and is a combination -/
theorem PS.eu_dvd : ∀ (n : Nat) (a b : PS), a.fin → b.fin → b.size < n → (PS.eu n a b).dvd a ∧ (PS.eu n a b).dvd b := by
  intro n
  induction n with
  | zero => intro a b _ _ h; omega
  | succ n ih =>
    intro a b ha hb h
    by_cases h0 : b = PS.zero
    · rw [h0, PS.eu_zero]; exact ⟨PS.dvd_refl a, PS.dvd_zero a⟩
    · rw [PS.eu_succ h0]
      obtain ⟨N, hN⟩ := ha
      obtain ⟨m, hm, hz⟩ := PS.fne_isz hb h0
      have hs := PS.div_spec hz hN
      have h1 := PS.size_le hs.2.1
      obtain ⟨i1, i2⟩ := ih b (a.md b) hb ⟨m, hs.2.1⟩ (by omega)
      refine ⟨?_, i1⟩
      have h2 := PS.dvd_add (PS.dvd_mul_left (a.dv b) ⟨_, hs.2.2⟩ i1) i2
      rw [← hs.1] at h2
      exact h2
theorem PS.eu_bez : ∀ (n : Nat) (a b : PS), a.fin → b.fin → ∃ u v : PS, u.fin ∧ v.fin ∧ PS.eu n a b = (u.mul a).add (v.mul b) := by
  intro n
  induction n with
  | zero => intro a b _ _; exact ⟨PS.one, PS.zero, PS.fin_one, PS.fin_zero, by rw [PS.one_mul, PS.zero_mul, PS.add_zero]; rfl⟩
  | succ n ih =>
    intro a b ha hb
    by_cases h0 : b = PS.zero
    · rw [h0, PS.eu_zero]; exact ⟨PS.one, PS.zero, PS.fin_one, PS.fin_zero, by rw [PS.one_mul, PS.zero_mul, PS.add_zero]⟩
    · rw [PS.eu_succ h0]
      obtain ⟨N, hN⟩ := ha
      obtain ⟨m, hm, hz⟩ := PS.fne_isz hb h0
      have hs := PS.div_spec hz hN
      obtain ⟨u, v, hu, hv, e⟩ := ih b (a.md b) hb ⟨m, hs.2.1⟩
      refine ⟨v, u.sub (v.mul (a.dv b)), hv, PS.fin_sub hu (PS.fin_mul hv ⟨_, hs.2.2⟩), ?_⟩
      rw [e]
      have h1 := hs.1
      revert h1
      generalize a.dv b = Q
      generalize a.md b = R
      intro h1
      letI := psRing
      have h1' : a = Q * b + R := h1
      show u * b + v * R = v * a + (u - v * Q) * b
      grind
theorem PS.eu_fin {a b : PS} (n : Nat) (ha : a.fin) (hb : b.fin) : (PS.eu n a b).fin := by
  obtain ⟨N, h1⟩ := ha
  obtain ⟨M, h2⟩ := hb
  exact ⟨N + M, PS.eu_lt _ _ _ _ (PS.lt_mono h1 (by omega)) (PS.lt_mono h2 (by omega))⟩
theorem PS.eu_ne {a b : PS} (n : Nat) (h : a ≠ PS.zero) : PS.eu n a b ≠ PS.zero := by
  induction n generalizing a b with
  | zero => exact h
  | succ n ih =>
    by_cases h0 : b = PS.zero
    · rw [h0, PS.eu_zero]; exact h
    · rw [PS.eu_succ h0]; exact ih h0
theorem PS.mon_form {p : PS} (hp : p.fin) (h0 : p ≠ PS.zero) : ∃ c : F, c ≠ 0 ∧ p.mon = p.sm c := by
  obtain ⟨n, -, hz⟩ := PS.fne_isz hp h0
  refine ⟨_, finv_ne ?_, rfl⟩
  rw [hdI_eq hz]; exact hz.1.resolve_left (by omega)
/-- the divisor of two: sizes stay below 200 -/
theorem PS.gcd_spec {a b : PS} (ha : a.fin) (hb : b.fin) (ha0 : a ≠ PS.zero) (hs : b.size < 200) :
    (a.gcd b).fin ∧ a.gcd b ≠ PS.zero ∧ (a.gcd b).dvd a ∧ (a.gcd b).dvd b ∧ (∃ u v : PS, u.fin ∧ v.fin ∧ a.gcd b = (u.mul a).add (v.mul b)) := by
  have h1 := PS.eu_fin (a := a) (b := b) 200 ha hb
  have h2 := PS.eu_ne (a := a) (b := b) 200 ha0
  obtain ⟨c, hc, e⟩ := PS.mon_form h1 h2
  have h3 := PS.eu_dvd 200 a b ha hb hs
  obtain ⟨u, v, hu, hv, e2⟩ := PS.eu_bez 200 a b ha hb
  have e3 : a.gcd b = (PS.eu 200 a b).sm c := e
  refine ⟨?_, ?_, ?_, ?_, u.sm c, v.sm c, PS.fin_sm c hu, PS.fin_sm c hv, ?_⟩
  · rw [e3]; exact PS.fin_sm c h1
  · rw [e3]
    intro h
    apply h2
    have : ((PS.eu 200 a b).sm c).sm (finv c) = PS.zero := by
      rw [h]
      exact PS.ext fun n => by
        show _ * (0 : F) = 0
        grind
    rw [PS.sm_sm, show finv c * c = 1 by have := finv_mul c hc; grind, PS.sm_one] at this
    exact this
  · rw [e3]; exact PS.sm_dvd hc h3.1
  · rw [e3]; exact PS.sm_dvd hc h3.2
  · rw [e3, e2, PS.sm_mul, PS.sm_mul]
    exact PS.ext fun n => by
      show c * (_ + _) = c * _ + c * _
      grind
/-! prime polynomials -/
def PS.irr (P : PS) : Prop := P.fin ∧ 1 < P.size ∧ ∀ d : PS, d.fin → d.dvd P → d.size ≤ 1 ∨ d.size = P.size
theorem PS.irr_ne {P : PS} (h : P.irr) : P ≠ PS.zero := PS.ne_of_size (by have := h.2.1; omega)
theorem PS.same_size {d P : PS} (hd : d.fin) (h : d.dvd P) (hP0 : P ≠ PS.zero) (hs : d.size = P.size) : P.dvd d := by
  obtain ⟨u, hu, rfl⟩ := h
  have hu0 : u ≠ PS.zero := fun e => hP0 (by rw [e, PS.zero_mul])
  have hd0 : d ≠ PS.zero := fun e => hP0 (by rw [e, PS.mul_zero])
  have h1 := PS.fsize_mul hu hd hu0 hd0
  obtain ⟨h2, h3⟩ := PS.const hu (by omega)
  rw [h2, PS.C_mul]
  exact PS.sm_dvd h3 (PS.dvd_refl d)
theorem PS.irr_prime {P a b : PS} (h : P.irr) (ha : a.fin) (hb : b.fin) (hs : a.size < 200) (hd : P.dvd (a.mul b)) : P.dvd a ∨ P.dvd b := by
  obtain ⟨h1, h2, h3, h4, u, v, hu, hv, e⟩ := PS.gcd_spec h.1 ha (PS.irr_ne h) hs
  rcases h.2.2 _ h1 h3 with z | z
  · right
    have hz : (P.gcd a).size = 1 := by have := PS.fpos h1 h2; omega
    obtain ⟨e1, e2⟩ := PS.const h1 hz
    have h5 : P.dvd ((P.gcd a).mul b) := by
      rw [e]
      have e3 : ((u.mul P).add (v.mul a)).mul b = ((u.mul b).mul P).add (v.mul (a.mul b)) := by
        letI := psRing
        show (u * P + v * a) * b = (u * b) * P + v * (a * b)
        grind
      rw [e3]
      exact PS.dvd_add ⟨_, PS.fin_mul hu hb, rfl⟩ (PS.dvd_mul_left v hv hd)
    rw [e1, PS.C_mul] at h5
    have h6 := PS.dvd_sm (finv ((P.gcd a) 0)) h5
    rw [PS.sm_sm, show finv ((P.gcd a) 0) * (P.gcd a) 0 = 1 by have := finv_mul _ e2; grind, PS.sm_one] at h6
    exact h6
  · left
    exact PS.dvd_trans (PS.same_size h1 h3 (PS.irr_ne h) z) h4
theorem PS.irr_ex : ∀ (n : Nat) (a : PS), a.fin → 1 < a.size → a.size ≤ n → ∃ P : PS, P.irr ∧ P.dvd a := by
  intro n
  induction n with
  | zero => intro a _ h1 h2; omega
  | succ n ih =>
    intro a ha h1 h2
    by_cases hi : a.irr
    · exact ⟨a, hi, PS.dvd_refl a⟩
    · have : ∃ d : PS, d.fin ∧ d.dvd a ∧ 1 < d.size ∧ d.size ≠ a.size := by
        apply Classical.byContradiction
        intro hn
        apply hi
        refine ⟨ha, h1, fun d hd hda => ?_⟩
        rcases Nat.lt_or_ge 1 d.size with q | q
        · right
          apply Classical.byContradiction
          intro q2
          exact hn ⟨d, hd, hda, q, q2⟩
        · exact Or.inl q
      obtain ⟨d, hd, hda, g1, g2⟩ := this
      have g3 := (PS.dvd_size hd hda (PS.ne_of_size (by omega))).1
      obtain ⟨P, hP, hPd⟩ := ih d hd g1 (by omega)
      exact ⟨P, hP, PS.dvd_trans hPd hda⟩
