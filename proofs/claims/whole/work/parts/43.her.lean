/-! ===== Hermite's reduction: what its loop keeps ===== -/
theorem PS.irr_prime' {P a b : PS} (h : P.irr) (ha : a.fin) (hb : b.fin) (hd : P.dvd (a.mul b)) : P.dvd a ∨ P.dvd b := by
  have h1 := PS.eu_fin (a := P) (b := a) (a.size + 1) h.1 ha
  have h2 := PS.eu_ne (a := P) (b := a) (a.size + 1) (PS.irr_ne h)
  obtain ⟨h3, h4⟩ := PS.eu_dvd (a.size + 1) P a h.1 ha (by omega)
  obtain ⟨u, v, hu, hv, e⟩ := PS.eu_bez (a.size + 1) P a h.1 ha
  revert h1 h2 h3 h4 e
  generalize PS.eu (a.size + 1) P a = g
  intro h1 h2 h3 h4 e
  rcases h.2.2 _ h1 h3 with z | z
  · right
    obtain ⟨e1, e2⟩ := PS.const h1 (by have := PS.fpos h1 h2; omega)
    have h5 : P.dvd (g.mul b) := by
      rw [e]
      have e3 : ((u.mul P).add (v.mul a)).mul b = ((u.mul b).mul P).add (v.mul (a.mul b)) := by
        letI := psRing
        show (u * P + v * a) * b = (u * b) * P + v * (a * b)
        grind
      rw [e3]
      exact PS.dvd_add ⟨_, PS.fin_mul hu hb, rfl⟩ (PS.dvd_mul_left v hv hd)
    rw [e1, PS.C_mul] at h5
    have h6 := PS.dvd_sm (finv (g 0)) h5
    rw [PS.sm_sm, show finv (g 0) * g 0 = 1 by have := finv_mul _ e2; grind, PS.sm_one] at h6
    exact h6
  · left
    exact PS.dvd_trans (PS.same_size h1 h3 (PS.irr_ne h) z) h4
theorem PS.mlt_mul' {P a b : PS} {k j : Nat} (h : P.irr) (h1 : P.mlt a k) (h2 : P.mlt b j) : P.mlt (a.mul b) (k + j) := by
  obtain ⟨c, hc, e1, n1⟩ := h1
  obtain ⟨d, hd, e2, n2⟩ := h2
  refine ⟨c.mul d, PS.fin_mul hc hd, ?_, fun z => ?_⟩
  · rw [e1, e2, PS.pw_add]
    generalize P.pw k = X
    generalize P.pw j = Y
    letI := psRing
    show X * c * (Y * d) = X * Y * (c * d)
    grind
  · rcases PS.irr_prime' h hc hd z with q | q
    · exact n1 q
    · exact n2 q
theorem PS.mlt_one {P : PS} (h : P.irr) : P.mlt PS.one 0 := ⟨PS.one, PS.fin_one, (PS.one_mul _).symm, fun hd => by
  have h1 := (PS.dvd_size h.1 hd (fun e => by have : (PS.one : PS) 0 = 0 := congrFun e 0; revert this; decide)).1
  have h2 : PS.one.size ≤ 1 := PS.size_le (PS.C_lt 1)
  have := h.2.1
  omega⟩
theorem PS.mlt_pw {P a : PS} {k : Nat} (h : P.irr) (h1 : P.mlt a k) (n : Nat) : P.mlt (a.pw n) (n * k) := by
  induction n with
  | zero => rw [Nat.zero_mul]; exact PS.mlt_one h
  | succ n ih => rw [Nat.succ_mul]; exact PS.mlt_mul' h ih h1
theorem PS.dvd_mlt' : ∀ (n : Nat) (a b : PS), a.fin → b.fin → a ≠ PS.zero → b ≠ PS.zero → a.size ≤ n → (∀ P : PS, P.irr → ∀ i j, P.mlt a i → P.mlt b j → i ≤ j) → a.dvd b := by
  intro n
  induction n with
  | zero => intro a b ha _ h0 _ hs; have := PS.fpos ha h0; omega
  | succ n ih =>
    intro a b ha hb ha0 hb0 hs hall
    rcases Nat.lt_or_ge 1 a.size with q | q
    · obtain ⟨P, hP, hd⟩ := PS.irr_ex a.size a ha q (Nat.le_refl _)
      obtain ⟨i, hi, -⟩ := PS.mlt_ex hP a.size a ha ha0 (Nat.le_refl _)
      obtain ⟨j, hj, -⟩ := PS.mlt_ex hP b.size b hb hb0 (Nat.le_refl _)
      have h1 := (PS.mlt_pos hP hi).mp hd
      have h2 := hall P hP i j hi hj
      have hdb := (PS.mlt_pos hP hj).mpr (by omega)
      obtain ⟨a1, ha1, e1⟩ := hd
      obtain ⟨b1, hb1, e2⟩ := hdb
      have ha10 : a1 ≠ PS.zero := fun e => ha0 (by rw [e1, e, PS.zero_mul])
      have hb10 : b1 ≠ PS.zero := fun e => hb0 (by rw [e2, e, PS.zero_mul])
      have s1 := PS.fsize_mul ha1 hP.1 ha10 (PS.irr_ne hP)
      rw [← e1] at s1
      have s3 := hP.2.1
      have h3 := ih a1 b1 ha1 hb1 ha10 hb10 (by omega) (fun P' hP' i' j' hi' hj' => by
        obtain ⟨k, hk, -⟩ := PS.mlt_ex hP' P.size P hP.1 (PS.irr_ne hP) (Nat.le_refl _)
        have g1 := PS.mlt_mul' hP' hi' hk
        have g2 := PS.mlt_mul' hP' hj' hk
        rw [← e1] at g1
        rw [← e2] at g2
        have := hall P' hP' _ _ g1 g2
        omega)
      obtain ⟨u, hu, e3⟩ := h3
      exact ⟨u, hu, by rw [e2, e3, e1, PS.mul_assoc]⟩
    · exact PS.const_dvd ha (by have := PS.fpos ha ha0; omega) hb
/-- head 1 -/
def PS.mnc (p : PS) : Prop := p (p.size - 1) = 1
theorem PS.mnc_mul {p q : PS} (hp : p.fin) (hq : q.fin) (hp0 : p ≠ PS.zero) (hq0 : q ≠ PS.zero) (h1 : p.mnc) (h2 : q.mnc) : (p.mul q).mnc := by
  obtain ⟨n, e1, z1⟩ := PS.fne_isz hp hp0
  obtain ⟨m, e2, z2⟩ := PS.fne_isz hq hq0
  unfold PS.mnc at h1 h2 ⊢
  rw [e1] at h1
  rw [e2] at h2
  rw [PS.size_eq (PS.isz_mul z1 z2), show n + m + 1 - 1 = n + m by omega, PS.mul_head z1.2 z2.2, show n = n + 1 - 1 by omega, show m = m + 1 - 1 by omega, h1, h2]
  decide
theorem PS.mnc_mon {p : PS} (hp : p.fin) (h0 : p ≠ PS.zero) : p.mon.mnc := by
  obtain ⟨n, e, z⟩ := PS.fne_isz hp h0
  obtain ⟨N, hN⟩ := hp
  unfold PS.mnc
  rw [PS.mon_size hN, e, show n + 1 - 1 = n by omega]
  show finv (fi (hdI p)) * p n = 1
  rw [hdI_eq z]
  have := finv_mul (p n) (z.1.resolve_left (by omega))
  grind
theorem PS.mnc_gcd {a b : PS} (ha : a.fin) (hb : b.fin) (ha0 : a ≠ PS.zero) : (a.gcd b).mnc := PS.mnc_mon (PS.eu_fin 200 ha hb) (PS.eu_ne 200 ha0)
theorem PS.mnc_left {p q : PS} (hp : p.fin) (hq : q.fin) (hp0 : p ≠ PS.zero) (hq0 : q ≠ PS.zero) (h : (p.mul q).mnc) (h2 : q.mnc) : p.mnc := by
  obtain ⟨n, e1, z1⟩ := PS.fne_isz hp hp0
  obtain ⟨m, e2, z2⟩ := PS.fne_isz hq hq0
  unfold PS.mnc at h h2 ⊢
  rw [e2] at h2
  rw [PS.size_eq (PS.isz_mul z1 z2), show n + m + 1 - 1 = n + m by omega, PS.mul_head z1.2 z2.2] at h
  rw [show m + 1 - 1 = m by omega] at h2
  rw [h2] at h
  rw [e1, show n + 1 - 1 = n by omega]
  grind
theorem PS.mnc_pw {p : PS} (hp : p.fin) (h0 : p ≠ PS.zero) (h : p.mnc) (n : Nat) : (p.pw n).mnc := by
  induction n with
  | zero =>
    show PS.one.mnc
    have : PS.one.isz 1 := ⟨Or.inr (by show (1 : F) ≠ 0; decide), PS.C_lt 1⟩
    unfold PS.mnc
    rw [PS.size_eq this]
    rfl
  | succ n ih => exact PS.mnc_mul (PS.fin_pw hp n) hp (PS.pw_ne hp h0 n) h0 ih h
theorem PS.eq_mnc {p q : PS} (hp : p.fin) (hq : q.fin) (hp0 : p ≠ PS.zero) (hq0 : q ≠ PS.zero) (h1 : p.mnc) (h2 : q.mnc) (h3 : p.dvd q) (h4 : q.dvd p) : p = q := by
  have s1 := (PS.dvd_size hp h3 hq0).1
  have s2 := (PS.dvd_size hq h4 hp0).1
  obtain ⟨c, hc, e⟩ := h3
  have hc0 : c ≠ PS.zero := fun z => hq0 (by rw [e, z, PS.zero_mul])
  have s3 := PS.fsize_mul hc hp hc0 hp0
  rw [← e] at s3
  obtain ⟨e1, e2⟩ := PS.const hc (by omega)
  rw [e1, PS.C_mul] at e
  have h5 : c 0 = 1 := by
    unfold PS.mnc at h1 h2
    rw [show q.size = p.size by omega, e] at h2
    have h2' : c 0 * p (p.size - 1) = 1 := h2
    rw [h1] at h2'
    grind
  rw [e, h5, PS.sm_one]
/-- how far the rest's degree may go -/
noncomputable def gdI (N D W : PS) : Int := max ((N.size : Int) - D.size) ((W.size : Int) - 2)
def HI (N D W Q R M : PS) (n : Nat) : Prop :=
  (N.fin ∧ D.fin ∧ D ≠ PS.zero ∧ D.size ≤ 48 ∧ D.mnc ∧ W.fin) ∧ (M.fin ∧ M ≠ PS.zero ∧ M.mnc ∧ M.size ≤ D.size) ∧ (∀ (P : PS) (e : Nat), P.irr → P.mlt D e → P.mlt M (min e n)) ∧ 1 ≤ n ∧
  SI N D D.thn W Q R M ∧ Q.lt (D.thn.size - 1) ∧ R.fin ∧ (R.size : Int) ≤ max (0 : Int) (M.size + gdI N D W)
theorem HI.start {N D W : PS} (hN : N.fin) (hD : D.fin) (hD0 : D ≠ PS.zero) (hDs : D.size ≤ 48) (hDm : D.mnc) (hW : W.fin) : HI N D W PS.zero N D 48 := by
  refine ⟨⟨hN, hD, hD0, hDs, hDm, hW⟩, ⟨hD, hD0, hDm, Nat.le_refl _⟩, fun P e hP he => ?_, by omega, SI.start N D _ W, PS.zero_lt _, hN, ?_⟩
  · have := (PS.mlt_lt hP hD hD0 he).1
    rw [show min e 48 = e by omega]; exact he
  · unfold gdI
    omega
/-- the chain of a denominator: V the product of the most frequent factors -/
theorem her_V {M : PS} {t : Nat} (hM : M.fin) (hM0 : M ≠ PS.zero) (hMs : M.size ≤ 48) (hMm : M.mnc) (ht : 1 ≤ t) (h1 : 1 < (M.thk (t - 1)).size) (h2 : (M.thk t).size ≤ 1) :
    (M.thk (t - 1)).fin ∧ (M.thk (t - 1)).mnc ∧ (M.thk (t - 1)).size ≤ M.size ∧ ∀ (P : PS) (e : Nat), P.irr → P.mlt M e → e ≤ t ∧ P.mlt (M.thk (t - 1)) (e - (t - 1)) := by
  obtain ⟨a1, a2, a3, a4⟩ := PS.thk_spec hM hM0 (by omega) (t - 1)
  obtain ⟨b1, b2, b3, b4⟩ := PS.thk_spec hM hM0 (by omega) t
  refine ⟨a1, ?_, a3, fun P e hP he => ⟨?_, a4 P e hP he⟩⟩
  · cases htt : t - 1 with
    | zero => exact hMm
    | succ k =>
      obtain ⟨c1, c2, c3, -⟩ := PS.thk_spec hM hM0 (by omega) k
      exact PS.mnc_gcd c1 (PS.fin_der c1) c2
  · apply Classical.byContradiction
    intro hlt
    have := (PS.mlt_lt hP b1 b2 (b4 P e hP he)).2 (by omega)
    have := hP.2.1
    omega
