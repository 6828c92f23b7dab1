/-! ===== square-free parts, and the splitting of a fraction ===== -/
noncomputable def PS.thn (d : PS) : PS := d.gcd d.der
theorem PS.der_size {d : PS} (hd : d.fin) : d.der.size ≤ d.size - 1 := by
  obtain ⟨N, h⟩ := hd
  by_cases h0 : d = PS.zero
  · rw [h0, PS.der_zero, PS.size_zero]; omega
  · obtain ⟨n, -, hn, hz⟩ := PS.ne_zero_isz h h0
    have := PS.size_le (PS.der_lt hz.2)
    omega
theorem PS.mlt_sm {P a : PS} {k : Nat} {c : F} (hc : c ≠ 0) (h : P.mlt a k) : P.mlt (a.sm c) k := by
  obtain ⟨d, hd, e, n⟩ := h
  refine ⟨d.sm c, PS.fin_sm c hd, ?_, PS.ndvd_sm hc n⟩
  rw [e, PS.mul_comm _ (d.sm c), PS.sm_mul, PS.mul_comm d]
theorem PS.gcd_mlt {P a b : PS} {i j : Nat} (h : P.irr) (ha : a.fin) (hb : b.fin) (ha0 : a ≠ PS.zero) (hs : b.size < 200) (hi : P.mlt a i) (hj : P.mlt b j) : P.mlt (a.gcd b) (min i j) := by
  obtain ⟨h1, h2, h3, h4, u, v, hu, hv, e⟩ := PS.gcd_spec ha hb ha0 hs
  obtain ⟨k, hk, -⟩ := PS.mlt_ex h _ _ h1 h2 (Nat.le_refl _)
  have hd := (PS.mlt_ge h hk).mpr (Nat.le_refl k)
  have k1 := (PS.mlt_ge h hi).mp (PS.dvd_trans hd h3)
  have k2 := (PS.mlt_ge h hj).mp (PS.dvd_trans hd h4)
  have g1 := (PS.mlt_ge (j := min i j) h hi).mpr (Nat.min_le_left _ _)
  have g2 := (PS.mlt_ge (j := min i j) h hj).mpr (Nat.min_le_right _ _)
  have g3 := PS.dvd_add (PS.dvd_mul_left u hu g1) (PS.dvd_mul_left v hv g2)
  rw [← e] at g3
  have k3 := (PS.mlt_ge h hk).mp g3
  rw [show min i j = k by omega]; exact hk
theorem PS.mlt_lt {P a : PS} {k : Nat} (h : P.irr) (ha : a.fin) (ha0 : a ≠ PS.zero) (hk : P.mlt a k) : k < a.size ∧ (0 < k → P.size ≤ a.size) := by
  obtain ⟨j, hj, hlt⟩ := PS.mlt_ex h _ a ha ha0 (Nat.le_refl _)
  have e := PS.mlt_un h hk hj
  subst e
  exact ⟨hlt, fun hp => (PS.dvd_size h.1 ((PS.mlt_pos h hk).mpr hp) ha0).1⟩
theorem PS.thn_spec {a : PS} (ha : a.fin) (ha0 : a ≠ PS.zero) (hs : a.size ≤ 100) : a.thn.fin ∧ a.thn ≠ PS.zero ∧ a.thn.dvd a ∧ a.thn.size ≤ a.size := by
  have hd := PS.der_size ha
  obtain ⟨h1, h2, h3, h4, -⟩ := PS.gcd_spec ha (PS.fin_der ha) ha0 (by omega)
  exact ⟨h1, h2, h3, (PS.dvd_size h1 h3 ha0).1⟩
theorem PS.thn_mlt {P a : PS} {k : Nat} (h : P.irr) (ha : a.fin) (ha0 : a ≠ PS.zero) (hs : a.size ≤ 100) (hk : P.mlt a k) : P.mlt a.thn (k - 1) := by
  have hd := PS.der_size ha
  have h1 := PS.mlt_lt h ha ha0 hk
  by_cases hz : a.der = PS.zero
  · -- a number
    have hk0 : k = 0 := by
      apply Classical.byContradiction
      intro hk0
      have h2 := h1.2 (by omega)
      have h3 := PS.mlt_der h (by omega) (k := k - 1) (by omega) (by rw [show k - 1 + 1 = k by omega]; exact hk)
      obtain ⟨c, hc, e, n⟩ := h3
      rw [hz] at e
      have hc0 : c ≠ PS.zero := fun e2 => n (by rw [e2]; exact PS.dvd_zero P)
      exact PS.fmul_ne (PS.fin_pw h.1 _) hc (PS.pw_ne h.1 (PS.irr_ne h) _) hc0 e.symm
    subst hk0
    unfold PS.thn PS.gcd
    rw [hz, PS.eu_zero]
    obtain ⟨c, hc, e⟩ := PS.mon_form ha ha0
    rw [e]; exact PS.mlt_sm hc hk
  · by_cases hk0 : k = 0
    · subst hk0
      obtain ⟨j, hj, -⟩ := PS.mlt_ex h _ a.der (PS.fin_der ha) hz (Nat.le_refl _)
      have := PS.gcd_mlt h ha (PS.fin_der ha) ha0 (by omega) hk hj
      rw [Nat.zero_min] at this
      exact this
    · have h2 := h1.2 (by omega)
      have h3 := PS.mlt_der h (by omega) (k := k - 1) (by omega) (by rw [show k - 1 + 1 = k by omega]; exact hk)
      have := PS.gcd_mlt h ha (PS.fin_der ha) ha0 (by omega) hk h3
      rw [show min k (k - 1) = k - 1 by omega] at this
      exact this
noncomputable def PS.thk (d : PS) : Nat → PS
  | 0 => d
  | n + 1 => (PS.thk d n).thn
theorem PS.thk_spec {a : PS} (ha : a.fin) (ha0 : a ≠ PS.zero) (hs : a.size ≤ 100) (n : Nat) : (a.thk n).fin ∧ a.thk n ≠ PS.zero ∧ (a.thk n).size ≤ a.size ∧ ∀ (P : PS) (k : Nat), P.irr → P.mlt a k → P.mlt (a.thk n) (k - n) := by
  induction n with
  | zero => exact ⟨ha, ha0, Nat.le_refl _, fun P k _ h => h⟩
  | succ n ih =>
    obtain ⟨h1, h2, h3, h4⟩ := ih
    obtain ⟨g1, g2, -, g4⟩ := PS.thn_spec h1 h2 (by omega)
    refine ⟨g1, g2, by show (a.thk n).thn.size ≤ _; omega, fun P k hP hk => ?_⟩
    have := PS.thn_mlt hP h1 h2 (by omega) (h4 P k hP hk)
    rw [show k - (n + 1) = k - n - 1 by omega]
    exact this
/-- the identity N / D = (Q / E)' + w Q / E + R / M, without fractions -/
def SI (N D E W Q R M : PS) : Prop := (N.mul (E.mul E)).mul M = ((D.mul M).mul (((Q.der.mul E).sub (Q.mul E.der)).add ((W.mul Q).mul E))).add ((D.mul (E.mul E)).mul R)
theorem SI.start (N D E W : PS) : SI N D E W PS.zero N D := by
  unfold SI
  rw [PS.der_zero]
  rw [PS.zero_eq]
  generalize E.der = E'
  letI := psRing
  show N * (E * E) * D = D * D * (0 * E - 0 * E' + W * 0 * E) + D * (E * E) * N
  grind
/-- a step of Hermite: E = E1 Y, M = V Z, Z = U Y, V Y' = c Y V', R = U (V B' - c V' B + w V B) + V R2 -/
theorem SI.step {N D E W Q R U V Y E1 B R2 C : PS} (hD : D.fin) (hE1 : E1.fin) (hY : Y.fin) (hV : V.fin) (hU : U.fin) (hW : W.fin) (hQ : Q.fin) (hB : B.fin) (hR2 : R2.fin) (hN : N.fin) (hV0 : V ≠ PS.zero)
    (hE : E = E1.mul Y) (hYd : V.mul Y.der = C.mul (Y.mul V.der))
    (hR : R = (U.mul (((V.mul B.der).sub (C.mul (V.der.mul B))).add (W.mul (V.mul B)))).add (V.mul R2)) (h : SI N D E W Q R (V.mul (U.mul Y))) : SI N D E W (Q.add (E1.mul B)) R2 (U.mul Y) := by
  unfold SI at h ⊢
  have hEf : E.fin := by rw [hE]; exact PS.fin_mul hE1 hY
  refine PS.cancel hV ?_ ?_ hV0 ?_
  · exact PS.fin_mul (PS.fin_mul hN (PS.fin_mul hEf hEf)) (PS.fin_mul hU hY)
  · have hQ2 : (Q.add (E1.mul B)).fin := PS.fin_add hQ (PS.fin_mul hE1 hB)
    exact PS.fin_add (PS.fin_mul (PS.fin_mul hD (PS.fin_mul hU hY)) (PS.fin_add (PS.fin_sub (PS.fin_mul (PS.fin_der hQ2) hEf) (PS.fin_mul hQ2 (PS.fin_der hEf))) (PS.fin_mul (PS.fin_mul hW hQ2) hEf))) (PS.fin_mul (PS.fin_mul hD (PS.fin_mul hEf hEf)) hR2)
  · rw [PS.der_add, PS.der_mul]
    rw [hE, PS.der_mul] at h ⊢
    rw [hR] at h
    revert h hYd
    generalize Q.der = Q'
    generalize Y.der = Y'
    generalize V.der = V'
    generalize B.der = B'
    generalize E1.der = F'
    intro hYd h
    letI := psRing
    have hYd' : V * Y' = C * (Y * V') := hYd
    have h' : N * (E1 * Y * (E1 * Y)) * (V * (U * Y)) = D * (V * (U * Y)) * (Q' * (E1 * Y) - Q * (F' * Y + E1 * Y') + W * Q * (E1 * Y)) + D * (E1 * Y * (E1 * Y)) * (U * (V * B' - C * (V' * B) + W * (V * B)) + V * R2) := h
    show V * (N * (E1 * Y * (E1 * Y)) * (U * Y)) = V * (D * (U * Y) * ((Q' + (F' * B + E1 * B')) * (E1 * Y) - (Q + E1 * B) * (F' * Y + E1 * Y') + W * (Q + E1 * B) * (E1 * Y)) + D * (E1 * Y * (E1 * Y)) * R2)
    grind
/-- the polynomial part: R = X M + r, X = H' + w H + G -/
theorem SI.whole {N D E W Q R M X H G r : PS} (hR : R = (X.mul M).add r) (hX : X = (H.der.add (W.mul H)).add G) (h : SI N D E W Q R M) : SI N D E W (Q.add (H.mul E)) (r.add (G.mul M)) M := by
  unfold SI at h ⊢
  rw [PS.der_add, PS.der_mul]
  rw [hR, hX] at h
  revert h
  generalize Q.der = Q'
  generalize H.der = H'
  generalize E.der = E'
  intro h
  letI := psRing
  have h' : N * (E * E) * M = D * M * (Q' * E - Q * E' + W * Q * E) + D * (E * E) * ((H' + W * H + G) * M + r) := h
  show N * (E * E) * M = D * M * ((Q' + (H' * E + H * E')) * E - (Q + H * E) * E' + W * (Q + H * E) * E) + D * (E * E) * (r + G * M)
  grind
