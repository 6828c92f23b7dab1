/-! ===== what a splitting is; inverses modulo a polynomial; a step of Hermite ===== -/
def SPL (N D W Qt Rt : PS) : Prop := ∃ A H B G : PS, A.lt (D.thn.size - 1) ∧ B.lt ((D.dv D.thn).size - 1) ∧ H.fin ∧ G.fin ∧ Qt = A.add (H.mul D.thn) ∧ Rt = B.add (G.mul (D.dv D.thn)) ∧
  (W = PS.zero → G = PS.zero ∧ H 0 = 0 ∧ (H = PS.zero ∨ H.size + D.size ≤ N.size + 2)) ∧ (W ≠ PS.zero → G.lt (W.size - 1) ∧ (H = PS.zero ∨ H.size + D.size + W.size ≤ N.size + 2)) ∧ SI N D D.thn W Qt Rt (D.dv D.thn)
theorem PS.dv_exact {a b c : PS} (hb : b.fin) (hc : c.fin) (hb0 : b ≠ PS.zero) (h : a = c.mul b) : a.dv b = c ∧ a.md b = PS.zero := by
  obtain ⟨n, -, hz⟩ := PS.fne_isz hb hb0
  obtain ⟨N, hN⟩ := hc
  obtain ⟨e1, e2⟩ := PS.md_eq (p := a) (q := c) (r := PS.zero) hz hN (PS.zero_lt n) (by rw [PS.add_zero]; exact h)
  exact ⟨e2, e1⟩
theorem PS.dvd_dv {a b : PS} (hb : b.fin) (hb0 : b ≠ PS.zero) (h : b.dvd a) : a = (a.dv b).mul b ∧ (a.dv b).fin := by
  obtain ⟨c, hc, e⟩ := h
  obtain ⟨e1, -⟩ := PS.dv_exact hb hc hb0 e
  rw [e1]
  exact ⟨e, hc⟩
theorem thn_dv {D : PS} (hD : D.fin) (hD0 : D ≠ PS.zero) (hDs : D.size ≤ 100) : D = (D.dv D.thn).mul D.thn ∧ (D.dv D.thn).fin ∧ D.dv D.thn ≠ PS.zero ∧ (D.dv D.thn).size + D.thn.size = D.size + 1 := by
  obtain ⟨h1, h2, h3, h4⟩ := PS.thn_spec hD hD0 hDs
  obtain ⟨e, hf⟩ := PS.dvd_dv h1 h2 h3
  have h0 : D.dv D.thn ≠ PS.zero := fun z => hD0 (by rw [e, z, PS.zero_mul])
  have hs := PS.fsize_mul hf h1 h0 h2
  rw [← e] at hs
  exact ⟨e, hf, h0, by omega⟩
theorem PS.size_add_le {a b : PS} {n : Nat} (ha : a.lt n) (hb : b.lt n) : (a.add b).size ≤ n := PS.size_le (PS.lt_add ha hb)
theorem SPL.un {N D W Q1 R1 Q2 R2 : PS} (hN : N.fin) (hD : D.fin) (hD0 : D ≠ PS.zero) (hDs : D.size ≤ 90) (hNs : N.size ≤ 90) (hW : W.fin) (h1 : SPL N D W Q1 R1) (h2 : SPL N D W Q2 R2) : Q1 = Q2 ∧ R1 = R2 := by
  obtain ⟨A1, H1, B1, G1, a1, b1, c1, d1, e1, f1, w1, v1, s1⟩ := h1
  obtain ⟨A2, H2, B2, G2, a2, b2, c2, d2, e2, f2, w2, v2, s2⟩ := h2
  obtain ⟨hDM, hM, hM0, hsz⟩ := thn_dv hD hD0 (by omega)
  obtain ⟨hEf, hE0, hEd, hEs⟩ := PS.thn_spec hD hD0 (by omega)
  revert a1 b1 e1 f1 s1 a2 b2 e2 f2 s2 hDM hM hM0 hsz hEf hE0 hEd hEs
  generalize hEE : D.thn = E
  generalize D.dv E = M
  intro a1 b1 e1 f1 s1 a2 b2 e2 f2 s2 hDM hM hM0 hsz hEf hE0 hEd hEs
  have hHl : ∀ H : PS, H.fin → (W = PS.zero → (H = PS.zero ∨ H.size + D.size ≤ N.size + 2)) → (W ≠ PS.zero → (H = PS.zero ∨ H.size + D.size + W.size ≤ N.size + 2)) → H.lt (N.size + 2 - D.size) := by
    intro H hH g1 g2
    obtain ⟨n, hn⟩ := hH
    have : H = PS.zero ∨ H.size + D.size ≤ N.size + 2 := by
      by_cases hw : W = PS.zero
      · exact g1 hw
      · rcases g2 hw with z | z
        · exact Or.inl z
        · exact Or.inr (by omega)
    rcases this with z | z
    · rw [z]; exact PS.zero_lt _
    · exact PS.lt_mono (PS.lt_size hn) (by omega)
  have l1 := hHl H1 c1 (fun h => (w1 h).2.2) (fun h => (v1 h).2)
  have l2 := hHl H2 c2 (fun h => (w2 h).2.2) (fun h => (v2 h).2)
  have hDpos := PS.fpos hD hD0
  have hEl : E.lt E.size := (PS.fisz hEf).2
  have hHd : (H1.sub H2).lt (N.size + 2 - D.size) := PS.lt_sub l1 l2
  have hAd : (A1.sub A2).lt (E.size - 1) := PS.lt_sub a1 a2
  have hQ : ((A1.sub A2).add ((H1.sub H2).mul E)).size ≤ 100 :=
    PS.size_add_le (PS.lt_mono hAd (by omega)) (PS.lt_mul' hHd hEl (by omega))
  have key := split_zero (A := A1.sub A2) (H := H1.sub H2) (B := B1.sub B2) (G := G1.sub G2) (W := W) hD hD0 (by omega) hEE.symm hM hDM hAd (PS.fin_sub c1 c2) (PS.lt_sub b1 b2) (PS.fin_sub d1 d2) hW hQ (by have := PS.size_le hHd; omega)
    (fun hw => ⟨by rw [(w1 hw).1, (w2 hw).1]; exact PS.ext fun n => by { show (0 : F) - 0 = 0; grind }, by show H1 0 - H2 0 = 0; rw [(w1 hw).2.1, (w2 hw).2.1]; grind⟩)
    (fun hw => PS.lt_sub (v1 hw).1 (v2 hw).1) (by
      have t1 := s1
      have t2 := s2
      unfold SI at t1 t2
      rw [e1, f1] at t1
      rw [e2, f2] at t2
      refine PS.cancel hD ?_ PS.fin_zero hD0 ?_
      · have hQf : ((A1.sub A2).add ((H1.sub H2).mul E)).fin := PS.fin_add ⟨_, hAd⟩ (PS.fin_mul ⟨_, hHd⟩ hEf)
        exact PS.fin_add (PS.fin_mul hM (PS.fin_add (PS.fin_sub (PS.fin_mul (PS.fin_der hQf) hEf) (PS.fin_mul hQf (PS.fin_der hEf))) (PS.fin_mul (PS.fin_mul hW hQf) hEf))) (PS.fin_mul (PS.fin_mul hEf hEf) (PS.fin_add (PS.fin_sub ⟨_, b1⟩ ⟨_, b2⟩) (PS.fin_mul (PS.fin_sub d1 d2) hM)))
      · rw [PS.mul_zero]
        rw [PS.der_add, PS.der_mul] at t1 t2
        rw [PS.der_add, PS.der_mul, PS.der_sub, PS.der_sub, PS.zero_eq]
        revert t1 t2
        generalize A1.der = A1'
        generalize A2.der = A2'
        generalize H1.der = H1'
        generalize H2.der = H2'
        generalize E.der = E'
        intro t1 t2
        letI := psRing
        have t1' : N * (E * E) * M = D * M * ((A1' + (H1' * E + H1 * E')) * E - (A1 + H1 * E) * E' + W * (A1 + H1 * E) * E) + D * (E * E) * (B1 + G1 * M) := t1
        have t2' : N * (E * E) * M = D * M * ((A2' + (H2' * E + H2 * E')) * E - (A2 + H2 * E) * E' + W * (A2 + H2 * E) * E) + D * (E * E) * (B2 + G2 * M) := t2
        show D * (M * ((A1' - A2' + ((H1' - H2') * E + (H1 - H2) * E')) * E - (A1 - A2 + (H1 - H2) * E) * E' + W * (A1 - A2 + (H1 - H2) * E) * E) + E * E * (B1 - B2 + (G1 - G2) * M)) = 0
        grind)
  have eA := PS.sub_eq_zero key.1
  have eH := PS.sub_eq_zero key.2.1
  have eB := PS.sub_eq_zero key.2.2.1
  have eG := PS.sub_eq_zero key.2.2.2
  exact ⟨by rw [e1, e2, eA, eH], by rw [f1, f2, eB, eG]⟩
noncomputable def spQ (N D W : PS) : PS := @Classical.epsilon PS ⟨PS.zero⟩ (fun Q => ∃ R, SPL N D W Q R)
noncomputable def spR (N D W : PS) : PS := @Classical.epsilon PS ⟨PS.zero⟩ (fun R => ∃ Q, SPL N D W Q R)
theorem SPL.eq {N D W Q R : PS} (hN : N.fin) (hD : D.fin) (hD0 : D ≠ PS.zero) (hDs : D.size ≤ 90) (hNs : N.size ≤ 90) (hW : W.fin) (h : SPL N D W Q R) : spQ N D W = Q ∧ spR N D W = R := by
  have g1 : ∃ R', SPL N D W (spQ N D W) R' := @Classical.epsilon_spec PS (fun Q => ∃ R, SPL N D W Q R) ⟨Q, R, h⟩
  have g2 : ∃ Q', SPL N D W Q' (spR N D W) := @Classical.epsilon_spec PS (fun R => ∃ Q, SPL N D W Q R) ⟨R, Q, h⟩
  obtain ⟨R', k1⟩ := g1
  obtain ⟨Q', k2⟩ := g2
  exact ⟨(SPL.un hN hD hD0 hDs hNs hW k1 h).1, (SPL.un hN hD hD0 hDs hNs hW k2 h).2⟩
/-- congruence modulo m -/
def PS.cong (m a b : PS) : Prop := m.dvd (a.sub b)
theorem PS.ex_spec {a m : PS} (hm : m.fin) (ha : a.fin) : ∀ (n : Nat) (A B s t : PS) (nn : Nat), A.fin → B.fin → s.lt nn → t.lt nn → B.size < n → B.size < A.size → 1 < A.size → nn + A.size ≤ m.size + 1 → m.dvd ((s.mul a).sub A) → m.dvd ((t.mul a).sub B) → (∀ P : PS, P.irr → P.dvd A → P.dvd B → P.dvd m ∧ P.dvd a) →
    (PS.ex n A B s t).2.lt (m.size - 1) ∧ m.dvd (((PS.ex n A B s t).2.mul a).sub (PS.ex n A B s t).1) ∧ (PS.ex n A B s t).1.fin ∧ (PS.ex n A B s t).1.size ≤ 1 ∧ ((PS.ex n A B s t).1 = PS.zero → ∃ P : PS, P.irr ∧ P.dvd m ∧ P.dvd a) := by
  intro n
  induction n with
  | zero => intro A B s t nn _ _ _ _ h; omega
  | succ n ih =>
    intro A B s t nn hA hB hs ht h1 h2 h3 h4 h5 h6 h7
    by_cases h0 : B.size ≤ 1
    · rw [PS.ex_end h0]
      refine ⟨PS.lt_mono ht (by omega), h6, hB, h0, fun hz => ?_⟩
      obtain ⟨P, hP, hd⟩ := PS.irr_ex A.size A hA h3 (Nat.le_refl _)
      have hz' : B = PS.zero := hz
      exact ⟨P, hP, h7 P hP hd (by rw [hz']; exact PS.dvd_zero P)⟩
    · rw [PS.ex_step h0]
      have hB0 := PS.ne_of_size (show 0 < B.size by omega)
      obtain ⟨bn, hbn, hBz⟩ := PS.fne_isz hB hB0
      obtain ⟨NA, hNA⟩ := hA
      have hd := PS.div_spec hBz hNA
      have hdl : (A.dv B).lt (A.size - B.size + 1) := PS.dv_lt hBz (PS.lt_mono (PS.lt_size hNA) (by omega))
      have hms := PS.size_le hd.2.1
      refine ih B (A.md B) t (s.sub ((A.dv B).mul t)) (nn + A.size - B.size) hB ⟨_, hd.2.1⟩ (PS.lt_mono ht (by omega)) (PS.lt_sub (PS.lt_mono hs (by omega)) (PS.lt_mul' hdl ht (by omega))) (by omega) (by omega) (by omega) (by omega) h6 ?_ ?_
      · have e : ((s.sub ((A.dv B).mul t)).mul a).sub (A.md B) = ((s.mul a).sub A).sub ((A.dv B).mul ((t.mul a).sub B)) := by
          have e1 := hd.1
          revert e1
          generalize A.dv B = q
          generalize A.md B = r
          intro e1
          letI := psRing
          have e1' : A = q * B + r := e1
          show (s - q * t) * a - r = s * a - A - q * (t * a - B)
          grind
        rw [e]
        exact PS.dvd_sub h5 (PS.dvd_mul_left _ ⟨_, hdl⟩ h6)
      · intro P hP g1 g2
        refine h7 P hP ?_ g1
        have := PS.dvd_add (PS.dvd_mul_left (A.dv B) ⟨_, hdl⟩ g1) g2
        rw [← hd.1] at this
        exact this
theorem PS.inv_spec {a m : PS} (hm : m.fin) (ha : a.fin) (hms : 1 < m.size) (hm2 : m.size < 190) (hco : ∀ P : PS, P.irr → P.dvd m → ¬ P.dvd a) : (a.inv m).lt (m.size - 1) ∧ m.dvd (((a.inv m).mul a).sub PS.one) := by
  have hm0 := PS.ne_of_size (show 0 < m.size by omega)
  obtain ⟨mn, hmn, hmz⟩ := PS.fne_isz hm hm0
  obtain ⟨Na, hNa⟩ := ha
  have hd := PS.div_spec hmz hNa
  have hsz := PS.size_le hd.2.1
  have hone : m.dvd ((PS.one.mul a).sub (a.md m)) := by
    rw [PS.one_mul]
    refine ⟨a.dv m, ⟨_, hd.2.2⟩, ?_⟩
    have e1 := hd.1
    revert e1
    generalize a.dv m = q
    generalize a.md m = r
    intro e1
    letI := psRing
    have e1' : a = q * m + r := e1
    show a - r = q * m
    grind
  have hzero : m.dvd ((PS.zero.mul a).sub m) := by
    refine ⟨PS.neg PS.one, PS.fin_neg PS.fin_one, ?_⟩
    rw [PS.zero_eq]
    letI := psRing
    show 0 * a - m = -1 * m
    grind
  have h := PS.ex_spec (a := a) hm ⟨Na, hNa⟩ 200 m (a.md m) PS.zero PS.one 1 hm ⟨_, hd.2.1⟩ (PS.zero_lt _) (PS.C_lt _) (by omega) (by omega) hms (by omega) hzero hone (fun P hP g1 g2 => ⟨g1, by
    have := PS.dvd_add (PS.dvd_mul_left (a.dv m) ⟨_, hd.2.2⟩ g1) g2
    rw [← hd.1] at this
    exact this⟩)
  unfold PS.inv
  revert h
  generalize PS.ex 200 m (a.md m) PS.zero PS.one = e
  intro h
  obtain ⟨B, t⟩ := e
  obtain ⟨h1, h2, h3, h4, h5⟩ := h
  dsimp only at h1 h2 h3 h4 h5 ⊢
  have hB0 : B ≠ PS.zero := fun z => by
    obtain ⟨P, hP, g1, g2⟩ := h5 z
    exact hco P hP g1 g2
  have hB1 : B.size = 1 := by have := PS.fpos h3 hB0; omega
  obtain ⟨e1, e2⟩ := PS.const h3 hB1
  have ehd : fi (hdI B) = B 0 := by
    have hz := PS.fisz h3
    rw [hB1] at hz
    exact hdI_eq hz
  rw [ehd]
  refine ⟨PS.lt_sm _ h1, ?_⟩
  have h6 := PS.dvd_sm (finv (B 0)) h2
  have e3 : ((t.mul a).sub B).sm (finv (B 0)) = ((t.sm (finv (B 0))).mul a).sub PS.one := by
    rw [PS.sm_mul]
    refine PS.ext fun n => ?_
    show finv (B 0) * ((t.mul a) n - B n) = finv (B 0) * (t.mul a) n - PS.one n
    have e4 : B n = if n = 0 then B 0 else 0 := congrFun e1 n
    rw [e4]
    show _ = finv (B 0) * (t.mul a) n - (if n = 0 then 1 else 0)
    have := finv_mul (B 0) e2
    split <;> grind
  rw [e3] at h6
  exact h6
