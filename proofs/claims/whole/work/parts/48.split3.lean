theorem PS.dv_fin {p D : PS} (hp : p.fin) (hD : D.fin) (h0 : D ≠ PS.zero) : (p.dv D).fin := by
  obtain ⟨n, -, hz⟩ := PS.fne_isz hD h0
  obtain ⟨N, hN⟩ := hp
  exact ⟨_, (PS.div_spec hz hN).2.2⟩
/-- the integral of the first coefficients -/
def PS.itg (X : PS) (k : Nat) : PS := fun n => if n = 0 ∨ k < n then 0 else fi (ivI (n : Int)) * X (n - 1)
theorem PS.itg_0 (X : PS) : PS.itg X (0 : Int).toNat = PS.zero := PS.ext fun n => by
  show (if n = 0 ∨ 0 < n then 0 else _) = 0
  rw [if_pos (by omega)]
theorem PS.itg_put (X : PS) {k : Int} (h0 : 0 ≤ k) (hk : k ≤ 40) : (PS.itg X k.toNat).putc (k + 1) (fi (ca X k * ivI (k + 1))) = PS.itg X (k.toNat + 1) := by
  unfold PS.putc
  rw [if_neg (by omega)]
  refine PS.ext fun n => ?_
  show (if n = (k + 1).toNat then fi (ca X k * ivI (k + 1)) else if n = 0 ∨ k.toNat < n then 0 else fi (ivI (n : Int)) * X (n - 1)) = if n = 0 ∨ k.toNat + 1 < n then 0 else fi (ivI (n : Int)) * X (n - 1)
  by_cases e : n = (k + 1).toNat
  · rw [if_pos e, if_neg (by omega), fi_mul, ca_of h0, fi_cf, e, show (((k + 1).toNat : Nat) : Int) = k + 1 by omega, show (k + 1).toNat - 1 = k.toNat by omega]
    grind
  · rw [if_neg e]
    by_cases e2 : n = 0 ∨ k.toNat < n
    · rw [if_pos e2, if_pos (by omega)]
    · rw [if_neg e2, if_neg (by omega)]
theorem PS.itg_lt (X : PS) (k : Nat) : (PS.itg X k).lt (k + 1) := fun n hn => by
  show (if n = 0 ∨ k < n then 0 else _) = 0
  rw [if_pos (by omega)]
theorem PS.itg_der (X : PS) {k : Nat} (hX : X.lt k) (hk : k ≤ 60) : (PS.itg X k).der = X := PS.ext fun n => by
  show fi ((n : Int) + 1) * (if n + 1 = 0 ∨ k < n + 1 then 0 else fi (ivI ((n + 1 : Nat) : Int)) * X (n + 1 - 1)) = X n
  by_cases e : k < n + 1
  · rw [if_pos (by omega), hX n (by omega)]; grind
  · rw [if_neg (by omega), fi_ivI, show ((n + 1 : Nat) : Int) = (n : Int) + 1 by omega, show n + 1 - 1 = n by omega]
    have := finv_mul _ (fi_small (k := (n : Int) + 1) (by omega) (by omega))
    grind
/-- the loop that takes off the polynomial part -/
def LM (W X H G : PS) (k : Int) : Prop := H.fin ∧ G.lt (k + 1).toNat ∧ X = (H.der.add (W.mul H)).add G ∧ (W = PS.zero → k = -1 ∧ G = PS.zero ∧ H 0 = 0 ∧ (H = PS.zero ∨ (X ≠ PS.zero ∧ H.size ≤ X.size + 1))) ∧
  (W ≠ PS.zero → (∀ n : Nat, (n : Int) + W.size ≤ k + 1 → H n = 0) ∧ H.lt (X.size + 1 - W.size) ∧ k < X.size)
theorem LM.ne {W X H G : PS} {k : Int} (h : LM W X H G k) (hk : 0 ≤ k) : W ≠ PS.zero := fun e => by
  have := (h.2.2.2.1 e).1
  omega
theorem LM.start {W X : PS} (hW : W ≠ PS.zero) (hX : X.fin) : LM W X PS.zero X ((X.size : Int) - 1) := by
  refine ⟨PS.fin_zero, PS.lt_mono (PS.fisz hX).2 (by omega), ?_, fun e => absurd e hW, fun _ => ⟨fun _ _ => rfl, PS.zero_lt _, by omega⟩⟩
  rw [PS.der_zero, PS.mul_zero, PS.zero_add, PS.zero_add]
theorem LM.start0 {W X : PS} (hW : W = PS.zero) (hX : X.fin) (k : Int) (hk : k = X.size ∧ X.size ≤ 50) : LM W X (PS.itg X k.toNat) PS.zero ((PS.zero.size : Int) - 1) := by
  have hXl := (PS.fisz hX).2
  refine ⟨⟨_, PS.itg_lt X _⟩, PS.zero_lt _, ?_, fun _ => ⟨by rw [PS.size_zero]; omega, rfl, rfl, ?_⟩, fun e => absurd hW e⟩
  · rw [hW, PS.zero_mul, PS.add_zero, PS.add_zero]
    exact (PS.itg_der X (PS.lt_mono hXl (by omega)) (by omega)).symm
  · by_cases h0 : X = PS.zero
    · left
      refine PS.ext fun n => ?_
      show (if n = 0 ∨ k.toNat < n then 0 else fi (ivI (n : Int)) * X (n - 1)) = 0
      split
      · rfl
      · rw [h0]; show _ * (0 : F) = 0; grind
    · right
      refine ⟨h0, ?_⟩
      have := PS.size_le (PS.itg_lt X k.toNat)
      omega
theorem LM.step {W X H G : PS} {k cc : Int} {m : Nat} (h : LM W X H G k) (hWz : W.isz (m + 1)) (hk : 0 ≤ k ∧ (m : Int) ≤ k) (hfc : fi cc = G k.toNat * finv (W m)) (hW : (W.size : Int) = m + 1) :
    LM W X (H.putc (k - ((W.size : Int) - 1)) (fi cc)) (PS.putc (G.am W (fi (101 - cc)) (k - ((W.size : Int) - 1)).toNat) (k - ((W.size : Int) - 1) - 1) (fi (ca (G.am W (fi (101 - cc)) (k - ((W.size : Int) - 1)).toNat) (k - ((W.size : Int) - 1) - 1) + (101 - cc) * (k - ((W.size : Int) - 1))))) (k + (-1)) := by
  have hW0 := h.ne hk.1
  obtain ⟨hH, hG, hX, -, hw1⟩ := h
  obtain ⟨g1, g2, g3⟩ := hw1 hW0
  obtain ⟨p, hp⟩ : ∃ p : Nat, (p : Int) = k - ((W.size : Int) - 1) := ⟨(k - ((W.size : Int) - 1)).toNat, by omega⟩
  rw [← hp, show ((p : Int)).toNat = p by omega]
  have hHp : H p = 0 := g1 p (by omega)
  have eH : H.putc (p : Int) (fi cc) = H.add ((PS.C (fi cc)).sh p) := by
    unfold PS.putc
    rw [if_neg (by omega), show ((p : Int)).toNat = p by omega, PS.set_add hHp]
  have hneg : fi (101 - cc) = - fi cc := fi_101 cc
  have lG1 : (G.am W (fi (101 - cc)) p).lt k.toNat := by
    rw [hneg, hfc, show p = k.toNat - m by omega]
    exact PS.strike_at hWz (PS.lt_mono hG (by omega)) (by omega)
  have eder : ((PS.C (fi cc)).sh p).der = (PS.C (fi cc * fi (p : Int))).sh (p - 1) := by
    refine PS.ext fun n => ?_
    show fi ((n : Int) + 1) * (if n + 1 < p then 0 else if n + 1 - p = 0 then fi cc else 0) = if n < p - 1 then 0 else if n - (p - 1) = 0 then fi cc * fi (p : Int) else 0
    by_cases q1 : n + 1 < p
    · rw [if_pos q1, if_pos (show n < p - 1 by omega)]; grind
    · by_cases q2 : n + 1 = p
      · rw [if_neg q1, if_pos (show n + 1 - p = 0 by omega), if_neg (show ¬ n < p - 1 by omega), if_pos (show n - (p - 1) = 0 by omega), show (n : Int) + 1 = (p : Int) by omega]; grind
      · rw [if_neg q1, if_neg (show ¬ n + 1 - p = 0 by omega), if_neg (show ¬ n < p - 1 by omega)]
        by_cases q3 : n - (p - 1) = 0
        · rw [if_pos q3, show p = 0 by omega, show fi (((0 : Nat)) : Int) = 0 by decide]; grind
        · rw [if_neg q3]; grind
  have eG : PS.putc (G.am W (fi (101 - cc)) p) ((p : Int) - 1) (fi (ca (G.am W (fi (101 - cc)) p) ((p : Int) - 1) + (101 - cc) * (p : Int))) = (G.sub (W.mul ((PS.C (fi cc)).sh p))).sub ((PS.C (fi cc)).sh p).der := by
    have e1 : G.am W (fi (101 - cc)) p = G.sub (W.mul ((PS.C (fi cc)).sh p)) := by
      rw [PS.am_eq, hneg, PS.mul_comm W]
      have e : (PS.C (- fi cc)).sh p = PS.neg ((PS.C (fi cc)).sh p) := PS.ext fun n => by
        show (if n < p then 0 else if n - p = 0 then - fi cc else 0) = - (if n < p then 0 else if n - p = 0 then fi cc else 0)
        split
        · grind
        · split <;> grind
      rw [e]
      generalize (PS.C (fi cc)).sh p = Z
      letI := psRing
      show G + (-Z) * W = G - Z * W
      grind
    rw [← e1, eder]
    generalize G.am W (fi (101 - cc)) p = G1
    refine PS.ext fun n => ?_
    unfold PS.putc
    by_cases q : p = 0
    · subst q
      rw [if_pos (by omega)]
      show G1 n = G1 n - (if n < 0 - 1 then 0 else if n - (0 - 1) = 0 then fi cc * fi ((0 : Nat) : Int) else 0)
      rw [show fi (((0 : Nat)) : Int) = 0 by decide]
      split
      · grind
      · split <;> grind
    · rw [if_neg (by omega), show ((p : Int) - 1).toNat = p - 1 by omega]
      show (if n = p - 1 then _ else G1 n) = G1 n - (if n < p - 1 then 0 else if n - (p - 1) = 0 then fi cc * fi (p : Int) else 0)
      by_cases q2 : n = p - 1
      · rw [if_pos q2, if_neg (by omega), if_pos (by omega), fi_add, fi_mul, hneg, ca_of (by omega), fi_cf, show ((p : Int) - 1).toNat = p - 1 by omega, q2]; grind
      · rw [if_neg q2]
        by_cases q3 : n < p - 1
        · rw [if_pos q3]; grind
        · rw [if_neg q3, if_neg (by omega)]; grind
  refine ⟨?_, ?_, ?_, fun e => absurd e hW0, fun _ => ⟨fun n hn => ?_, ?_, by omega⟩⟩
  · rw [eH]; exact PS.fin_add hH ⟨_, PS.C_sh_lt _ _⟩
  · rw [show (k + (-1) + 1).toNat = k.toNat by omega]
    unfold PS.putc
    split
    · exact lG1
    · exact PS.set_lt lG1 (by omega)
  · rw [eG, eH, PS.der_add, hX]
    generalize ((PS.C (fi cc)).sh p).der = Z'
    generalize (PS.C (fi cc)).sh p = Z
    generalize H.der = H'
    letI := psRing
    show H' + W * H + G = H' + Z' + W * (H + Z) + (G - W * Z - Z')
    grind
  · rw [eH, PS.sh_am, if_neg (by omega)]
    exact g1 n (by omega)
  · rw [eH]
    exact PS.lt_add g2 (PS.lt_mono (PS.C_sh_lt _ _) (by omega))
theorem LM.exit {W X H G : PS} {k : Int} (h : LM W X H G k) (hW0 : W ≠ PS.zero) (hk : -1 ≤ k ∧ k + 1 < W.size) : MW W X H G := by
  obtain ⟨hH, hG, hX, -, hw1⟩ := h
  obtain ⟨g1, g2, g3⟩ := hw1 hW0
  refine ⟨hH, ⟨_, hG⟩, hX, fun e => absurd e hW0, fun _ => ⟨PS.lt_mono hG (by omega), ?_⟩⟩
  by_cases h0 : H = PS.zero
  · exact Or.inl h0
  · right
    have h1 := PS.size_le g2
    have h2 := PS.fpos hH h0
    omega
theorem LM.exit0 {W X H G : PS} {k : Int} (h : LM W X H G k) (hWf : W.fin) (h1 : k < 0) (h2 : (W.size : Int) - 1 ≤ k) : MW W X H G := by
  obtain ⟨hH, hG, hX, hw0, hw1⟩ := h
  have hW0 : W = PS.zero := (PS.fsz0 hWf).mp (by omega)
  exact ⟨hH, ⟨_, hG⟩, hX, fun _ => (hw0 hW0).2, fun e => absurd hW0 e⟩
theorem MW.sizes {W X H G E M : PS} (h : MW W X H G) (hX : X.fin) (hE : E.fin) (hM : M.fin) (hz : E.size ≤ 20 ∧ M.size ≤ 20 ∧ X.size ≤ 12 ∧ W.size ≤ 4) :
    H.size + E.size ≤ 49 ∧ (H.mul E).size + Int.toNat 0 ≤ 48 ∧ G.size + M.size ≤ 49 ∧ (G.mul M).size + Int.toNat 0 ≤ 48 := by
  obtain ⟨hH, hG, hX', hw0, hw1⟩ := h
  have e0 : Int.toNat 0 = 0 := rfl
  have sH : H.size ≤ 13 ∧ G.size ≤ 12 := by
    by_cases hW : W = PS.zero
    · obtain ⟨g1, g2, g3⟩ := hw0 hW
      rw [g1, PS.size_zero]
      rcases g3 with z | z
      · rw [z, PS.size_zero]; omega
      · omega
    · obtain ⟨g1, g2⟩ := hw1 hW
      have := PS.size_le g1
      rcases g2 with z | z
      · rw [z, PS.size_zero]; omega
      · omega
  have s1 := PS.size_le (PS.lt_mul' (N := 40) (PS.lt_mono (PS.fisz hH).2 sH.1) (PS.lt_mono (PS.fisz hE).2 hz.1) (by omega))
  have s2 := PS.size_le (PS.lt_mul' (N := 40) (PS.lt_mono (PS.fisz hG).2 sH.2) (PS.lt_mono (PS.fisz hM).2 hz.2.1) (by omega))
  omega
set_option maxHeartbeats 4000000 in
theorem q_moveWhole (l : Launch) (G : Gl) (Λ : Lay) (sz : Nat) (μ : Mem) {π : Nat → PS} {κ σ w q r : Nat} {E W Q R M : PS} (hA : AB Λ μ π) (hI : INV G Λ) (hK : kitK Λ κ) (hS : spK Λ σ κ) (hks : κ + 16 < σ ∨ σ + 16 < κ) (hkw : polyK Λ w) (hFq : fracK Λ q) (hFr : fracK Λ r) (oq : (q + 4 < κ ∨ κ + 16 < q) ∧ (q + 4 < σ ∨ σ + 16 < q)) (or : (r + 4 < κ ∨ κ + 16 < r) ∧ (r + 4 < σ ∨ σ + 16 < r)) (ow : (w < κ ∨ κ + 16 < w) ∧ (w < σ ∨ σ + 16 < w) ∧ (w < q ∨ q + 4 < w) ∧ (w < r ∨ r + 4 < w)) (oqr : q + 4 < r ∨ r + 4 < q) (hw : π w = W) (hq1 : π (q + 1) = Q) (hq3 : π (q + 3) = E) (hr1 : π (r + 1) = R) (hr3 : π (r + 3) = M) (hM0 : M ≠ PS.zero) (hz : Hid (E.size ≤ 20 ∧ M.size ≤ 20 ∧ (PS.dv R M).size ≤ 12 ∧ W.size ≤ 4)) : Sp l G yX9_moveWhole cX9_moveWhole 7 none 4 [.ref σ, .ref w, .ref q, .ref r] Λ sz μ (pV (fun μ' => ∃ π', Chg Λ (fun c => c = q + 1 ∨ c = r + 1 ∨ (σ < c ∧ c < σ + 17) ∨ (κ < c ∧ c < κ + 17)) μ μ' π π' ∧ π' (q + 3) = E ∧ π' (r + 3) = M ∧ π' w = W ∧ ∃ Hh Gg : PS, MW W (PS.dv R M) Hh Gg ∧ π' (q + 1) = Q.am (Hh.mul E) (fi 1) 0 ∧ π' (r + 1) = (R.md M).am (Gg.mul M) (fi 1) 0)) := by
  refine Sp.intro (by decide) (Nat.le_of_ble_eq_true rfl) (fun x hx hBD => ?_)
  refine v_lv [(0, .ref σ), (1, .ref w), (2, .ref q), (3, .ref r)] rfl ?_
  have F0 : Hid (σ + 15 ≠ σ + 13) := (show σ + 15 ≠ σ + 13 from (by omega))
  have F1 : Hid (σ + 15 ≠ q + 3) := (show σ + 15 ≠ q + 3 from (by omega))
  have F2 : Hid ((fun c => c = q + 1 ∨ c = r + 1 ∨ (σ < c ∧ c < σ + 17) ∨ (κ < c ∧ c < κ + 17)) (σ + 15)) := (show (fun c => c = q + 1 ∨ c = r + 1 ∨ (σ < c ∧ c < σ + 17) ∨ (κ < c ∧ c < κ + 17)) (σ + 15) from (by first | omega | (dsimp only; omega)))
  have F3 : Hid (w ≠ σ + 15) := (show w ≠ σ + 15 from (by omega))
  have F4 : Hid (q + 1 ≠ σ + 15) := (show q + 1 ≠ σ + 15 from (by omega))
  have F5 : Hid (q + 3 ≠ σ + 15) := (show q + 3 ≠ σ + 15 from (by omega))
  have F6 : Hid (r + 1 ≠ σ + 15) := (show r + 1 ≠ σ + 15 from (by omega))
  have F7 : Hid (r + 3 ≠ σ + 15) := (show r + 3 ≠ σ + 15 from (by omega))
  have F8 : Hid (σ + 11 ≠ σ + 15) := (show σ + 11 ≠ σ + 15 from (by omega))
  have F9 : Hid (σ + 13 ≠ σ + 15) := (show σ + 13 ≠ σ + 15 from (by omega))
  have F10 : Hid ((fun c => c = q + 1 ∨ c = r + 1 ∨ (σ < c ∧ c < σ + 17) ∨ (κ < c ∧ c < κ + 17)) (q + 1)) := (show (fun c => c = q + 1 ∨ c = r + 1 ∨ (σ < c ∧ c < σ + 17) ∨ (κ < c ∧ c < κ + 17)) (q + 1) from (by first | omega | (dsimp only; omega)))
  have F11 : Hid (w ≠ q + 1) := (show w ≠ q + 1 from (by omega))
  have F12 : Hid (q + 3 ≠ q + 1) := (show q + 3 ≠ q + 1 from (by omega))
  have F13 : Hid (r + 1 ≠ q + 1) := (show r + 1 ≠ q + 1 from (by omega))
  have F14 : Hid (r + 3 ≠ q + 1) := (show r + 3 ≠ q + 1 from (by omega))
  have F15 : Hid (σ + 11 ≠ q + 1) := (show σ + 11 ≠ q + 1 from (by omega))
  have F16 : Hid (σ + 13 ≠ q + 1) := (show σ + 13 ≠ q + 1 from (by omega))
  have F17 : Hid (σ + 15 ≠ q + 1) := (show σ + 15 ≠ q + 1 from (by omega))
  have F18 : Hid (σ + 15 ≠ σ + 11) := (show σ + 15 ≠ σ + 11 from (by omega))
  have F19 : Hid (σ + 15 ≠ r + 3) := (show σ + 15 ≠ r + 3 from (by omega))
  have F20 : Hid ((fun c => c = q + 1 ∨ c = r + 1 ∨ (σ < c ∧ c < σ + 17) ∨ (κ < c ∧ c < κ + 17)) (r + 1)) := (show (fun c => c = q + 1 ∨ c = r + 1 ∨ (σ < c ∧ c < σ + 17) ∨ (κ < c ∧ c < κ + 17)) (r + 1) from (by first | omega | (dsimp only; omega)))
  have F21 : Hid (w ≠ r + 1) := (show w ≠ r + 1 from (by omega))
  have F22 : Hid (q + 3 ≠ r + 1) := (show q + 3 ≠ r + 1 from (by omega))
  have F23 : Hid (r + 3 ≠ r + 1) := (show r + 3 ≠ r + 1 from (by omega))
  have F24 : Hid (σ + 11 ≠ r + 1) := (show σ + 11 ≠ r + 1 from (by omega))
  have F25 : Hid (σ + 13 ≠ r + 1) := (show σ + 13 ≠ r + 1 from (by omega))
  have F26 : Hid (q + 1 ≠ r + 1) := (show q + 1 ≠ r + 1 from (by omega))
  have F27 : Hid (σ + 15 ≠ r + 1) := (show σ + 15 ≠ r + 1 from (by omega))
  have F28 : Hid ((fun c => c = q + 1 ∨ c = r + 1 ∨ (σ < c ∧ c < σ + 17) ∨ (κ < c ∧ c < κ + 17)) (σ + 13)) := (show (fun c => c = q + 1 ∨ c = r + 1 ∨ (σ < c ∧ c < σ + 17) ∨ (κ < c ∧ c < κ + 17)) (σ + 13) from (by first | omega | (dsimp only; omega)))
  have F29 : Hid (w ≠ σ + 13) := (show w ≠ σ + 13 from (by omega))
  have F30 : Hid (q + 1 ≠ σ + 13) := (show q + 1 ≠ σ + 13 from (by omega))
  have F31 : Hid (q + 3 ≠ σ + 13) := (show q + 3 ≠ σ + 13 from (by omega))
  have F32 : Hid (r + 1 ≠ σ + 13) := (show r + 1 ≠ σ + 13 from (by omega))
  have F33 : Hid (r + 3 ≠ σ + 13) := (show r + 3 ≠ σ + 13 from (by omega))
  have F34 : Hid (σ + 11 ≠ σ + 13) := (show σ + 11 ≠ σ + 13 from (by omega))
  have F35 : Hid (σ + 11 ≠ w) := (show σ + 11 ≠ w from (by omega))
  have F36 : Hid ((fun c => c = q + 1 ∨ c = r + 1 ∨ (σ < c ∧ c < σ + 17) ∨ (κ < c ∧ c < κ + 17)) (σ + 11)) := (show (fun c => c = q + 1 ∨ c = r + 1 ∨ (σ < c ∧ c < σ + 17) ∨ (κ < c ∧ c < κ + 17)) (σ + 11) from (by first | omega | (dsimp only; omega)))
  have F37 : Hid (w ≠ σ + 11) := (show w ≠ σ + 11 from (by omega))
  have F38 : Hid (q + 1 ≠ σ + 11) := (show q + 1 ≠ σ + 11 from (by omega))
  have F39 : Hid (q + 3 ≠ σ + 11) := (show q + 3 ≠ σ + 11 from (by omega))
  have F40 : Hid (r + 1 ≠ σ + 11) := (show r + 1 ≠ σ + 11 from (by omega))
  have F41 : Hid (r + 3 ≠ σ + 11) := (show r + 3 ≠ σ + 11 from (by omega))
  have F42 : Hid (σ + 13 ≠ σ + 11) := (show σ + 13 ≠ σ + 11 from (by omega))
  have F43 : Hid (σ + 11 ≠ r + 3) := (show σ + 11 ≠ r + 3 from (by omega))
  have F44 : Hid (r + 1 ≠ r + 3) := (show r + 1 ≠ r + 3 from (by omega))
  have lW : W.lt 48 := hw ▸ (hA w hkw).1.1
  have sW := PS.size_le lW
  have sX : (PS.dv R M).size ≤ 12 := (by have hz2 := hz; unfold Hid at hz2; omega)
  have sz0 := PS.size_zero
  have hXf : (PS.dv R M).fin := PS.dv_fin ⟨_, hr1 ▸ (hA (r + 1) hFr.2.1).1.1⟩ ⟨_, hr3 ▸ (hA (r + 3) hFr.2.2).1.1⟩ hM0
  have hEf : E.fin := ⟨_, hq3 ▸ (hA (q + 3) hFq.2.2).1.1⟩
  have hMf : M.fin := ⟨_, hr3 ▸ (hA (r + 3) hFr.2.2).1.1⟩
  have hch0 : Chg Λ (fun c => c = q + 1 ∨ c = r + 1 ∨ (σ < c ∧ c < σ + 17) ∨ (κ < c ∧ c < κ + 17)) μ μ π π := Chg.rf hA
  have L202 : ∀ (k : Int) (Hh Gg : PS) (Mc : Mem) (πe : Nat → PS), (Chg Λ (fun c => c = q + 1 ∨ c = r + 1 ∨ (σ < c ∧ c < σ + 17) ∨ (κ < c ∧ c < κ + 17)) μ Mc π πe) → (πe w = W) → (πe (q + 1) = Q) → (πe (q + 3) = E) → (πe (r + 1) = PS.md R M) → (πe (r + 3) = M) → (πe (σ + 11) = Gg) → (πe (σ + 13) = Hh) → (MW W (PS.dv R M) Hh Gg) → V G x (0, 0) Λ sz Mc 202 [(4, iv k), (0, .ref σ), (1, .ref w), (2, .ref q), (3, .ref r)] [] := by
    intro k Hh Gg Mc πe hchπe vπe_0 vπe_1 vπe_2 vπe_3 vπe_4 vπe_5 vπe_6 hMW
    have hAπe := hchπe.1
    obtain ⟨mw1, mw2, mw3, mw4⟩ := MW.sizes hMW hXf hEf hMf (by have hz2 := hz; unfold Hid at hz2; exact hz2)
    refine v_aload hx DX9_moveWhole_202 1 rfl ?_
    refine v_get hx DX9_moveWhole_203 FLRX9_36 hS.1 (v := .ref (σ + 15)) rfl ?_
    refine v_aload hx DX9_moveWhole_206 1 rfl ?_
    refine v_get hx DX9_moveWhole_207 FLRX9_33 hS.1 (v := .ref (σ + 13)) rfl ?_
    refine v_aload hx DX9_moveWhole_210 3 rfl ?_
    refine v_get hx DX9_moveWhole_211 FLRX9_82 hFq.1 (v := .ref (q + 3)) rfl ?_
    refine v_cVv hx DX9_moveWhole_214 CVRX9_51 [.ref (σ + 13), .ref (q + 3)] (s_product l G Λ sz Mc hS.2.2.2.2.2 hS.2.2.2.2.1 hFq.2.2 F0 F1 (AB.get (A := πe (σ + 15)) hAπe hS.2.2.2.2.2 rfl) (AB.get (A := Hh) hAπe hS.2.2.2.2.1 vπe_6) (AB.get (A := E) hAπe hFq.2.2 vπe_2) mw1) hS.2.2.2.2.2.1 rfl rfl (Nat.le_of_ble_eq_true rfl) (by decide) ⟨Nat.le_refl _, Nat.le_refl _⟩ (fun μ1 hμ1 => ?_)
    obtain ⟨π1, hc1, he1, ho1⟩ := Chg.one (S := fun c => c = q + 1 ∨ c = r + 1 ∨ (σ < c ∧ c < σ + 17) ∨ (κ < c ∧ c < κ + 17)) (R := PS.mul Hh E) hAπe hS.2.2.2.2.2 F2 hμ1
    have hA1 := hc1.1
    have hch1 := hchπe.trans hc1
    have v1_0 : π1 w = W := (ho1 w F3).trans vπe_0
    have v1_1 : π1 (q + 1) = Q := (ho1 (q + 1) F4).trans vπe_1
    have v1_2 : π1 (q + 3) = E := (ho1 (q + 3) F5).trans vπe_2
    have v1_3 : π1 (r + 1) = PS.md R M := (ho1 (r + 1) F6).trans vπe_3
    have v1_4 : π1 (r + 3) = M := (ho1 (r + 3) F7).trans vπe_4
    have v1_5 : π1 (σ + 11) = Gg := (ho1 (σ + 11) F8).trans vπe_5
    have v1_6 : π1 (σ + 13) = Hh := (ho1 (σ + 13) F9).trans vπe_6
    refine v_aload hx DX9_moveWhole_217 3 rfl ?_
    refine v_get hx DX9_moveWhole_218 FLRX9_75 hFq.1 (v := .ref (q + 1)) rfl ?_
    refine v_aload hx DX9_moveWhole_221 1 rfl ?_
    refine v_get hx DX9_moveWhole_222 FLRX9_36 hS.1 (v := .ref (σ + 15)) rfl ?_
    refine v_push hx DX9_moveWhole_225 ?_
    refine v_push hx DX9_moveWhole_226 ?_
    refine v_cVv hx DX9_moveWhole_227 CVRX9_120 [.ref (σ + 15), iv 1, iv 0] (s_addMultiple l G Λ sz μ1 hFq.2.1 hS.2.2.2.2.2 F4 (AB.get (A := Q) hA1 hFq.2.1 v1_1) (AB.get (A := PS.mul Hh E) hA1 hS.2.2.2.2.2 he1) (by omega) (by omega) mw2) hFq.2.1.1 rfl rfl (Nat.le_of_ble_eq_true rfl) (by decide) ⟨Nat.le_refl _, Nat.le_refl _⟩ (fun μ2 hμ2 => ?_)
    obtain ⟨π2, hc2, he2, ho2⟩ := Chg.one (S := fun c => c = q + 1 ∨ c = r + 1 ∨ (σ < c ∧ c < σ + 17) ∨ (κ < c ∧ c < κ + 17)) (R := PS.am Q (PS.mul Hh E) (fi 1) (Int.toNat 0)) hA1 hFq.2.1 F10 hμ2
    have hA2 := hc2.1
    have hch2 := hch1.trans hc2
    have v2_0 : π2 w = W := (ho2 w F11).trans v1_0
    have v2_2 : π2 (q + 3) = E := (ho2 (q + 3) F12).trans v1_2
    have v2_3 : π2 (r + 1) = PS.md R M := (ho2 (r + 1) F13).trans v1_3
    have v2_4 : π2 (r + 3) = M := (ho2 (r + 3) F14).trans v1_4
    have v2_5 : π2 (σ + 11) = Gg := (ho2 (σ + 11) F15).trans v1_5
    have v2_6 : π2 (σ + 13) = Hh := (ho2 (σ + 13) F16).trans v1_6
    have v2_7 : π2 (σ + 15) = PS.mul Hh E := (ho2 (σ + 15) F17).trans he1
    have w3 : π2 (q + 1) = PS.am Q (PS.mul Hh E) (fi 1) 0 := he2.trans rfl
    refine v_aload hx DX9_moveWhole_230 1 rfl ?_
    refine v_get hx DX9_moveWhole_231 FLRX9_36 hS.1 (v := .ref (σ + 15)) rfl ?_
    refine v_aload hx DX9_moveWhole_234 1 rfl ?_
    refine v_get hx DX9_moveWhole_235 FLRX9_30 hS.1 (v := .ref (σ + 11)) rfl ?_
    refine v_aload hx DX9_moveWhole_238 4 rfl ?_
    refine v_get hx DX9_moveWhole_239 FLRX9_82 hFr.1 (v := .ref (r + 3)) rfl ?_
    refine v_cVv hx DX9_moveWhole_242 CVRX9_51 [.ref (σ + 11), .ref (r + 3)] (s_product l G Λ sz μ2 hS.2.2.2.2.2 hS.2.2.2.1 hFr.2.2 F18 F19 (AB.get (A := PS.mul Hh E) hA2 hS.2.2.2.2.2 v2_7) (AB.get (A := Gg) hA2 hS.2.2.2.1 v2_5) (AB.get (A := M) hA2 hFr.2.2 v2_4) mw3) hS.2.2.2.2.2.1 rfl rfl (Nat.le_of_ble_eq_true rfl) (by decide) ⟨Nat.le_refl _, Nat.le_refl _⟩ (fun μ4 hμ4 => ?_)
    obtain ⟨π4, hc4, he4, ho4⟩ := Chg.one (S := fun c => c = q + 1 ∨ c = r + 1 ∨ (σ < c ∧ c < σ + 17) ∨ (κ < c ∧ c < κ + 17)) (R := PS.mul Gg M) hA2 hS.2.2.2.2.2 F2 hμ4
    have hA4 := hc4.1
    have hch4 := hch2.trans hc4
    have v4_0 : π4 w = W := (ho4 w F3).trans v2_0
    have v4_1 : π4 (q + 3) = E := (ho4 (q + 3) F5).trans v2_2
    have v4_2 : π4 (r + 1) = PS.md R M := (ho4 (r + 1) F6).trans v2_3
    have v4_3 : π4 (r + 3) = M := (ho4 (r + 3) F7).trans v2_4
    have v4_4 : π4 (σ + 11) = Gg := (ho4 (σ + 11) F8).trans v2_5
    have v4_5 : π4 (σ + 13) = Hh := (ho4 (σ + 13) F9).trans v2_6
    have v4_7 : π4 (q + 1) = PS.am Q (PS.mul Hh E) (fi 1) 0 := (ho4 (q + 1) F4).trans w3
    refine v_aload hx DX9_moveWhole_245 4 rfl ?_
    refine v_get hx DX9_moveWhole_246 FLRX9_75 hFr.1 (v := .ref (r + 1)) rfl ?_
    refine v_aload hx DX9_moveWhole_249 1 rfl ?_
    refine v_get hx DX9_moveWhole_250 FLRX9_36 hS.1 (v := .ref (σ + 15)) rfl ?_
    refine v_push hx DX9_moveWhole_253 ?_
    refine v_push hx DX9_moveWhole_254 ?_
    refine v_cVv hx DX9_moveWhole_255 CVRX9_120 [.ref (σ + 15), iv 1, iv 0] (s_addMultiple l G Λ sz μ4 hFr.2.1 hS.2.2.2.2.2 F6 (AB.get (A := PS.md R M) hA4 hFr.2.1 v4_2) (AB.get (A := PS.mul Gg M) hA4 hS.2.2.2.2.2 he4) (by omega) (by omega) mw4) hFr.2.1.1 rfl rfl (Nat.le_of_ble_eq_true rfl) (by decide) ⟨Nat.le_refl _, Nat.le_refl _⟩ (fun μ5 hμ5 => ?_)
    obtain ⟨π5, hc5, he5, ho5⟩ := Chg.one (S := fun c => c = q + 1 ∨ c = r + 1 ∨ (σ < c ∧ c < σ + 17) ∨ (κ < c ∧ c < κ + 17)) (R := PS.am (PS.md R M) (PS.mul Gg M) (fi 1) (Int.toNat 0)) hA4 hFr.2.1 F20 hμ5
    have hA5 := hc5.1
    have hch5 := hch4.trans hc5
    have v5_0 : π5 w = W := (ho5 w F21).trans v4_0
    have v5_1 : π5 (q + 3) = E := (ho5 (q + 3) F22).trans v4_1
    have v5_3 : π5 (r + 3) = M := (ho5 (r + 3) F23).trans v4_3
    have v5_4 : π5 (σ + 11) = Gg := (ho5 (σ + 11) F24).trans v4_4
    have v5_5 : π5 (σ + 13) = Hh := (ho5 (σ + 13) F25).trans v4_5
    have v5_6 : π5 (q + 1) = PS.am Q (PS.mul Hh E) (fi 1) 0 := (ho5 (q + 1) F26).trans v4_7
    have v5_7 : π5 (σ + 15) = PS.mul Gg M := (ho5 (σ + 15) F27).trans he4
    have w6 : π5 (r + 1) = PS.am (PS.md R M) (PS.mul Gg M) (fi 1) 0 := he5.trans rfl
    exact v_rv hx hBD DX9_moveWhole_258 (⟨π5, hch5, v5_1, v5_3, v5_0, Hh, Gg, hMW, v5_6, w6⟩)
  have L94 : ∀ (nf : Nat) (k : Int) (Hv Gv : PS) (Mb : Mem) (πj : Nat → PS), (k + 1 < (nf : Int)) → (Chg Λ (fun c => c = q + 1 ∨ c = r + 1 ∨ (σ < c ∧ c < σ + 17) ∨ (κ < c ∧ c < κ + 17)) μ Mb π πj) → (πj w = W) → (πj (q + 1) = Q) → (πj (q + 3) = E) → (πj (r + 1) = PS.md R M) → (πj (r + 3) = M) → (πj (σ + 11) = Gv) → (πj (σ + 13) = Hv) → (-1 ≤ k ∧ k < 48) → (LM W (PS.dv R M) Hv Gv k) → V G x (0, 0) Λ sz Mb 94 [(4, iv k), (0, .ref σ), (1, .ref w), (2, .ref q), (3, .ref r)] [] := by
    intro nf
    induction nf with
    | zero => intro k Hv Gv Mb πj hm hchπj vπj_0 vπj_1 vπj_2 vπj_3 vπj_4 vπj_5 vπj_6 hk hL; exact absurd hm (by omega)
    | succ nf ih =>
      intro k Hv Gv Mb πj hm hchπj vπj_0 vπj_1 vπj_2 vπj_3 vπj_4 vπj_5 vπj_6 hk hL
      have hAπj := hchπj.1
      refine v_iload hx DX9_moveWhole_94 0 rfl ?_
      refine v_aload hx DX9_moveWhole_96 2 rfl ?_
      refine v_get hx DX9_moveWhole_97 FLRX9_78 hkw.1 (fv_i rfl ((AB.get hAπj hkw vπj_0).2) : _ = iv ((W.size : Int) - 1)) ?_
      refine v_icmp_lt hx DX9_moveWhole_100 (by omega) (by omega) (fun c100 => ?_) (fun c100 => ?_)
      · skip
        exact v_sub [0, 1, 2, 3, 4] _ rfl (L202 k Hv Gv Mb πj hchπj vπj_0 vπj_1 vπj_2 vπj_3 vπj_4 vπj_5 vπj_6 (LM.exit hL (fun h => by rw [h, PS.size_zero] at c100; omega) (by omega)))
      · skip
        refine v_iload hx DX9_moveWhole_103 0 rfl ?_
        refine v_if_lt hx DX9_moveWhole_105 (by omega) (fun c105 => ?_) (fun c105 => ?_)
        · skip
          exact v_sub [0, 1, 2, 3, 4] _ rfl (L202 k Hv Gv Mb πj hchπj vπj_0 vπj_1 vπj_2 vπj_3 vπj_4 vπj_5 vπj_6 (LM.exit0 hL ⟨_, lW⟩ (by omega) (by omega)))
        · skip
          obtain ⟨m, -, hm, hWz⟩ := PS.ne_zero_isz lW (hL.ne (by omega))
          have hi := ivI_rng (hdI W)
          have hcr := ca_rng Gv k
          have hci := mulb hcr.1 hcr.2 hi.1 hi.2
          refine v_iload hx DX9_moveWhole_108 0 rfl ?_
          refine v_aload hx DX9_moveWhole_110 2 rfl ?_
          refine v_get hx DX9_moveWhole_111 FLRX9_78 hkw.1 (fv_i rfl ((AB.get hAπj hkw vπj_0).2) : _ = iv ((W.size : Int) - 1)) ?_
          refine v_isub hx DX9_moveWhole_114 ?_
          refine v_istore hx DX9_moveWhole_115 [(5, iv (k - ((W.size : Int) - 1))), (4, iv k), (0, .ref σ), (1, .ref w), (2, .ref q), (3, .ref r)] rfl (by decide) ?_
          refine v_aload hx DX9_moveWhole_117 2 rfl ?_
          refine v_get hx DX9_moveWhole_118 FLRX9_30 hS.1 (v := .ref (σ + 11)) rfl ?_
          refine v_iload hx DX9_moveWhole_121 1 rfl ?_
          refine v_cVp hx DX9_moveWhole_123 CVRX9_127 [iv k] (s_at l G Λ sz Mb hS.2.2.2.1 (AB.get (A := Gv) hAπj hS.2.2.2.1 vπj_5) (by omega)) hS.2.2.2.1.1 rfl rfl (Nat.le_of_ble_eq_true rfl) (by decide) ⟨Nat.le_refl _, Nat.le_refl _⟩ ?_
          refine v_aload hx DX9_moveWhole_126 3 rfl ?_
          refine v_cVp hx DX9_moveWhole_127 CVRX9_134 [] (s_head l G Λ sz Mb hkw (AB.get (A := W) hAπj hkw vπj_0)) hkw.1 rfl rfl (Nat.le_of_ble_eq_true rfl) (by decide) ⟨Nat.le_refl _, Nat.le_refl _⟩ ?_
          refine v_cNp hx DX9_moveWhole_130 CSRX9_113 [iv (hdI W)] (s_inverse l G Λ sz Mb hI (hdI_rng W)) rfl rfl (Nat.le_of_ble_eq_true rfl) (by decide) ⟨Nat.le_refl _, Nat.le_refl _⟩ ?_
          refine v_imul hx DX9_moveWhole_133 ?_
          refine v_push hx DX9_moveWhole_134 ?_
          refine v_irem hx (by omega) (by decide) DX9_moveWhole_136 ?_
          obtain ⟨cc, hcc⟩ : ∃ y, y = ca Gv k * ivI (hdI W) % 101 := ⟨_, rfl⟩
          refine v_top hcc.symm ?_
          have hfc : fi cc = Gv k.toNat * finv (W m) := by rw [hcc, fi_mod, fi_mul, ca_of (by omega), fi_cf, fi_ivI, hdI_eq hWz]
          refine v_istore hx DX9_moveWhole_137 [(6, iv cc), (5, iv (k - ((W.size : Int) - 1))), (4, iv k), (0, .ref σ), (1, .ref w), (2, .ref q), (3, .ref r)] rfl (by decide) ?_
          refine v_aload hx DX9_moveWhole_139 3 rfl ?_
          refine v_get hx DX9_moveWhole_140 FLRX9_33 hS.1 (v := .ref (σ + 13)) rfl ?_
          refine v_iload hx DX9_moveWhole_143 1 rfl ?_
          refine v_iload hx DX9_moveWhole_145 0 rfl ?_
          refine v_cVv hx DX9_moveWhole_147 CVRX9_130 [iv (k - ((W.size : Int) - 1)), iv cc] (s_put l G Λ sz Mb hS.2.2.2.2.1 (AB.get (A := Hv) hAπj hS.2.2.2.2.1 vπj_6) (by omega) (by omega)) hS.2.2.2.2.1.1 rfl rfl (Nat.le_of_ble_eq_true rfl) (by decide) ⟨Nat.le_refl _, Nat.le_refl _⟩ (fun μ11 hμ11 => ?_)
          obtain ⟨π11, hc11, he11, ho11⟩ := Chg.one (S := fun c => c = q + 1 ∨ c = r + 1 ∨ (σ < c ∧ c < σ + 17) ∨ (κ < c ∧ c < κ + 17)) (R := PS.putc Hv (k - ((W.size : Int) - 1)) (fi cc)) hAπj hS.2.2.2.2.1 F28 hμ11
          have hA11 := hc11.1
          have hch11 := hchπj.trans hc11
          have v11_0 : π11 w = W := (ho11 w F29).trans vπj_0
          have v11_1 : π11 (q + 1) = Q := (ho11 (q + 1) F30).trans vπj_1
          have v11_2 : π11 (q + 3) = E := (ho11 (q + 3) F31).trans vπj_2
          have v11_3 : π11 (r + 1) = PS.md R M := (ho11 (r + 1) F32).trans vπj_3
          have v11_4 : π11 (r + 3) = M := (ho11 (r + 3) F33).trans vπj_4
          have v11_5 : π11 (σ + 11) = Gv := (ho11 (σ + 11) F34).trans vπj_5
          have w12 : π11 (σ + 13) = PS.putc Hv (k - ((W.size : Int) - 1)) (fi cc) := he11.trans rfl
          refine v_aload hx DX9_moveWhole_150 3 rfl ?_
          refine v_get hx DX9_moveWhole_151 FLRX9_30 hS.1 (v := .ref (σ + 11)) rfl ?_
          refine v_aload hx DX9_moveWhole_154 4 rfl ?_
          refine v_push hx DX9_moveWhole_155 ?_
          refine v_iload hx DX9_moveWhole_157 0 rfl ?_
          refine v_isub hx DX9_moveWhole_159 ?_
          refine v_iload hx DX9_moveWhole_160 1 rfl ?_
          refine v_cVv hx DX9_moveWhole_162 CVRX9_120 [.ref w, iv (101 - cc), iv (k - ((W.size : Int) - 1))] (s_addMultiple l G Λ sz μ11 hS.2.2.2.1 hkw F35 (AB.get (A := Gv) hA11 hS.2.2.2.1 v11_5) (AB.get (A := W) hA11 hkw v11_0) (by omega) (by omega) (by omega)) hS.2.2.2.1.1 rfl rfl (Nat.le_of_ble_eq_true rfl) (by decide) ⟨Nat.le_refl _, Nat.le_refl _⟩ (fun μ13 hμ13 => ?_)
          obtain ⟨π13, hc13, he13, ho13⟩ := Chg.one (S := fun c => c = q + 1 ∨ c = r + 1 ∨ (σ < c ∧ c < σ + 17) ∨ (κ < c ∧ c < κ + 17)) (R := PS.am Gv W (fi (101 - cc)) (Int.toNat (k - ((W.size : Int) - 1)))) hA11 hS.2.2.2.1 F36 hμ13
          have hA13 := hc13.1
          have hch13 := hch11.trans hc13
          have v13_0 : π13 w = W := (ho13 w F37).trans v11_0
          have v13_1 : π13 (q + 1) = Q := (ho13 (q + 1) F38).trans v11_1
          have v13_2 : π13 (q + 3) = E := (ho13 (q + 3) F39).trans v11_2
          have v13_3 : π13 (r + 1) = PS.md R M := (ho13 (r + 1) F40).trans v11_3
          have v13_4 : π13 (r + 3) = M := (ho13 (r + 3) F41).trans v11_4
          have v13_6 : π13 (σ + 13) = PS.putc Hv (k - ((W.size : Int) - 1)) (fi cc) := (ho13 (σ + 13) F42).trans w12
          have w14 : π13 (σ + 11) = PS.am Gv W (fi (101 - cc)) (k - ((W.size : Int) - 1)).toNat := he13.trans rfl
          refine v_aload hx DX9_moveWhole_165 3 rfl ?_
          refine v_get hx DX9_moveWhole_166 FLRX9_30 hS.1 (v := .ref (σ + 11)) rfl ?_
          refine v_iload hx DX9_moveWhole_169 1 rfl ?_
          refine v_push hx DX9_moveWhole_171 ?_
          refine v_isub hx DX9_moveWhole_172 ?_
          refine v_aload hx DX9_moveWhole_173 3 rfl ?_
          refine v_get hx DX9_moveWhole_174 FLRX9_30 hS.1 (v := .ref (σ + 11)) rfl ?_
          refine v_iload hx DX9_moveWhole_177 1 rfl ?_
          refine v_push hx DX9_moveWhole_179 ?_
          refine v_isub hx DX9_moveWhole_180 ?_
          refine v_cVp hx DX9_moveWhole_181 CVRX9_127 [iv ((k - ((W.size : Int) - 1)) - 1)] (s_at l G Λ sz μ13 hS.2.2.2.1 (AB.get (A := PS.am Gv W (fi (101 - cc)) (k - ((W.size : Int) - 1)).toNat) hA13 hS.2.2.2.1 w14) (by omega)) hS.2.2.2.1.1 rfl rfl (Nat.le_of_ble_eq_true rfl) (by decide) ⟨Nat.le_refl _, Nat.le_refl _⟩ ?_
          refine v_push hx DX9_moveWhole_184 ?_
          refine v_iload hx DX9_moveWhole_186 0 rfl ?_
          refine v_isub hx DX9_moveWhole_188 ?_
          refine v_iload hx DX9_moveWhole_189 1 rfl ?_
          refine v_imul hx DX9_moveWhole_191 ?_
          refine v_iadd hx DX9_moveWhole_192 ?_
          refine v_cVv hx DX9_moveWhole_193 CVRX9_130 [iv ((k - ((W.size : Int) - 1)) - 1), iv ((ca (PS.am Gv W (fi (101 - cc)) (k - ((W.size : Int) - 1)).toNat) ((k - ((W.size : Int) - 1)) - 1)) + ((101 - cc) * (k - ((W.size : Int) - 1))))] (s_put l G Λ sz μ13 hS.2.2.2.1 (AB.get (A := PS.am Gv W (fi (101 - cc)) (k - ((W.size : Int) - 1)).toNat) hA13 hS.2.2.2.1 w14) (by omega) (by have h1 := ca_rng (PS.am Gv W (fi (101 - cc)) (k - ((W.size : Int) - 1)).toNat) (k - ((W.size : Int) - 1) - 1); have h2 := mulb (a := 101 - cc) (A := 101) (B := 48) (b := k - ((W.size : Int) - 1)) (by omega) (by omega) (by omega) (by omega); omega)) hS.2.2.2.1.1 rfl rfl (Nat.le_of_ble_eq_true rfl) (by decide) ⟨Nat.le_refl _, Nat.le_refl _⟩ (fun μ16 hμ16 => ?_)
          obtain ⟨π16, hc16, he16, ho16⟩ := Chg.one (S := fun c => c = q + 1 ∨ c = r + 1 ∨ (σ < c ∧ c < σ + 17) ∨ (κ < c ∧ c < κ + 17)) (R := PS.putc (PS.am Gv W (fi (101 - cc)) (k - ((W.size : Int) - 1)).toNat) ((k - ((W.size : Int) - 1)) - 1) (fi ((ca (PS.am Gv W (fi (101 - cc)) (k - ((W.size : Int) - 1)).toNat) ((k - ((W.size : Int) - 1)) - 1)) + ((101 - cc) * (k - ((W.size : Int) - 1)))))) hA13 hS.2.2.2.1 F36 hμ16
          have hA16 := hc16.1
          have hch16 := hch13.trans hc16
          have v16_0 : π16 w = W := (ho16 w F37).trans v13_0
          have v16_1 : π16 (q + 1) = Q := (ho16 (q + 1) F38).trans v13_1
          have v16_2 : π16 (q + 3) = E := (ho16 (q + 3) F39).trans v13_2
          have v16_3 : π16 (r + 1) = PS.md R M := (ho16 (r + 1) F40).trans v13_3
          have v16_4 : π16 (r + 3) = M := (ho16 (r + 3) F41).trans v13_4
          have v16_5 : π16 (σ + 13) = PS.putc Hv (k - ((W.size : Int) - 1)) (fi cc) := (ho16 (σ + 13) F42).trans v13_6
          have hLs := LM.step hL hWz (by omega) hfc (by omega)
          refine v_iinc hx DX9_moveWhole_196 2 rfl [(4, iv (k + (-1))), (6, iv cc), (5, iv (k - ((W.size : Int) - 1))), (0, .ref σ), (1, .ref w), (2, .ref q), (3, .ref r)] rfl (by decide) ?_
          refine v_goto hx DX9_moveWhole_199 ?_
          exact v_sub [0, 3, 4, 5, 6] _ rfl (ih (k + (-1)) (PS.putc Hv (k - ((W.size : Int) - 1)) (fi cc)) (PS.putc (PS.am Gv W (fi (101 - cc)) (k - ((W.size : Int) - 1)).toNat) ((k - ((W.size : Int) - 1)) - 1) (fi ((ca (PS.am Gv W (fi (101 - cc)) (k - ((W.size : Int) - 1)).toNat) ((k - ((W.size : Int) - 1)) - 1)) + ((101 - cc) * (k - ((W.size : Int) - 1)))))) μ16 π16 (by omega) hch16 v16_0 v16_1 v16_2 v16_3 v16_4 he16 v16_5 (by omega) hLs)
  have L32 : ∀ (nf : Nat) (k : Int) (Ma : Mem) (πi : Nat → PS), ((PS.dv R M).size - k < (nf : Int)) → (Chg Λ (fun c => c = q + 1 ∨ c = r + 1 ∨ (σ < c ∧ c < σ + 17) ∨ (κ < c ∧ c < κ + 17)) μ Ma π πi) → (πi w = W) → (πi (q + 1) = Q) → (πi (q + 3) = E) → (πi (r + 1) = PS.md R M) → (πi (r + 3) = M) → (πi (σ + 11) = PS.dv R M) → (πi (σ + 13) = PS.itg (PS.dv R M) k.toNat) → (0 ≤ k ∧ k ≤ (PS.dv R M).size) → (W = PS.zero) → V G x (0, 0) Λ sz Ma 32 [(4, iv k), (0, .ref σ), (1, .ref w), (2, .ref q), (3, .ref r)] [] := by
    intro nf
    induction nf with
    | zero => intro k Ma πi hm hchπi vπi_0 vπi_1 vπi_2 vπi_3 vπi_4 vπi_5 vπi_6 hk hW0; exact absurd hm (by omega)
    | succ nf ih =>
      intro k Ma πi hm hchπi vπi_0 vπi_1 vπi_2 vπi_3 vπi_4 vπi_5 vπi_6 hk hW0
      have hAπi := hchπi.1
      have hzz := hz
      unfold Hid at hzz
      refine v_iload hx DX9_moveWhole_32 0 rfl ?_
      refine v_aload hx DX9_moveWhole_34 1 rfl ?_
      refine v_get hx DX9_moveWhole_35 FLRX9_30 hS.1 (v := .ref (σ + 11)) rfl ?_
      refine v_get hx DX9_moveWhole_38 FLRX9_78 hS.2.2.2.1.1 (fv_i rfl ((AB.get hAπi hS.2.2.2.1 vπi_5).2) : _ = iv (((PS.dv R M).size : Int) - 1)) ?_
      refine v_icmp_gt hx DX9_moveWhole_41 (by omega) (by omega) (fun c41 => ?_) (fun c41 => ?_)
      · skip
        refine v_aload hx DX9_moveWhole_78 1 rfl ?_
        refine v_get hx DX9_moveWhole_79 FLRX9_30 hS.1 (v := .ref (σ + 11)) rfl ?_
        refine v_cVv hx DX9_moveWhole_82 CVRX9_124 [] (s_clear l G Λ sz Ma hS.2.2.2.1 (AB.get (A := PS.dv R M) hAπi hS.2.2.2.1 vπi_5)) hS.2.2.2.1.1 rfl rfl (Nat.le_of_ble_eq_true rfl) (by decide) ⟨Nat.le_refl _, Nat.le_refl _⟩ (fun μ17 hμ17 => ?_)
        obtain ⟨π17, hc17, he17, ho17⟩ := Chg.one (S := fun c => c = q + 1 ∨ c = r + 1 ∨ (σ < c ∧ c < σ + 17) ∨ (κ < c ∧ c < κ + 17)) (R := PS.zero) hAπi hS.2.2.2.1 F36 hμ17
        have hA17 := hc17.1
        have hch17 := hchπi.trans hc17
        have v17_0 : π17 w = W := (ho17 w F37).trans vπi_0
        have v17_1 : π17 (q + 1) = Q := (ho17 (q + 1) F38).trans vπi_1
        have v17_2 : π17 (q + 3) = E := (ho17 (q + 3) F39).trans vπi_2
        have v17_3 : π17 (r + 1) = PS.md R M := (ho17 (r + 1) F40).trans vπi_3
        have v17_4 : π17 (r + 3) = M := (ho17 (r + 3) F41).trans vπi_4
        have v17_6 : π17 (σ + 13) = PS.itg (PS.dv R M) k.toNat := (ho17 (σ + 13) F42).trans vπi_6
        have hLM := LM.start0 hW0 hXf k (by omega)
        refine v_aload hx DX9_moveWhole_85 1 rfl ?_
        refine v_get hx DX9_moveWhole_86 FLRX9_30 hS.1 (v := .ref (σ + 11)) rfl ?_
        refine v_get hx DX9_moveWhole_89 FLRX9_78 hS.2.2.2.1.1 (fv_i rfl ((AB.get hA17 hS.2.2.2.1 he17).2) : _ = iv (((PS.zero).size : Int) - 1)) ?_
        refine v_istore hx DX9_moveWhole_92 [(4, iv (((PS.zero).size : Int) - 1)), (0, .ref σ), (1, .ref w), (2, .ref q), (3, .ref r)] rfl (by decide) ?_
        exact v_sub [0, 1, 2, 3, 4] _ rfl (L94 100 (((PS.zero).size : Int) - 1) (PS.itg (PS.dv R M) k.toNat) PS.zero μ17 π17 (by omega) hch17 v17_0 v17_1 v17_2 v17_3 v17_4 he17 v17_6 (by rw [PS.size_zero]; omega) hLM)
      · skip
        refine v_aload hx DX9_moveWhole_44 1 rfl ?_
        refine v_get hx DX9_moveWhole_45 FLRX9_33 hS.1 (v := .ref (σ + 13)) rfl ?_
        refine v_iload hx DX9_moveWhole_48 0 rfl ?_
        refine v_push hx DX9_moveWhole_50 ?_
        refine v_iadd hx DX9_moveWhole_51 ?_
        refine v_aload hx DX9_moveWhole_52 1 rfl ?_
        refine v_get hx DX9_moveWhole_53 FLRX9_30 hS.1 (v := .ref (σ + 11)) rfl ?_
        refine v_iload hx DX9_moveWhole_56 0 rfl ?_
        refine v_cVp hx DX9_moveWhole_58 CVRX9_127 [iv k] (s_at l G Λ sz Ma hS.2.2.2.1 (AB.get (A := PS.dv R M) hAπi hS.2.2.2.1 vπi_5) (by omega)) hS.2.2.2.1.1 rfl rfl (Nat.le_of_ble_eq_true rfl) (by decide) ⟨Nat.le_refl _, Nat.le_refl _⟩ ?_
        refine v_iload hx DX9_moveWhole_61 0 rfl ?_
        refine v_push hx DX9_moveWhole_63 ?_
        refine v_iadd hx DX9_moveWhole_64 ?_
        refine v_cNp hx DX9_moveWhole_65 CSRX9_113 [iv (k + 1)] (s_inverse l G Λ sz Ma hI (by omega)) rfl rfl (Nat.le_of_ble_eq_true rfl) (by decide) ⟨Nat.le_refl _, Nat.le_refl _⟩ ?_
        refine v_imul hx DX9_moveWhole_68 ?_
        refine v_cVv hx DX9_moveWhole_69 CVRX9_130 [iv (k + 1), iv ((ca (PS.dv R M) k) * (ivI (k + 1)))] (s_put l G Λ sz Ma hS.2.2.2.2.1 (AB.get (A := PS.itg (PS.dv R M) k.toNat) hAπi hS.2.2.2.2.1 vπi_6) (by omega) (by have h1 := ca_rng (PS.dv R M) k; have h2 := ivI_rng (k + 1); have h3 := mulb h1.1 h1.2 h2.1 h2.2; omega)) hS.2.2.2.2.1.1 rfl rfl (Nat.le_of_ble_eq_true rfl) (by decide) ⟨Nat.le_refl _, Nat.le_refl _⟩ (fun μ21 hμ21 => ?_)
        obtain ⟨π21, hc21, he21, ho21⟩ := Chg.one (S := fun c => c = q + 1 ∨ c = r + 1 ∨ (σ < c ∧ c < σ + 17) ∨ (κ < c ∧ c < κ + 17)) (R := PS.putc (PS.itg (PS.dv R M) k.toNat) (k + 1) (fi ((ca (PS.dv R M) k) * (ivI (k + 1))))) hAπi hS.2.2.2.2.1 F28 hμ21
        have hA21 := hc21.1
        have hch21 := hchπi.trans hc21
        have v21_0 : π21 w = W := (ho21 w F29).trans vπi_0
        have v21_1 : π21 (q + 1) = Q := (ho21 (q + 1) F30).trans vπi_1
        have v21_2 : π21 (q + 3) = E := (ho21 (q + 3) F31).trans vπi_2
        have v21_3 : π21 (r + 1) = PS.md R M := (ho21 (r + 1) F32).trans vπi_3
        have v21_4 : π21 (r + 3) = M := (ho21 (r + 3) F33).trans vπi_4
        have v21_5 : π21 (σ + 11) = PS.dv R M := (ho21 (σ + 11) F34).trans vπi_5
        refine v_iinc hx DX9_moveWhole_72 0 rfl [(4, iv (k + 1)), (0, .ref σ), (1, .ref w), (2, .ref q), (3, .ref r)] rfl (by decide) ?_
        refine v_goto hx DX9_moveWhole_75 ?_
        exact v_sub [0, 1, 2, 3, 4] _ rfl (ih (k + 1) μ21 π21 (by omega) hch21 v21_0 v21_1 v21_2 v21_3 v21_4 v21_5 (he21.trans (by rw [PS.itg_put (PS.dv R M) (by omega) (by have hz2 := hz; unfold Hid at hz2; omega), show (k + 1).toNat = k.toNat + 1 by omega])) (by omega) hW0)
  refine v_aload hx DX9_moveWhole_0 0 rfl ?_
  refine v_get hx DX9_moveWhole_1 FLRX9_30 hS.1 (v := .ref (σ + 11)) rfl ?_
  refine v_aload hx DX9_moveWhole_4 3 rfl ?_
  refine v_get hx DX9_moveWhole_5 FLRX9_75 hFr.1 (v := .ref (r + 1)) rfl ?_
  refine v_aload hx DX9_moveWhole_8 3 rfl ?_
  refine v_get hx DX9_moveWhole_9 FLRX9_82 hFr.1 (v := .ref (r + 3)) rfl ?_
  refine v_cVv hx DX9_moveWhole_12 CVRX9_104 [.ref (r + 1), .ref (r + 3)] (s_quotient l G Λ sz μ hI hS.2.2.2.1 hFr.2.1 hFr.2.2 F24 F43 F44 (AB.get (A := π (σ + 11)) hA hS.2.2.2.1 rfl) (AB.get (A := R) hA hFr.2.1 hr1) (AB.get (A := M) hA hFr.2.2 hr3) hM0) hS.2.2.2.1.1 rfl rfl (Nat.le_of_ble_eq_true rfl) (by decide) ⟨Nat.le_refl _, Nat.le_refl _⟩ (fun μ22 hμ22 => ?_)
  obtain ⟨π22, hc22, he22, hf22, ho22⟩ := Chg.two (S := fun c => c = q + 1 ∨ c = r + 1 ∨ (σ < c ∧ c < σ + 17) ∨ (κ < c ∧ c < κ + 17)) (R := PS.dv R M) (R' := PS.md R M) hA hS.2.2.2.1 hFr.2.1 F24 F36 F20 hμ22
  have hA22 := hc22.1
  have hch22 := hch0.trans hc22
  have v22_0 : π22 w = W := (ho22 w F37 F21).trans hw
  have v22_1 : π22 (q + 1) = Q := (ho22 (q + 1) F38 F26).trans hq1
  have v22_2 : π22 (q + 3) = E := (ho22 (q + 3) F39 F22).trans hq3
  have v22_4 : π22 (r + 3) = M := (ho22 (r + 3) F41 F23).trans hr3
  refine v_aload hx DX9_moveWhole_15 0 rfl ?_
  refine v_get hx DX9_moveWhole_16 FLRX9_33 hS.1 (v := .ref (σ + 13)) rfl ?_
  refine v_cVv hx DX9_moveWhole_19 CVRX9_124 [] (s_clear l G Λ sz μ22 hS.2.2.2.2.1 (AB.get (A := π22 (σ + 13)) hA22 hS.2.2.2.2.1 rfl)) hS.2.2.2.2.1.1 rfl rfl (Nat.le_of_ble_eq_true rfl) (by decide) ⟨Nat.le_refl _, Nat.le_refl _⟩ (fun μ23 hμ23 => ?_)
  obtain ⟨π23, hc23, he23, ho23⟩ := Chg.one (S := fun c => c = q + 1 ∨ c = r + 1 ∨ (σ < c ∧ c < σ + 17) ∨ (κ < c ∧ c < κ + 17)) (R := PS.zero) hA22 hS.2.2.2.2.1 F28 hμ23
  have hA23 := hc23.1
  have hch23 := hch22.trans hc23
  have v23_0 : π23 w = W := (ho23 w F29).trans v22_0
  have v23_1 : π23 (q + 1) = Q := (ho23 (q + 1) F30).trans v22_1
  have v23_2 : π23 (q + 3) = E := (ho23 (q + 3) F31).trans v22_2
  have v23_3 : π23 (r + 3) = M := (ho23 (r + 3) F33).trans v22_4
  have v23_4 : π23 (σ + 11) = PS.dv R M := (ho23 (σ + 11) F34).trans he22
  have v23_5 : π23 (r + 1) = PS.md R M := (ho23 (r + 1) F32).trans hf22
  refine v_aload hx DX9_moveWhole_22 1 rfl ?_
  refine v_get hx DX9_moveWhole_23 FLRX9_78 hkw.1 (fv_i rfl ((AB.get hA23 hkw v23_0).2) : _ = iv ((W.size : Int) - 1)) ?_
  refine v_if_ge hx DX9_moveWhole_26 (by omega) (fun c26 => ?_) (fun c26 => ?_)
  · skip
    have hWn : W ≠ PS.zero := PS.ne_of_size (by omega)
    have hLM := LM.start (W := W) hWn hXf
    refine v_aload hx DX9_moveWhole_85 0 rfl ?_
    refine v_get hx DX9_moveWhole_86 FLRX9_30 hS.1 (v := .ref (σ + 11)) rfl ?_
    refine v_get hx DX9_moveWhole_89 FLRX9_78 hS.2.2.2.1.1 (fv_i rfl ((AB.get hA23 hS.2.2.2.1 v23_4).2) : _ = iv (((PS.dv R M).size : Int) - 1)) ?_
    refine v_istore hx DX9_moveWhole_92 [(4, iv (((PS.dv R M).size : Int) - 1)), (0, .ref σ), (1, .ref w), (2, .ref q), (3, .ref r)] rfl (by decide) ?_
    exact v_sub [0, 1, 2, 3, 4] _ rfl (L94 100 (((PS.dv R M).size : Int) - 1) PS.zero (PS.dv R M) μ23 π23 (by omega) hch23 v23_0 v23_1 v23_2 v23_5 v23_3 v23_4 he23 (by have hz2 := hz; unfold Hid at hz2; omega) hLM)
  · skip
    have hWz : W = PS.zero := (PS.size_eq_zero lW).mp (by omega)
    refine v_push hx DX9_moveWhole_29 ?_
    refine v_istore hx DX9_moveWhole_30 [(4, iv 0), (0, .ref σ), (1, .ref w), (2, .ref q), (3, .ref r)] rfl (by decide) ?_
    exact v_sub [0, 1, 2, 3, 4] _ rfl (L32 100 0 μ23 π23 (by omega) hch23 v23_0 v23_1 v23_2 v23_5 v23_3 v23_4 (he23.trans ((PS.itg_0 (PS.dv R M)).symm)) (by omega) hWz)
