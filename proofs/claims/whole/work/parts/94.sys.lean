/-! ===== the equations of a splitting ===== -/
theorem fsum_split (f : Nat → F) (n : Nat) : ∀ m : Nat, fsum f (n + m) = fsum f n + fsum (fun i => f (n + i)) m := by
  intro m
  induction m with
  | zero => show fsum f n = fsum f n + 0; grind
  | succ m ih =>
    show fsum f (n + m) + f (n + m) = fsum f n + (fsum (fun i => f (n + i)) m + f (n + m))
    rw [ih]; grind
theorem lin_sum {T : PS → PS} (ha : ∀ p q, T (p.add q) = (T p).add (T q)) (hs : ∀ c p, T (p.sm c) = (T p).sm c) : ∀ (n : Nat) (p : PS), p.lt n → ∀ r, T p r = fsum (fun k => p k * T (PS.mo k) r) n := by
  intro n
  induction n with
  | zero =>
    intro p hp r
    have e : p = p.sm 0 := PS.ext fun k => by show p k = 0 * p k; rw [hp k (by omega)]; grind
    have := congrFun (hs 0 p) r
    rw [← e] at this
    show T p r = 0
    rw [this]
    show (0 : F) * _ = 0
    grind
  | succ n ih =>
    intro p hp r
    have e : p = (p.tr n).add ((PS.mo n).sm (p n)) := PS.ext fun k => by
      show p k = (if k < n then p k else 0) + p n * (if k = n then (1 : F) else 0)
      by_cases c : k < n
      · rw [if_pos c, if_neg (by omega)]; grind
      · rw [if_neg c]
        by_cases d : k = n
        · rw [if_pos d, d]; grind
        · rw [if_neg d, hp k (by omega)]; grind
    have e1 : T p r = T (p.tr n) r + p n * T (PS.mo n) r := by
      have : T p = (T (p.tr n)).add ((T (PS.mo n)).sm (p n)) := by
        rw [← hs, ← ha, ← e]
      rw [this]; rfl
    rw [e1, ih (p.tr n) (fun k hk => by show (if k < n then p k else 0) = 0; rw [if_neg (by omega)]) r]
    show _ = fsum (fun k => p k * T (PS.mo k) r) n + p n * T (PS.mo n) r
    rw [fsum_congr (g := fun k => p k * T (PS.mo k) r) (fun i hi => by show (if i < n then p i else 0) * _ = _; rw [if_pos hi])]
def TA (W M S p : PS) : PS := ((p.der.add (W.mul p)).mul M).sub (p.mul S)
def TH (W D p : PS) : PS := (p.der.add (W.mul p)).mul D
theorem PS.sm_eq (c : F) (p : PS) : p.sm c = (PS.C c).mul p := by
  have h : (PS.one.sm c) = PS.C c := PS.ext fun k => by
    show c * (if k = 0 then (1 : F) else 0) = if k = 0 then c else 0
    split <;> grind
  rw [← h, PS.sm_mul, PS.one_mul]
theorem TA_add (W M S p q : PS) : TA W M S (p.add q) = (TA W M S p).add (TA W M S q) := by
  unfold TA
  rw [PS.der_add]
  generalize p.der = p'
  generalize q.der = q'
  letI := psRing
  show (p' + q' + W * (p + q)) * M - (p + q) * S = (p' + W * p) * M - p * S + ((q' + W * q) * M - q * S)
  grind
theorem TA_sm (W M S : PS) (c : F) (p : PS) : TA W M S (p.sm c) = (TA W M S p).sm c := by
  unfold TA
  rw [PS.der_sm, PS.sm_eq, PS.sm_eq c p, PS.sm_eq c (PS.sub _ _)]
  generalize p.der = p'
  generalize PS.C c = C
  letI := psRing
  show (C * p' + W * (C * p)) * M - C * p * S = C * ((p' + W * p) * M - p * S)
  grind
theorem TH_add (W D p q : PS) : TH W D (p.add q) = (TH W D p).add (TH W D q) := by
  unfold TH
  rw [PS.der_add]
  generalize p.der = p'
  generalize q.der = q'
  letI := psRing
  show (p' + q' + W * (p + q)) * D = (p' + W * p) * D + (q' + W * q) * D
  grind
theorem TH_sm (W D : PS) (c : F) (p : PS) : TH W D (p.sm c) = (TH W D p).sm c := by
  unfold TH
  rw [PS.der_sm, PS.sm_eq, PS.sm_eq c p, PS.sm_eq c (PS.mul _ _)]
  generalize p.der = p'
  generalize PS.C c = C
  letI := psRing
  show (C * p' + W * (C * p)) * D = C * ((p' + W * p) * D)
  grind
/-- the columns: de, dr, nh, low -/
def cols (W M S E D : PS) (de dr nh low : Nat) (j : Nat) : PS := if j < de then TA W M S (PS.mo j) else if j < de + dr then (PS.mo (j - de)).mul E else if j < de + dr + nh then TH W D (PS.mo (low + (j - (de + dr)))) else (PS.mo (j - (de + dr + nh))).mul D
def cA (a : Nat → F) (de : Nat) : PS := fun k => if k < de then a k else 0
def cB (a : Nat → F) (o dr : Nat) : PS := fun k => if k < dr then a (o + k) else 0
def cH (a : Nat → F) (o nh low : Nat) : PS := fun k => if low ≤ k ∧ k < low + nh then a (o + (k - low)) else 0
theorem cA_lt (a : Nat → F) (de : Nat) : (cA a de).lt de := fun k hk => by unfold cA; rw [if_neg (by omega)]
theorem cB_lt (a : Nat → F) (o dr : Nat) : (cB a o dr).lt dr := fun k hk => by unfold cB; rw [if_neg (by omega)]
theorem cH_lt (a : Nat → F) (o nh low : Nat) : (cH a o nh low).lt (low + nh) := fun k hk => by unfold cH; rw [if_neg (by omega)]
theorem cols_sum (W M S E D : PS) (de dr nh low dw : Nat) (a : Nat → F) (r : Nat) : fsum (fun j => a j * cols W M S E D de dr nh low j r) (de + dr + nh + dw) = (((TA W M S (cA a de)).add ((cB a de dr).mul E)).add (TH W D (cH a (de + dr) nh low))).add ((cB a (de + dr + nh) dw).mul D) r := by
  rw [fsum_split, fsum_split, fsum_split]
  show _ = TA W M S (cA a de) r + ((cB a de dr).mul E) r + TH W D (cH a (de + dr) nh low) r + ((cB a (de + dr + nh) dw).mul D) r
  rw [lin_sum (T := TA W M S) (TA_add W M S) (TA_sm W M S) de _ (cA_lt a de) r, lin_sum (T := fun p => p.mul E) (fun p q => PS.add_mul p q E) (fun c p => PS.sm_mul c p E) dr _ (cB_lt a de dr) r,
    lin_sum (T := TH W D) (TH_add W D) (TH_sm W D) (low + nh) _ (cH_lt a (de + dr) nh low) r, lin_sum (T := fun p => p.mul D) (fun p q => PS.add_mul p q D) (fun c p => PS.sm_mul c p D) dw _ (cB_lt a (de + dr + nh) dw) r]
  rw [fsum_split _ low nh, fsum_zero (f := fun k => cH a (de + dr) nh low k * TH W D (PS.mo k) r) (n := low) (fun i hi => by
    show cH a (de + dr) nh low i * _ = 0
    unfold cH
    rw [if_neg (by omega)]; grind)]
  have b1 : fsum (fun j => a j * cols W M S E D de dr nh low j r) de = fsum (fun k => cA a de k * TA W M S (PS.mo k) r) de := fsum_congr (fun i hi => by
    show a i * cols W M S E D de dr nh low i r = cA a de i * _
    unfold cols cA
    rw [if_pos hi, if_pos hi])
  have b2 : fsum (fun i => a (de + i) * cols W M S E D de dr nh low (de + i) r) dr = fsum (fun k => cB a de dr k * ((PS.mo k).mul E) r) dr := fsum_congr (fun i hi => by
    show a (de + i) * cols W M S E D de dr nh low (de + i) r = cB a de dr i * _
    unfold cols cB
    rw [if_neg (by omega), if_pos (by omega), if_pos hi, show de + i - de = i by omega])
  have b3 : fsum (fun i => a (de + dr + i) * cols W M S E D de dr nh low (de + dr + i) r) nh = fsum (fun i => cH a (de + dr) nh low (low + i) * TH W D (PS.mo (low + i)) r) nh := fsum_congr (fun i hi => by
    show a (de + dr + i) * cols W M S E D de dr nh low (de + dr + i) r = cH a (de + dr) nh low (low + i) * _
    unfold cols cH
    rw [if_neg (by omega), if_neg (by omega), if_pos (by omega), if_pos (by omega), show de + dr + i - (de + dr) = i by omega, show low + i - low = i by omega])
  have b4 : fsum (fun i => a (de + dr + nh + i) * cols W M S E D de dr nh low (de + dr + nh + i) r) dw = fsum (fun k => cB a (de + dr + nh) dw k * ((PS.mo k).mul D) r) dw := fsum_congr (fun i hi => by
    show a (de + dr + nh + i) * cols W M S E D de dr nh low (de + dr + nh + i) r = cB a (de + dr + nh) dw i * _
    unfold cols cB
    rw [if_neg (by omega), if_neg (by omega), if_neg (by omega), if_pos hi, show de + dr + nh + i - (de + dr + nh) = i by omega])
  rw [b1, b2, b3, b4]
  grind
theorem dot_split {n : Nat} {a v : Nat → F} (hn : n ≤ 64) (hs : spt n a) : dotv a v = fsum (fun j => a j * v j) n + a 64 * v 64 := by
  unfold dotv
  have e : (65 : Nat) = n + (64 - n) + 1 := by omega
  rw [e]
  show fsum (fun j => a j * v j) (n + (64 - n)) + a (n + (64 - n)) * v (n + (64 - n)) = _
  rw [fsum_split, fsum_zero (f := fun i => a (n + i) * v (n + i)) (fun i hi => by
    show a (n + i) * _ = 0
    rw [hs (n + i) (by omega) (by omega)]; grind), show n + (64 - n) = 64 by omega]
  grind
theorem alg_sys {α : Type} [Lean.Grind.CommRing α] (A A' H H' B Y W M S E E' : α) (hS : S * E = E' * M) : M * ((A' + (H' * E + H * E')) * E - (A + H * E) * E' + W * (A + H * E) * E) + E * E * (B + Y * M) = E * ((A' + W * A) * M - A * S + B * E + (H' + W * H) * (M * E) + Y * (M * E)) := by
  have : E * ((A' + W * A) * M - A * S + B * E + (H' + W * H) * (M * E) + Y * (M * E)) = E * (A' + W * A) * M - A * (S * E) + E * B * E + E * (H' + W * H) * (M * E) + E * Y * (M * E) := by grind
  rw [this, hS]
  grind
theorem sys_id {A H B Y W M S E : PS} (hS : S.mul E = E.der.mul M) : (M.mul ((((A.add (H.mul E)).der.mul E).sub ((A.add (H.mul E)).mul E.der)).add ((W.mul (A.add (H.mul E))).mul E))).add ((E.mul E).mul (B.add (Y.mul M))) = E.mul ((((TA W M S A).add (B.mul E)).add (TH W (M.mul E) H)).add (Y.mul (M.mul E))) := by
  unfold TA TH
  rw [PS.der_add, PS.der_mul]
  exact @alg_sys PS psRing A A.der H H.der B Y W M S E E.der hS
theorem SI_red {N D E W Q R M : PS} (hN : N.fin) (hE : E.fin) (hM : M.fin) (hQ : Q.fin) (hR : R.fin) (hW : W.fin) (hE0 : E ≠ PS.zero) (hM0 : M ≠ PS.zero) (hD : D = M.mul E) : SI N D E W Q R M ↔ N.mul E = (M.mul (((Q.der.mul E).sub (Q.mul E.der)).add ((W.mul Q).mul E))).add ((E.mul E).mul R) := by
  unfold SI
  rw [hD]
  have f1 : (N.mul E).fin := PS.fin_mul hN hE
  have f2 : ((M.mul (((Q.der.mul E).sub (Q.mul E.der)).add ((W.mul Q).mul E))).add ((E.mul E).mul R)).fin := PS.fin_add (PS.fin_mul hM (PS.fin_add (PS.fin_sub (PS.fin_mul (PS.fin_der hQ) hE) (PS.fin_mul hQ (PS.fin_der hE))) (PS.fin_mul (PS.fin_mul hW hQ) hE))) (PS.fin_mul (PS.fin_mul hE hE) hR)
  have f3 : (M.mul E).fin := PS.fin_mul hM hE
  have f4 : M.mul E ≠ PS.zero := PS.fmul_ne hM hE hM0 hE0
  generalize ((Q.der.mul E).sub (Q.mul E.der)).add ((W.mul Q).mul E) = Z at *
  have e1 : (N.mul (E.mul E)).mul M = (M.mul E).mul (N.mul E) := by
    letI := psRing
    show N * (E * E) * M = M * E * (N * E)
    grind
  have e2 : (((M.mul E).mul M).mul Z).add (((M.mul E).mul (E.mul E)).mul R) = (M.mul E).mul ((M.mul Z).add ((E.mul E).mul R)) := by
    letI := psRing
    show M * E * M * Z + M * E * (E * E) * R = M * E * (M * Z + E * E * R)
    grind
  rw [e1, e2]
  constructor
  · exact fun h => PS.cancel f3 f1 f2 f4 h
  · intro h; rw [h]
theorem thn_S {D : PS} (hD : D.fin) (hD0 : D ≠ PS.zero) (hDs : D.size ≤ 90) : D.thn.dvd (D.thn.der.mul (D.dv D.thn)) := by
  obtain ⟨e, hM, hM0, hsz⟩ := thn_dv hD hD0 (by omega)
  obtain ⟨h1, h2, h3, h4⟩ := PS.thn_spec hD hD0 (by omega)
  by_cases c : D.thn.der.mul (D.dv D.thn) = PS.zero
  · rw [c]; exact PS.dvd_zero _
  · refine PS.dvd_mlt' _ _ _ h1 (PS.fin_mul (PS.fin_der h1) hM) h2 c (Nat.le_refl _) (fun P hP i j hi hj => ?_)
    by_cases c0 : i = 0
    · omega
    · obtain ⟨k, hk, -⟩ := PS.mlt_ex hP D.size D hD hD0 (Nat.le_refl _)
      have hkl := PS.mlt_lt hP hD hD0 hk
      have q1 := PS.thn_mlt hP hD hD0 (by omega) hk
      have q2 := PS.mlt_un hP hi q1
      obtain ⟨m, hm, -⟩ := PS.mlt_ex hP _ (D.dv D.thn) hM hM0 (Nat.le_refl _)
      have q3 := PS.mlt_mul' hP hm hi
      rw [← e] at q3
      have q4 := PS.mlt_un hP hk q3
      have q5 := PS.mlt_der hP (by have := hkl.2 (by omega); omega) (k := i - 1) (by omega) (by rw [show i - 1 + 1 = i by omega]; exact hi)
      have q6 := PS.mlt_un hP hj (PS.mlt_mul' hP q5 hm)
      omega
