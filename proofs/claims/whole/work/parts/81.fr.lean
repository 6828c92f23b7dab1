/-! ===== fractions ===== -/
abbrev FP2 : Type := PS × PS
noncomputable def frd (N D : PS) : FP2 := (rdN N D, rdD N D)
noncomputable def fpl (a b : FP2) (c : F) : FP2 := frd ((a.1.mul b.2).add ((b.1.mul a.2).sm c)) (a.2.mul b.2)
noncomputable def fml (a b : FP2) : FP2 := frd (a.1.mul b.1) (a.2.mul b.2)
noncomputable def fdv (a b : FP2) : FP2 := frd (a.1.mul b.2) (a.2.mul b.1)
noncomputable def fdr (a : FP2) : FP2 := frd ((a.1.der.mul a.2).add ((a.2.der.mul a.1).sm (fi (-1)))) (a.2.mul a.2)
def f00 : FP2 := (PS.zero, PS.one)
/-- short, of these sizes -/
def FOK (a : FP2) (n d : Nat) : Prop := RDP a.1 a.2 ∧ a.1.size ≤ n ∧ a.2.size ≤ d
theorem FOK.mono {a : FP2} {n d n' d' : Nat} (h : FOK a n d) (h1 : n ≤ n') (h2 : d ≤ d') : FOK a n' d' := ⟨h.1, Nat.le_trans h.2.1 h1, Nat.le_trans h.2.2 h2⟩
theorem PS.one_sz : PS.one.size = 1 := PS.size_eq ⟨Or.inr (by decide), PS.C_lt 1⟩
theorem PS.zero_sz : PS.zero.size = 0 := (PS.fsz0 PS.fin_zero).mpr rfl
theorem FOK.zero : FOK f00 0 1 := ⟨⟨PS.fin_zero, PS.fin_one, PS.one_ne, PS.mnc_one, fun P hP _ q => PS.irr_one hP q⟩, by show PS.zero.size ≤ 0; rw [PS.zero_sz]; exact Nat.le_refl _, by show PS.one.size ≤ 1; rw [PS.one_sz]; exact Nat.le_refl _⟩
theorem PS.flt {p : PS} (h : p.fin) : p.lt p.size := (PS.fisz h).2
theorem PS.mul_sz {p q : PS} (hp : p.fin) (hq : q.fin) {n : Nat} (h : p.size + q.size ≤ n + 1) : (p.mul q).size ≤ n := PS.size_le (PS.lt_mul' (PS.flt hp) (PS.flt hq) h)
theorem FOK.rd {N D : PS} {n d : Nat} (hN : N.fin) (hD : D.fin) (hD0 : D ≠ PS.zero) (h1 : N.size ≤ n) (h2 : D.size ≤ d) (h3 : d < 200) : FOK (frd N D) n d := by
  have a := rd_spec hN hD hD0 (by omega)
  exact ⟨a.1, Nat.le_trans a.2.2.1 h1, Nat.le_trans a.2.2.2 h2⟩
theorem FOK.pl {a b : FP2} {n d m e k q : Nat} (c : F) (ha : FOK a n d) (hb : FOK b m e) (h1 : n + e ≤ k + 1) (h2 : m + d ≤ k + 1) (h3 : d + e ≤ q + 1) (h4 : q < 200) : FOK (fpl a b c) k q := by
  refine FOK.rd (PS.fin_add (PS.fin_mul ha.1.1 hb.1.2.1) (PS.fin_sm _ (PS.fin_mul hb.1.1 ha.1.2.1))) (PS.fin_mul ha.1.2.1 hb.1.2.1) (PS.fmul_ne ha.1.2.1 hb.1.2.1 ha.1.2.2.1 hb.1.2.2.1) ?_ (PS.mul_sz ha.1.2.1 hb.1.2.1 (by have := ha.2.2; have := hb.2.2; omega)) h4
  have g1 := ha.2.1
  have g2 := ha.2.2
  have g3 := hb.2.1
  have g4 := hb.2.2
  exact PS.size_le (PS.lt_add (PS.lt_mul' (PS.flt ha.1.1) (PS.flt hb.1.2.1) (by omega)) (PS.lt_sm _ (PS.lt_mul' (PS.flt hb.1.1) (PS.flt ha.1.2.1) (by omega))))
theorem FOK.ml {a b : FP2} {n d m e k q : Nat} (ha : FOK a n d) (hb : FOK b m e) (h1 : n + m ≤ k + 1) (h3 : d + e ≤ q + 1) (h4 : q < 200) : FOK (fml a b) k q :=
  FOK.rd (PS.fin_mul ha.1.1 hb.1.1) (PS.fin_mul ha.1.2.1 hb.1.2.1) (PS.fmul_ne ha.1.2.1 hb.1.2.1 ha.1.2.2.1 hb.1.2.2.1) (PS.mul_sz ha.1.1 hb.1.1 (by have := ha.2.1; have := hb.2.1; omega)) (PS.mul_sz ha.1.2.1 hb.1.2.1 (by have := ha.2.2; have := hb.2.2; omega)) h4
theorem FOK.dv {a b : FP2} {n d m e k q : Nat} (ha : FOK a n d) (hb : FOK b m e) (hb0 : b.1 ≠ PS.zero) (h1 : n + e ≤ k + 1) (h3 : d + m ≤ q + 1) (h4 : q < 200) : FOK (fdv a b) k q :=
  FOK.rd (PS.fin_mul ha.1.1 hb.1.2.1) (PS.fin_mul ha.1.2.1 hb.1.1) (PS.fmul_ne ha.1.2.1 hb.1.1 ha.1.2.2.1 hb0) (PS.mul_sz ha.1.1 hb.1.2.1 (by have := ha.2.1; have := hb.2.2; omega)) (PS.mul_sz ha.1.2.1 hb.1.1 (by have := ha.2.2; have := hb.2.1; omega)) h4
theorem FOK.dr {a : FP2} {n d : Nat} (ha : FOK a n d) (h1 : n + d < 100) (h2 : 2 * d < 200) (hd : 1 ≤ d) : FOK (fdr a) (n + d) (2 * d) := by
  have g1 := ha.2.1
  have g2 := ha.2.2
  have s1 := PS.der_size ha.1.1
  have s2 := PS.der_size ha.1.2.1
  refine FOK.rd (PS.fin_add (PS.fin_mul (PS.fin_der ha.1.1) ha.1.2.1) (PS.fin_sm _ (PS.fin_mul (PS.fin_der ha.1.2.1) ha.1.1))) (PS.fin_mul ha.1.2.1 ha.1.2.1) (PS.fmul_ne ha.1.2.1 ha.1.2.1 ha.1.2.2.1 ha.1.2.2.1) ?_ (PS.mul_sz ha.1.2.1 ha.1.2.1 (by omega)) h2
  exact PS.size_le (PS.lt_add (PS.lt_mul' (PS.flt (PS.fin_der ha.1.1)) (PS.flt ha.1.2.1) (by omega)) (PS.lt_sm _ (PS.lt_mul' (PS.flt (PS.fin_der ha.1.2.1)) (PS.flt ha.1.1) (by omega))))
/-! a board's terms -/
def Bd.tm (b : Bd) (t : Int) : FP2 := (b.num t, b.den t)
def Bd.good (b : Bd) : Prop := b.ok ∧ (∀ t : Int, 0 ≤ t → t < 15 → RDP (b.num t) (b.den t)) ∧ (b.2.2.1 = 0 → ∀ j : Int, 0 ≤ j → j < 4 → b.2.1 j = 0) ∧ (b.2.2.1 ≠ 0 → mostI (b.2.1 1) (b.2.1 2) (b.2.1 3) ≠ 0)
theorem Bd.good.tm {b : Bd} (h : b.good) {t : Int} (ht : 0 ≤ t ∧ t < 15) : FOK (b.tm t) 7 5 := ⟨h.2.1 t ht.1 ht.2, PS.size_le (b.num_lt t), PS.size_le (b.den_lt t)⟩
theorem Bd.sto_cell {b : Bd} {t s k : Int} {N D : PS} (ht : 0 ≤ t ∧ t < 15) (hs : 0 ≤ s ∧ s < 15) (hk : 0 ≤ k ∧ k < 12) : (b.sto t N D).cell s k = if s = t then (if k ≤ 6 then cf N k else cf D (k - 7)) else b.cell s k := by
  unfold Bd.cell Bd.sto
  rw [if_pos (by omega)]
  by_cases c : s = t
  · subst c
    rw [if_pos rfl]
    show (if s * 12 ≤ s * 12 + k ∧ s * 12 + k < s * 12 + 12 then _ else _) = _
    rw [if_pos (by omega), show s * 12 + k - s * 12 = k by omega]
  · rw [if_neg c]
    show (if t * 12 ≤ s * 12 + k ∧ s * 12 + k < t * 12 + 12 then _ else _) = _
    rw [if_neg (by omega), if_pos (by omega)]
theorem Bd.sto_num {b : Bd} {t s : Int} {N D : PS} (ht : 0 ≤ t ∧ t < 15) (hs : 0 ≤ s ∧ s < 15) (hN : N.lt 7) : (b.sto t N D).num s = if s = t then N else b.num s := by
  refine PS.ext fun k => ?_
  have e : (b.sto t N D).num s k = if k < 7 then fi ((b.sto t N D).cell s k) else 0 := rfl
  rw [e]
  by_cases c : k < 7
  · rw [if_pos c, Bd.sto_cell ht hs (by omega)]
    by_cases d : s = t
    · rw [if_pos d, if_pos d, if_pos (by omega)]
      exact fi_cf _ _
    · rw [if_neg d, if_neg d]
      show _ = if k < 7 then fi (b.cell s k) else 0
      rw [if_pos c]
  · rw [if_neg c]
    by_cases d : s = t
    · rw [if_pos d, hN k (by omega)]
    · rw [if_neg d]
      show _ = if k < 7 then fi (b.cell s k) else 0
      rw [if_neg c]
theorem Bd.sto_den {b : Bd} {t s : Int} {N D : PS} (ht : 0 ≤ t ∧ t < 15) (hs : 0 ≤ s ∧ s < 15) (hD : D.lt 5) : (b.sto t N D).den s = if s = t then D else b.den s := by
  refine PS.ext fun k => ?_
  have e : (b.sto t N D).den s k = if 0 ≤ s ∧ s < 15 then (if k < 5 then fi ((b.sto t N D).cell s (7 + k)) else 0) else PS.one k := rfl
  rw [e, if_pos hs]
  by_cases c : k < 5
  · rw [if_pos c, Bd.sto_cell ht hs (by omega)]
    by_cases d : s = t
    · rw [if_pos d, if_pos d, if_neg (by omega), show (7 + (k : Int) - 7) = (k : Int) by omega]
      exact fi_cf _ _
    · rw [if_neg d, if_neg d]
      show _ = if 0 ≤ s ∧ s < 15 then (if k < 5 then fi (b.cell s (7 + k)) else 0) else PS.one k
      rw [if_pos hs, if_pos c]
  · rw [if_neg c]
    by_cases d : s = t
    · rw [if_pos d, hD k (by omega)]
    · rw [if_neg d]
      show _ = if 0 ≤ s ∧ s < 15 then (if k < 5 then fi (b.cell s (7 + k)) else 0) else PS.one k
      rw [if_pos hs, if_neg c]
theorem Bd.sto_good {b : Bd} {t : Int} {N D : PS} (h : b.good) (ht : 0 ≤ t ∧ t < 15) (hr : RDP N D) (hN : N.lt 7) (hD : D.lt 5) : (b.sto t N D).good := by
  refine ⟨Bd.sto_ok h.1 t N D, fun s h0 h1 => ?_, h.2.2.1, h.2.2.2⟩
  rw [Bd.sto_num ht ⟨h0, h1⟩ hN, Bd.sto_den ht ⟨h0, h1⟩ hD]
  by_cases d : s = t
  · rw [if_pos d, if_pos d]; exact hr
  · rw [if_neg d, if_neg d]; exact h.2.1 s h0 h1
/-! the results of a join become a function -/
def kp (b : Bd) (f : Int) (J : Int → FP2) : Nat → Bd
  | 0 => b
  | n + 1 => (kp b f J n).sto (5 * f + (n : Int)) (J ((n : Int) - 2)).1 (J ((n : Int) - 2)).2
def okJ (J : Int → FP2) : Prop := ∀ s : Int, -4 ≤ s → s ≤ 4 → isT (J s).1 (J s).2 = 1 ∧ ((s < -2 ∨ 2 < s) → (J s).1 = PS.zero)
theorem isT_one {N D : PS} (h : isT N D = 1) : N.size ≤ 7 ∧ D.size ≤ 5 := by
  unfold isT at h
  by_cases c : N.size ≤ 7 ∧ D.size ≤ 5
  · exact c
  · rw [if_neg c] at h; omega
theorem isT_rng (N D : PS) : 0 ≤ isT N D ∧ isT N D ≤ 1 := by unfold isT; split <;> omega
theorem kp_good {b : Bd} {f : Int} {J : Int → FP2} (h : b.good) (hf : 0 ≤ f ∧ f < 3) (hJ : ∀ s : Int, -2 ≤ s → s ≤ 2 → RDP (J s).1 (J s).2) (ho : okJ J) : ∀ n : Nat, n ≤ 5 → (kp b f J n).good := by
  intro n
  induction n with
  | zero => intro _; exact h
  | succ n ih =>
    intro hn
    have q := isT_one (ho ((n : Int) - 2) (by omega) (by omega)).1
    have r := hJ ((n : Int) - 2) (by omega) (by omega)
    exact Bd.sto_good (ih (by omega)) (by omega) r (PS.lt_mono (PS.flt r.1) q.1) (PS.lt_mono (PS.flt r.2.1) q.2)
noncomputable def keepA (b : Bd) (f : Int) (J : Int → FP2) : Int := if bz (okJ J) = 1 then (kp b f J 5).fl f 5 else -3
/-! sums, products, quotients of functions -/
noncomputable def cv (b : Bd) (g h s : Int) : Nat → FP2
  | 0 => f00
  | n + 1 => if -2 ≤ s - ((n : Int) - 2) ∧ s - ((n : Int) - 2) ≤ 2 then fpl (cv b g h s n) (fml (b.tm (5 * g + (n : Int))) (b.tm (5 * h + (s - ((n : Int) - 2)) + 2))) (fi 1) else cv b g h s n
theorem cv_ok {b : Bd} {g h s : Int} (hb : b.good) (hg : 0 ≤ g ∧ g < 3) (hh : 0 ≤ h ∧ h < 3) : ∀ n : Nat, n ≤ 5 → FOK (cv b g h s n) (8 * n + 5) (8 * n + 1) := by
  intro n
  induction n with
  | zero => intro _; exact FOK.zero.mono (by omega) (by omega)
  | succ n ih =>
    intro hn
    rw [cv]
    split
    · have h1 := (hb.tm (t := 5 * g + (n : Int)) (by omega)).ml (hb.tm (t := 5 * h + (s - ((n : Int) - 2)) + 2) (by omega)) (k := 13) (q := 9) (by omega) (by omega) (by omega)
      exact FOK.pl _ (ih (by omega)) h1 (by omega) (by omega) (by omega) (by omega)
    · exact (ih (by omega)).mono (by omega) (by omega)
noncomputable def aln (b : Bd) (h : Int) : Int := if bz (b.num (5 * h) = PS.zero) = 0 then -2 else if bz (b.num (5 * h + 1) = PS.zero) = 0 then -1 else if bz (b.num (5 * h + 2) = PS.zero) = 0 then 0 else if bz (b.num (5 * h + 3) = PS.zero) = 0 then 1 else 2
noncomputable def jn (b : Bd) (act g h : Int) (s : Int) : FP2 :=
  if act = 2 then cv b g h s 5
  else if act = 3 then (if -2 ≤ s + aln b h ∧ s + aln b h ≤ 2 then fdv (b.tm (5 * g + (s + aln b h) + 2)) (b.tm (5 * h + aln b h + 2)) else f00)
  else if -2 ≤ s ∧ s ≤ 2 then fpl (b.tm (5 * g + s + 2)) (b.tm (5 * h + s + 2)) (if act = 0 then fi 1 else fi (-1)) else f00
/-- one term alone -/
def oneB (s : Int) : Prop := s = 1 ∨ s = 2 ∨ s = 4 ∨ s = 8 ∨ s = 16
theorem aln_rng (b : Bd) (h : Int) : -2 ≤ aln b h ∧ aln b h ≤ 2 := by unfold aln; split <;> (try split) <;> (try split) <;> (try split) <;> omega
