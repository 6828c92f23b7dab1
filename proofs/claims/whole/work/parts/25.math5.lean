/-! ===== all polynomials of the class at once: what each holds, by its address ===== -/
def AB (Λ : Lay) (μ : Mem) (π : Nat → PS) : Prop := ∀ a, polyK Λ a → PA μ a (π a)
def up (π : Nat → PS) (t : Nat) (R : PS) : Nat → PS := fun a => if a = t then R else π a
theorem up_at {π : Nat → PS} {t : Nat} {R : PS} : up π t R t = R := if_pos rfl
theorem up_ne {π : Nat → PS} {t a : Nat} {R : PS} (h : a ≠ t) : up π t R a = π a := if_neg h
/-- all else is as it was -/
def polyC (Λ : Lay) (a : Nat) : Prop := polyK Λ a ∨ ∃ b, a = b + 1 ∧ polyK Λ b
def Oth (Λ : Lay) (μ μ' : Mem) : Prop := (∀ a, ¬ polyC Λ a → μ'.1 a = μ.1 a) ∧ μ'.2 = μ.2
theorem Oth.rf {Λ : Lay} {μ : Mem} : Oth Λ μ μ := ⟨fun _ _ => rfl, rfl⟩
theorem Oth.trans {Λ : Lay} {μ μ1 μ2 : Mem} (h : Oth Λ μ μ1) (h' : Oth Λ μ1 μ2) : Oth Λ μ μ2 := ⟨fun a ha => (h'.1 a ha).trans (h.1 a ha), h'.2.trans h.2⟩
theorem AB.upd {Λ : Lay} {μ μ' : Mem} {π : Nat → PS} {t : Nat} {R : PS} (h : AB Λ μ π) (hT : polyK Λ t) (hP : PA μ' t R) (hf : Fr [t, t + 1] μ μ') : AB Λ μ' (up π t R) := by
  intro a ha
  by_cases e : a = t
  · subst e; rw [up_at]; exact hP
  · rw [up_ne e]
    have o := pk_out ha hT e
    exact (h a ha).kept hf o.1 o.2
theorem Oth.upd {Λ : Lay} {μ μ' : Mem} {t : Nat} (hT : polyK Λ t) (hf : Fr [t, t + 1] μ μ') : Oth Λ μ μ' := by
  refine ⟨fun a ha => hf.1 a ?_, hf.2⟩
  intro h
  simp at h
  rcases h with rfl | rfl
  · exact ha (Or.inl hT)
  · exact ha (Or.inr ⟨t, rfl, hT⟩)
/-- the change of one polynomial, or of some: outside S all is as before -/
def Chg (Λ : Lay) (S : Nat → Prop) (μ μ' : Mem) (π π' : Nat → PS) : Prop := AB Λ μ' π' ∧ (∀ a, ¬ S a → π' a = π a) ∧ Oth Λ μ μ'
theorem Chg.rf {Λ : Lay} {S : Nat → Prop} {μ : Mem} {π : Nat → PS} (h : AB Λ μ π) : Chg Λ S μ μ π π := ⟨h, fun _ _ => rfl, Oth.rf⟩
theorem Chg.trans {Λ : Lay} {S : Nat → Prop} {μ μ1 μ2 : Mem} {π π1 π2 : Nat → PS} (h : Chg Λ S μ μ1 π π1) (h' : Chg Λ S μ1 μ2 π1 π2) : Chg Λ S μ μ2 π π2 := ⟨h'.1, fun a ha => (h'.2.1 a ha).trans (h.2.1 a ha), h.2.2.trans h'.2.2⟩
theorem Chg.mono {Λ : Lay} {S S' : Nat → Prop} {μ μ1 : Mem} {π π1 : Nat → PS} (h : Chg Λ S μ μ1 π π1) (hs : ∀ a, S a → S' a) : Chg Λ S' μ μ1 π π1 := ⟨h.1, fun a ha => h.2.1 a (fun z => ha (hs a z)), h.2.2⟩
/-- one polynomial has become R -/
theorem Chg.one {Λ : Lay} {S : Nat → Prop} {μ μ' : Mem} {π : Nat → PS} {t : Nat} {R : PS} (h : AB Λ μ π) (hT : polyK Λ t) (hS : S t) (hq : PA μ' t R ∧ Fr [t, t + 1] μ μ') : ∃ π', Chg Λ S μ μ' π π' ∧ π' t = R ∧ ∀ a, a ≠ t → π' a = π a :=
  ⟨up π t R, ⟨h.upd hT hq.1 hq.2, fun a ha => up_ne (fun e => ha (e ▸ hS)), Oth.upd hT hq.2⟩, up_at, fun a ha => up_ne ha⟩
/-! ===== the greatest common divisor, as Euclid finds it ===== -/
noncomputable def PS.eu : Nat → PS → PS → PS
  | 0, a, _ => a
  | n + 1, a, b => @ite PS (b = PS.zero) (Classical.propDecidable _) a (PS.eu n b (a.md b))
theorem PS.eu_zero (n : Nat) (a : PS) : PS.eu n a PS.zero = a := by
  cases n with
  | zero => rfl
  | succ n => rw [PS.eu, if_pos rfl]
theorem PS.eu_succ {n : Nat} {a b : PS} (h : b ≠ PS.zero) : PS.eu (n + 1) a b = PS.eu n b (a.md b) := by rw [PS.eu, if_neg h]
/-- there is a division -/
theorem PS.div_ex {D : PS} {m : Nat} (hD : D.isz (m + 1)) : ∀ (k : Nat) (p : PS), p.lt k → ∃ Q R : PS, Q.lt k ∧ R.lt m ∧ p = (Q.mul D).add R := by
  intro k
  induction k with
  | zero =>
    intro p hp
    have e := PS.lt_zero hp
    subst e
    exact ⟨PS.zero, PS.zero, PS.zero_lt _, PS.zero_lt _, PS.div0 _ _⟩
  | succ k ih =>
    intro p hp
    rcases Nat.lt_or_ge k m with h | h
    · exact ⟨PS.zero, p, PS.zero_lt _, PS.lt_mono hp h, PS.div0 _ _⟩
    · obtain ⟨Q, R, h1, h2, h3⟩ := ih _ (PS.strike_at hD hp h)
      refine ⟨Q.add ((PS.C (p k * finv (D m))).sh (k - m)), R, PS.lt_add (PS.lt_mono h1 (by omega)) (PS.lt_mono (PS.C_sh_lt _ _) (by omega)), h2, ?_⟩
      have h4 := PS.am_eq p D (- (p k * finv (D m))) (k - m)
      rw [h3] at h4
      have e : (PS.C (- (p k * finv (D m)))).sh (k - m) = PS.neg ((PS.C (p k * finv (D m))).sh (k - m)) := PS.ext fun n => by
        show (if n < k - m then 0 else if n - (k - m) = 0 then - (p k * finv (D m)) else 0) = - (if n < k - m then 0 else if n - (k - m) = 0 then (p k * finv (D m)) else 0)
        split
        · grind
        · split <;> grind
      rw [e] at h4
      revert h4
      generalize (PS.C (p k * finv (D m))).sh (k - m) = X
      intro h4
      letI := psRing
      have h4' : Q * D + R = p + (-X) * D := h4
      show p = (Q + X) * D + R
      grind
theorem PS.div_spec {p D : PS} {N m : Nat} (hD : D.isz (m + 1)) (hp : p.lt N) : p = ((p.dv D).mul D).add (p.md D) ∧ (p.md D).lt m ∧ (p.dv D).lt N := by
  obtain ⟨Q, R, h1, h2, h3⟩ := PS.div_ex hD N p hp
  obtain ⟨e1, e2⟩ := PS.md_eq hD h1 h2 h3
  rw [e1, e2]
  exact ⟨h3, h2, h1⟩
theorem PS.md_size {p D : PS} {N M : Nat} (hp : p.lt N) (hD : D.lt M) (h0 : D ≠ PS.zero) : (p.md D).size < D.size ∧ (p.md D).lt N ∧ (p.md D).size ≤ p.size := by
  obtain ⟨m, -, hm, hz⟩ := PS.ne_zero_isz hD h0
  have h := PS.div_spec hz hp
  have h3 := PS.div_spec hz (PS.lt_size hp)
  refine ⟨by have := PS.size_le h.2.1; omega, ?_, ?_⟩
  · rcases Nat.lt_or_ge m N with q | q
    · exact PS.lt_mono h.2.1 (by omega)
    · obtain ⟨e, -⟩ := PS.md_eq (p := p) (r := p) hz (PS.zero_lt 0) (PS.lt_mono hp (by omega)) (PS.div0 _ _)
      rw [e]; exact hp
  · rcases Nat.lt_or_ge m p.size with q | q
    · have := PS.size_le h.2.1; omega
    · obtain ⟨e, -⟩ := PS.md_eq (p := p) (r := p) hz (PS.zero_lt 0) (PS.lt_mono (PS.lt_size hp) q) (PS.div0 _ _)
      rw [e]; exact Nat.le_refl _
theorem PS.eu_fuel : ∀ (n m : Nat) (a b : PS) (N : Nat), a.lt N → b.lt N → b.size < n → b.size < m → PS.eu n a b = PS.eu m a b := by
  intro n
  induction n with
  | zero => intro m a b N _ _ h; omega
  | succ n ih =>
    intro m a b N ha hb h1 h2
    cases m with
    | zero => omega
    | succ m =>
      by_cases h0 : b = PS.zero
      · rw [h0, PS.eu_zero, PS.eu_zero]
      · rw [PS.eu_succ h0, PS.eu_succ h0]
        have h3 := PS.md_size ha hb h0
        exact ih m b _ N hb h3.2.1 (by omega) (by omega)
/-- with head 1 -/
noncomputable def PS.mon (p : PS) : PS := p.sm (finv (fi (hdI p)))
noncomputable def PS.gcd (a b : PS) : PS := (PS.eu 200 a b).mon
theorem PS.eu_lt : ∀ (n : Nat) (a b : PS) (N : Nat), a.lt N → b.lt N → (PS.eu n a b).lt N := by
  intro n
  induction n with
  | zero => intro a b N ha _; exact ha
  | succ n ih =>
    intro a b N ha hb
    by_cases h0 : b = PS.zero
    · rw [h0, PS.eu_zero]; exact ha
    · rw [PS.eu_succ h0]
      exact ih b _ N hb (PS.md_size ha hb h0).2.1
theorem PS.eu_size : ∀ (n : Nat) (a b : PS) (N : Nat), a.lt N → b.lt N → (PS.eu n a b).size ≤ max a.size b.size := by
  intro n
  induction n with
  | zero => intro a b N ha _; exact Nat.le_max_left _ _
  | succ n ih =>
    intro a b N ha hb
    by_cases h0 : b = PS.zero
    · rw [h0, PS.eu_zero]; exact Nat.le_max_left _ _
    · rw [PS.eu_succ h0]
      have h1 := PS.md_size ha hb h0
      have h2 := ih b _ N hb h1.2.1
      omega
theorem PS.mon_lt {p : PS} {N : Nat} (h : p.lt N) : p.mon.lt N := PS.lt_sm _ h
theorem PS.gcd_lt {a b : PS} {N : Nat} (ha : a.lt N) (hb : b.lt N) : (PS.gcd a b).lt N := PS.mon_lt (PS.eu_lt _ _ _ _ ha hb)
theorem PS.mon_zero : PS.zero.mon = PS.zero := PS.ext fun n => by
  show _ * (0 : F) = 0
  grind
theorem PS.mon_size {p : PS} {N : Nat} (h : p.lt N) : p.mon.size = p.size := by
  by_cases h0 : p = PS.zero
  · rw [h0, PS.mon_zero]
  · obtain ⟨n, -, hn, hz⟩ := PS.ne_zero_isz h h0
    refine PS.size_sm (finv_ne ?_) h
    rw [hdI_eq hz]
    exact hz.1.resolve_left (by omega)
