theorem AB.get {Λ : Lay} {μ : Mem} {π : Nat → PS} {a : Nat} {A : PS} (h : AB Λ μ π) (hk : polyK Λ a) (e : π a = A) : PA μ a A := e ▸ h a hk
theorem Chg.two {Λ : Lay} {S : Nat → Prop} {μ μ' : Mem} {π : Nat → PS} {t r : Nat} {R R' : PS} (h : AB Λ μ π) (hT : polyK Λ t) (hR : polyK Λ r) (hne : t ≠ r) (hS : S t) (hS' : S r) (hq : PA μ' t R ∧ PA μ' r R' ∧ Fr [t, t + 1, r, r + 1] μ μ') : ∃ π', Chg Λ S μ μ' π π' ∧ π' t = R ∧ π' r = R' ∧ ∀ a, a ≠ t → a ≠ r → π' a = π a := by
  refine ⟨up (up π r R') t R, ⟨fun a ha => ?_, fun a ha => ?_, ⟨fun a ha => hq.2.2.1 a ?_, hq.2.2.2⟩⟩, up_at, ?_, fun a h1 h2 => ?_⟩
  · by_cases e : a = t
    · subst e; rw [up_at]; exact hq.1
    · rw [up_ne e]
      by_cases e2 : a = r
      · subst e2; rw [up_at]; exact hq.2.1
      · rw [up_ne e2]
        have o1 := pk_out ha hT e
        have o2 := pk_out ha hR e2
        simp only [List.mem_cons, List.not_mem_nil, or_false, not_or] at o1 o2
        exact (h a ha).kept hq.2.2 (by simp; omega) (by simp; omega)
  · have n1 : a ≠ t := fun e => ha (by rw [e]; exact hS)
    have n2 : a ≠ r := fun e => ha (by rw [e]; exact hS')
    rw [up_ne n1, up_ne n2]
  · intro hm
    simp at hm
    rcases hm with rfl | rfl | rfl | rfl
    · exact ha (Or.inl hT)
    · exact ha (Or.inr ⟨t, rfl, hT⟩)
    · exact ha (Or.inl hR)
    · exact ha (Or.inr ⟨r, rfl, hR⟩)
  · rw [up_ne hne.symm, up_at]
  · rw [up_ne h1, up_ne h2]
def fracK (Λ : Lay) (f : Nat) : Prop := Λ f = some (.inl (1, [some (.ref (f + 1)), some (.ref (f + 3))])) ∧ polyK Λ (f + 1) ∧ polyK Λ (f + 3)
/-- the kit: first, second, third, fourth, common, up, down, spare -/
def kitK (Λ : Lay) (κ : Nat) : Prop := Λ κ = some (.inl (3, [some (.ref (κ + 1)), some (.ref (κ + 3)), some (.ref (κ + 5)), some (.ref (κ + 7)), some (.ref (κ + 9)), some (.ref (κ + 11)), some (.ref (κ + 13)), some (.ref (κ + 15))])) ∧
  (polyK Λ (κ + 1) ∧ polyK Λ (κ + 3) ∧ polyK Λ (κ + 5) ∧ polyK Λ (κ + 7)) ∧ (polyK Λ (κ + 9) ∧ polyK Λ (κ + 11) ∧ polyK Λ (κ + 13) ∧ polyK Λ (κ + 15))
/-- apart from the kit -/
abbrev offK (κ a : Nat) : Prop := a < κ ∨ κ + 16 < a
noncomputable def isT (N D : PS) : Int := if N.size ≤ 7 ∧ D.size ≤ 5 then 1 else 0
def PS.pw (p : PS) : Nat → PS
  | 0 => PS.one
  | n + 1 => (PS.pw p n).mul p
theorem PS.C1 : PS.C (fi 1) = PS.one := by rw [fi_1]; rfl
theorem PS.pw_lt {p : PS} {N : Nat} (h : p.lt (N + 1)) (n : Nat) : (p.pw n).lt (n * N + 1) := by
  induction n with
  | zero => rw [Nat.zero_mul]; exact PS.C_lt 1
  | succ n ih => exact PS.lt_mul' ih h (by rw [Nat.succ_mul]; omega)
/-- a fraction with no common divisor, the denominator's head 1 -/
noncomputable def rdN (N D : PS) : PS :=
  @ite PS (N = PS.zero) (Classical.propDecidable _) PS.zero
    (if 1 < D.size ∧ 1 < (N.gcd D).size then (N.dv (N.gcd D)).sm (finv (fi (hdI (D.dv (N.gcd D))))) else N.sm (finv (fi (hdI D))))
noncomputable def rdD (N D : PS) : PS :=
  @ite PS (N = PS.zero) (Classical.propDecidable _) PS.one
    (if 1 < D.size ∧ 1 < (N.gcd D).size then (D.dv (N.gcd D)).sm (finv (fi (hdI (D.dv (N.gcd D))))) else D.sm (finv (fi (hdI D))))
theorem PS.mon_eq (p : PS) : p.sm (fi (ivI (hdI p))) = p.mon := by unfold PS.mon; rw [fi_ivI]
