/-! ===== the reference: one row of 154 × 96 numbers ===== -/
def refFs (ν : Nat) : List (Option Value) := [some (.ref (ν + 1)), some (.ref (ν + 2)), none, some (.ref (ν + 3)), none, none, none, some (.ref (ν + 4)), none, none, none, some (.ref (ν + 5)), some (.ref (ν + 6)), none, some (.ref (ν + 7)), some (.ref (ν + 8)), none, none, none, some (.ref (ν + 9)), some (.ref (ν + 10)), some (.ref (ν + 11)), none, none, some (.ref (ν + 12)), none, some (.ref (ν + 13)), some (.ref (ν + 14)), some (.ref (ν + 15)), some (.ref (ν + 16)), some (.ref (ν + 17))]
def refK (Λ : Lay) (ν : Nat) : Prop :=
  Λ ν = some (.inl (12, refFs ν)) ∧
  Λ (ν + 1) = some (.inr (0, 14784, [])) ∧
  Λ (ν + 2) = some (.inr (0, 192, [])) ∧
  Λ (ν + 3) = some (.inr (0, 4, [])) ∧
  Λ (ν + 4) = some (.inr (0, 1152, [])) ∧
  Λ (ν + 5) = some (.inr (0, 1344, [])) ∧
  Λ (ν + 6) = some (.inr (0, 256, [])) ∧
  Λ (ν + 7) = some (.inr (0, 6240, [])) ∧
  Λ (ν + 8) = some (.inr (0, 64, [])) ∧
  Λ (ν + 9) = some (.inr (0, 64, [])) ∧
  Λ (ν + 10) = some (.inr (0, 64, [])) ∧
  Λ (ν + 11) = some (.inr (0, 64, [])) ∧
  Λ (ν + 12) = some (.inr (0, 90, [])) ∧
  Λ (ν + 13) = some (.inr (0, 7, [])) ∧
  Λ (ν + 14) = some (.inr (0, 7, [])) ∧
  Λ (ν + 15) = some (.inr (0, 4, [])) ∧
  Λ (ν + 16) = some (.inr (0, 4, [])) ∧
  Λ (ν + 17) = some (.inr (2, 96, []))
theorem refK.o {Λ : Lay} {ν : Nat} (h : refK Λ ν) : Λ ν = some (.inl (12, refFs ν)) := h.1
theorem refK.p {Λ : Lay} {ν : Nat} (h : refK Λ ν) : Λ (ν + 1) = some (.inr (0, 14784, [])) := h.2.1
theorem refK.product {Λ : Lay} {ν : Nat} (h : refK Λ ν) : Λ (ν + 2) = some (.inr (0, 192, [])) := h.2.2.1
theorem refK.u {Λ : Lay} {ν : Nat} (h : refK Λ ν) : Λ (ν + 3) = some (.inr (0, 4, [])) := h.2.2.2.1
theorem refK.undos {Λ : Lay} {ν : Nat} (h : refK Λ ν) : Λ (ν + 4) = some (.inr (0, 1152, [])) := h.2.2.2.2.1
theorem refK.image {Λ : Lay} {ν : Nat} (h : refK Λ ν) : Λ (ν + 5) = some (.inr (0, 1344, [])) := h.2.2.2.2.2.1
theorem refK.letters {Λ : Lay} {ν : Nat} (h : refK Λ ν) : Λ (ν + 6) = some (.inr (0, 256, [])) := h.2.2.2.2.2.2.1
theorem refK.cells {Λ : Lay} {ν : Nat} (h : refK Λ ν) : Λ (ν + 7) = some (.inr (0, 6240, [])) := h.2.2.2.2.2.2.2.1
theorem refK.solution {Λ : Lay} {ν : Nat} (h : refK Λ ν) : Λ (ν + 8) = some (.inr (0, 64, [])) := h.2.2.2.2.2.2.2.2.1
theorem refK.roots {Λ : Lay} {ν : Nat} (h : refK Λ ν) : Λ (ν + 9) = some (.inr (0, 64, [])) := h.2.2.2.2.2.2.2.2.2.1
theorem refK.sums {Λ : Lay} {ν : Nat} (h : refK Λ ν) : Λ (ν + 10) = some (.inr (0, 64, [])) := h.2.2.2.2.2.2.2.2.2.2.1
theorem refK.parts {Λ : Lay} {ν : Nat} (h : refK Λ ν) : Λ (ν + 11) = some (.inr (0, 64, [])) := h.2.2.2.2.2.2.2.2.2.2.2.1
theorem refK.tape {Λ : Lay} {ν : Nat} (h : refK Λ ν) : Λ (ν + 12) = some (.inr (0, 90, [])) := h.2.2.2.2.2.2.2.2.2.2.2.2.1
theorem refK.sumAct {Λ : Lay} {ν : Nat} (h : refK Λ ν) : Λ (ν + 13) = some (.inr (0, 7, [])) := h.2.2.2.2.2.2.2.2.2.2.2.2.2.1
theorem refK.partAct {Λ : Lay} {ν : Nat} (h : refK Λ ν) : Λ (ν + 14) = some (.inr (0, 7, [])) := h.2.2.2.2.2.2.2.2.2.2.2.2.2.2.1
theorem refK.sheetLane {Λ : Lay} {ν : Nat} (h : refK Λ ν) : Λ (ν + 15) = some (.inr (0, 4, [])) := h.2.2.2.2.2.2.2.2.2.2.2.2.2.2.2.1
theorem refK.sheetMany {Λ : Lay} {ν : Nat} (h : refK Λ ν) : Λ (ν + 16) = some (.inr (0, 4, [])) := h.2.2.2.2.2.2.2.2.2.2.2.2.2.2.2.2.1
theorem refK.items {Λ : Lay} {ν : Nat} (h : refK Λ ν) : Λ (ν + 17) = some (.inr (2, 96, [])) := h.2.2.2.2.2.2.2.2.2.2.2.2.2.2.2.2.2
def RW (μ : Mem) (ν : Nat) (ρ : Nat → PS) : Prop := ∀ s : Nat, s < 154 → (ρ s).lt 96 ∧ ∀ j : Int, 0 ≤ j → j < 96 → μ.1 (ν + 1) (96 * (s : Int) + j) = cf (ρ s) j
theorem RW.at {μ : Mem} {ν : Nat} {ρ : Nat → PS} (h : RW μ ν ρ) {s : Nat} (hs : s < 154) {j : Int} (h0 : 0 ≤ j) (h1 : j < 96) {A : PS} (e : ρ s = A) : μ.1 (ν + 1) (96 * (s : Int) + j) = cf A j := e ▸ (h s hs).2 j h0 h1
theorem RW.fr {μ μ' : Mem} {ν : Nat} {ρ : Nat → PS} (h : RW μ ν ρ) (e : μ'.1 (ν + 1) = μ.1 (ν + 1)) : RW μ' ν ρ := fun s hs => ⟨(h s hs).1, fun j h0 h1 => by rw [e]; exact (h s hs).2 j h0 h1⟩
theorem RW.start {μ : Mem} {ν : Nat} {ρ : Nat → PS} (h : RW μ ν ρ) (s : Nat) (R : PS) : RW μ ν (up ρ s ((ρ s).mix R 0)) := by
  rw [PS.mix0]
  have e : up ρ s (ρ s) = ρ := funext fun a => by
    by_cases c : a = s
    · rw [c, up_at]
    · rw [up_ne c]
  rw [e]; exact h
theorem RW.put {m : Mem} {ν : Nat} {ρ : Nat → PS} {s : Nat} {P : PS} {k z : Int} {c : F} (h : RW m ν (up ρ s P)) (h0 : 0 ≤ k) (h1 : k < 96) (hz : z = (c.val : Int)) (hs : s < 154) : RW (mI m (ν + 1) (96 * (s : Int) + k) z) ν (up ρ s (P.set k.toNat c)) := by
  intro t ht
  by_cases e : t = s
  · subst e
    have h2 := h t ht
    rw [up_at] at h2 ⊢
    refine ⟨PS.set_lt h2.1 (by omega), fun j g0 g1 => ?_⟩
    rw [mI_at]
    unfold cf PS.set
    by_cases e2 : j = k
    · rw [if_pos (by omega), if_pos (by omega), hz]
    · rw [if_neg (by omega), if_neg (by omega)]
      exact h2.2 j g0 g1
  · have h2 := h t ht
    rw [up_ne e] at h2 ⊢
    refine ⟨h2.1, fun j g0 g1 => ?_⟩
    rw [mI_at, if_neg (by omega)]
    exact h2.2 j g0 g1
theorem RW.step {m : Mem} {ν : Nat} {ρ : Nat → PS} {s : Nat} {P R : PS} {k z : Int} (h : RW m ν (up ρ s (P.mix R k.toNat))) (h0 : 0 ≤ k) (h1 : k < 96) (hz : z = cf R k) (hs : s < 154) : RW (mI m (ν + 1) (96 * (s : Int) + k) z) ν (up ρ s (P.mix R (k + 1).toNat)) := by
  have := h.put (c := R k.toNat) h0 h1 hz hs
  rwa [PS.mix_set, show k.toNat + 1 = (k + 1).toNat by omega] at this
theorem RW.done {m : Mem} {ν : Nat} {ρ : Nat → PS} {s : Nat} {P R : PS} (h : RW m ν (up ρ s (P.mix R 96))) (hP : P.lt 96) (hR : R.lt 96) : RW m ν (up ρ s R) := by
  rwa [PS.mix_end0 hP hR] at h
theorem up_get {ρ : Nat → PS} {s t : Nat} {R : PS} : up ρ s R t = if t = s then R else ρ t := rfl
/-- the rest of a number -/
theorem mix_other {P R : PS} {k j : Int} (h0 : 0 ≤ k) (h : k ≤ j) : cf (P.mix R k.toNat) j = cf P j := cf_mix h0 h
/-- a row that is read while one is written: ahead of the writing -/
theorem RW.rd {m : Mem} {ν : Nat} {ρ : Nat → PS} {s t : Nat} {R : PS} {k j : Int} (h : RW m ν (up ρ s ((ρ s).mix R k.toNat))) (ht : t < 154) (h0 : 0 ≤ k) (h1 : k ≤ j) (h2 : j < 96) : m.1 (ν + 1) (96 * (t : Int) + j) = cf (ρ t) j := by
  rw [h.at ht (by omega) h2 rfl]
  by_cases c : t = s
  · rw [c, up_at]; exact cf_mix h0 h1
  · rw [up_ne c]
