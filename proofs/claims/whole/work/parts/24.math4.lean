theorem pk_out {Λ : Lay} {t a : Nat} (hT : polyK Λ t) (hA : polyK Λ a) (h : t ≠ a) : t ∉ [a, a + 1] ∧ t + 1 ∉ [a, a + 1] := by
  have h1 : t ≠ a + 1 := fun e => by have h := hT.1; rw [e, hA.2] at h; cases h
  have h2 : t + 1 ≠ a := fun e => by have h := hA.1; rw [← e, hT.2] at h; cases h
  constructor <;> simp <;> omega
theorem pk_out1 {Λ : Lay} {t a : Nat} (hT : polyK Λ t) (hA : polyK Λ a) (h : t ≠ a) : t ∉ [a + 1] ∧ t + 1 ∉ [a + 1] := by
  have h1 := pk_out hT hA h
  simp at h1 ⊢
  omega
theorem PS.tr_set (p : PS) (k : Nat) : (p.tr k).set k (p k) = p.tr (k + 1) := PS.ext fun n => by
  show (if n = k then p k else if n < k then p n else 0) = if n < k + 1 then p n else 0
  by_cases h : n = k
  · subst h; rw [if_pos rfl, if_pos (by omega)]
  · rw [if_neg h]
    by_cases h2 : n < k
    · rw [if_pos h2, if_pos (by omega)]
    · rw [if_neg h2, if_neg (by omega)]
/-- the inverse of a number of the machine -/
def ivI (v : Int) : Int := ((finv (fi v)).val : Int)
theorem ivI_rng (v : Int) : 0 ≤ ivI v ∧ ivI v ≤ 100 := by
  unfold ivI
  have := (finv (fi v)).isLt
  omega
theorem fi_ivI (v : Int) : fi (ivI v) = finv (fi v) := fi_of _
def INV (G : Gl) (Λ : Lay) : Prop := Λ (gS G) = some (.inr (9, 2, [])) ∧ Λ (gI G) = some (.inr (9, 0, [])) ∧ gN G 0 = 101 ∧ ∀ i : Int, 0 ≤ i → i < 101 → gT G 0 i = ivI i
theorem hdI_eq {p : PS} {m : Nat} (h : p.isz (m + 1)) : fi (hdI p) = p m := by
  have hs := PS.size_eq h
  unfold hdI
  rw [if_neg (by omega), fi_cf]
  congr 1
  omega
theorem ivI_ne {p : PS} {m : Nat} (h : p.isz (m + 1)) : ivI (hdI p) ≠ 0 := by
  intro e
  have h1 := finv_ne (h.1.resolve_left (by omega))
  rw [show m + 1 - 1 = m by omega, ← hdI_eq h, ← fi_ivI, e] at h1
  exact h1 fi_0
theorem fi_101 (z : Int) : fi (101 - z) = - fi z := by
  rw [fi_sub, show fi 101 = 0 by decide]; grind
theorem PS.sh_am (p : PS) (c : F) (s n : Nat) : (p.add ((PS.C c).sh s)) n = if n = s then p n + c else p n := by
  show p n + (if n < s then 0 else if n - s = 0 then c else 0) = _
  by_cases h : n = s
  · subst h; rw [if_neg (by omega), if_pos (by omega), if_pos rfl]
  · rw [if_neg h]
    by_cases h2 : n < s
    · rw [if_pos h2]; grind
    · rw [if_neg h2, if_neg (by omega)]; grind
theorem PS.set_add {Q : PS} {s : Nat} {c : F} (h : Q s = 0) : Q.set s c = Q.add ((PS.C c).sh s) := PS.ext fun n => by
  rw [PS.sh_am]
  unfold PS.set
  by_cases e : n = s
  · subst e; rw [if_pos rfl, if_pos rfl, h]; grind
  · rw [if_neg e, if_neg e]
theorem PS.C_sh_lt (c : F) (s : Nat) : ((PS.C c).sh s).lt (s + 1) := PS.lt_mono (PS.lt_sh s (PS.C_lt c)) (by omega)
/-- a step of a division -/
theorem PS.div_step {p Q D P : PS} {c : F} {s : Nat} (h : p = (Q.mul D).add P) : p = ((Q.add ((PS.C c).sh s)).mul D).add (P.am D (-c) s) := by
  rw [PS.am_eq]
  have e : (PS.C (-c)).sh s = PS.neg ((PS.C c).sh s) := PS.ext fun n => by
    show (if n < s then 0 else if n - s = 0 then - c else 0) = - (if n < s then 0 else if n - s = 0 then c else 0)
    split
    · grind
    · split <;> grind
  rw [e]
  generalize (PS.C c).sh s = X
  letI := psRing
  have h' : p = Q * D + P := h
  show p = (Q + X) * D + (P + (-X) * D)
  grind
theorem PS.div0 (p D : PS) : p = (PS.zero.mul D).add p := by rw [PS.zero_mul, PS.zero_add]
/-- the numbers of a value as the machine has them -/
def evI (p : PS) (x : Int) (k : Nat) : Int := ((tailv p (fi x) k).val : Int)
theorem evI_rng (p : PS) (x : Int) (k : Nat) : 0 ≤ evI p x k ∧ evI p x k ≤ 100 := by
  unfold evI
  have := (tailv p (fi x) k).isLt
  omega
theorem fi_evI (p : PS) (x : Int) (k : Nat) : fi (evI p x k) = tailv p (fi x) k := fi_of _
theorem evI_step {p : PS} {x z : Int} {k : Nat} (hk : k < 200) (hz : fi z = p k) : (evI p x (k + 1) * x + z) % 101 = evI p x k := by
  have h : (evI p x (k + 1) * x + z) % 101 = ((fi (evI p x (k + 1) * x + z)).val : Int) := (fi_val _).symm
  rw [h, fi_add, fi_mul, fi_evI, hz]
  unfold evI
  rw [tailv_step hk]
  congr 2
  grind
theorem evI_zero {p : PS} {x : Int} {k : Nat} (h : p.lt k) : evI p x k = 0 := by
  unfold evI
  rw [tailv_zero h]; rfl
