/-! ===== sizes (degree + 1), and numbers ===== -/
def fi (z : Int) : F := Fin.ofNat 101 (z % 101).toNat
theorem fi_val (z : Int) : ((fi z).val : Int) = z % 101 := by
  show (((z % 101).toNat % 101 : Nat) : Int) = z % 101
  omega
theorem fi_eq {z w : Int} (h : z % 101 = w % 101) : fi z = fi w := by unfold fi; rw [h]
theorem fi_of (a : F) : fi (a.val : Int) = a := by
  apply Fin.ext
  have h := fi_val (a.val : Int)
  have := a.isLt
  omega
theorem fi_mod (z : Int) : fi (z % 101) = fi z := fi_eq (by omega)
theorem fi_add (a b : Int) : fi (a + b) = fi a + fi b := by
  apply Fin.ext
  have h := fi_val (a + b)
  have h1 := fi_val a
  have h2 := fi_val b
  rw [Fin.val_add]
  omega
theorem fi_mul (a b : Int) : fi (a * b) = fi a * fi b := by
  apply Fin.ext
  have h := fi_val (a * b)
  have h1 := fi_val a
  have h2 := fi_val b
  rw [Fin.val_mul]
  have h3 : (((fi a).val * (fi b).val % 101 : Nat) : Int) = ((fi a).val : Int) * ((fi b).val : Int) % 101 := by simp
  rw [h1, h2, ← Int.mul_emod] at h3
  omega
theorem fi_0 : fi 0 = 0 := by decide
theorem fi_1 : fi 1 = 1 := by decide
theorem fi_neg (a : Int) : fi (-a) = - fi a := by
  have h : fi (-a) + fi a = 0 := by rw [← fi_add, Int.add_left_neg]; decide
  grind
theorem fi_sub (a b : Int) : fi (a - b) = fi a - fi b := by
  rw [Int.sub_eq_add_neg, fi_add, fi_neg]; grind
theorem fi_inj {a b : Int} (ha : 0 ≤ a ∧ a < 101) (hb : 0 ≤ b ∧ b < 101) (h : fi a = fi b) : a = b := by
  have h1 := fi_val a
  have h2 := fi_val b
  rw [h] at h1
  omega
theorem fi_zero {a : Int} (ha : 0 ≤ a ∧ a < 101) : fi a = 0 ↔ a = 0 := by
  constructor
  · intro h; exact fi_inj ha (by omega) (h.trans fi_0.symm)
  · intro h; rw [h]; decide
/-- the coefficient of a power, as a number of the machine -/
def cf (p : PS) (j : Int) : Int := ((p j.toNat).val : Int)
theorem cf_rng (p : PS) (j : Int) : 0 ≤ cf p j ∧ cf p j ≤ 100 := by
  unfold cf
  have := (p j.toNat).isLt
  omega
theorem fi_cf (p : PS) (j : Int) : fi (cf p j) = p j.toNat := fi_of _
theorem cf_of {p : PS} {j z : Int} (h0 : 0 ≤ z ∧ z < 101) (h : fi z = p j.toNat) : cf p j = z := by
  refine fi_inj ?_ h0 (by rw [fi_cf, h])
  have := cf_rng p j
  omega
theorem cf_mod {p : PS} {j z : Int} (h : fi z = p j.toNat) : z % 101 = cf p j := by
  refine (cf_of ?_ ?_).symm
  · omega
  · rw [fi_mod, h]
theorem cf_zero {p : PS} {j : Int} : cf p j = 0 ↔ p j.toNat = 0 := by
  have h := cf_rng p j
  rw [← fi_cf p j, fi_zero (by omega)]
theorem cf_nat (p : PS) (k : Nat) : cf p (k : Int) = ((p k).val : Int) := rfl
def PS.lt (p : PS) (n : Nat) : Prop := ∀ k, n ≤ k → p k = 0
def PS.isz (p : PS) (n : Nat) : Prop := (n = 0 ∨ p (n - 1) ≠ 0) ∧ p.lt n
theorem PS.isz_ex {p : PS} {N : Nat} (h : p.lt N) : ∃ n, n ≤ N ∧ p.isz n := by
  induction N with
  | zero => exact ⟨0, Nat.le_refl _, Or.inl rfl, h⟩
  | succ N ih =>
    by_cases h0 : p N = 0
    · obtain ⟨n, h1, h2⟩ := ih (fun k hk => by
        rcases Nat.lt_or_ge N k with q | q
        · exact h k q
        · rw [show k = N by omega]; exact h0)
      exact ⟨n, by omega, h2⟩
    · exact ⟨N + 1, Nat.le_refl _, Or.inr h0, h⟩
theorem PS.isz_un {p : PS} {n m : Nat} (h : p.isz n) (h' : p.isz m) : n = m := by
  rcases Nat.lt_trichotomy n m with q | q | q
  · rcases h'.1 with z | z
    · omega
    · exact absurd (h.2 (m - 1) (by omega)) z
  · exact q
  · rcases h.1 with z | z
    · omega
    · exact absurd (h'.2 (n - 1) (by omega)) z
noncomputable def PS.size (p : PS) : Nat := (Classical.epsilon (fun n : Nat => p.isz n))
theorem PS.size_eq {p : PS} {n : Nat} (h : p.isz n) : p.size = n := PS.isz_un (Classical.epsilon_spec (p := fun n : Nat => p.isz n) ⟨n, h⟩) h
theorem PS.size_isz {p : PS} {N : Nat} (h : p.lt N) : p.isz p.size := by
  obtain ⟨n, -, h2⟩ := PS.isz_ex h
  rw [PS.size_eq h2]; exact h2
theorem PS.size_le {p : PS} {N : Nat} (h : p.lt N) : p.size ≤ N := by
  obtain ⟨n, h1, h2⟩ := PS.isz_ex h
  rw [PS.size_eq h2]; exact h1
theorem PS.lt_size {p : PS} {N : Nat} (h : p.lt N) : p.lt p.size := (PS.size_isz h).2
theorem PS.head_ne {p : PS} {N : Nat} (h : p.lt N) (h0 : 0 < p.size) : p (p.size - 1) ≠ 0 := by
  rcases (PS.size_isz h).1 with z | z
  · omega
  · exact z
theorem PS.lt_mono {p : PS} {n m : Nat} (h : p.lt n) (hm : n ≤ m) : p.lt m := fun k hk => h k (by omega)
theorem PS.lt_zero {p : PS} (h : p.lt 0) : p = PS.zero := PS.ext fun n => h n (Nat.zero_le _)
theorem PS.size_zero : PS.zero.size = 0 := PS.size_eq ⟨Or.inl rfl, fun _ _ => rfl⟩
theorem PS.size_eq_zero {p : PS} {N : Nat} (h : p.lt N) : p.size = 0 ↔ p = PS.zero := by
  constructor
  · intro h0
    have := PS.lt_size h
    rw [h0] at this
    exact PS.lt_zero this
  · intro h0; rw [h0]; exact PS.size_zero
theorem PS.lt_add {p q : PS} {n : Nat} (hp : p.lt n) (hq : q.lt n) : (p.add q).lt n := fun k hk => by
  show p k + q k = 0
  rw [hp k hk, hq k hk]; rfl
theorem PS.lt_sub {p q : PS} {n : Nat} (hp : p.lt n) (hq : q.lt n) : (p.sub q).lt n := fun k hk => by
  show p k - q k = 0
  rw [hp k hk, hq k hk]; rfl
theorem PS.lt_sm {p : PS} {n : Nat} (c : F) (hp : p.lt n) : (p.sm c).lt n := fun k hk => by
  show c * p k = 0
  rw [hp k hk]; grind
theorem PS.lt_sh {p : PS} {n : Nat} (s : Nat) (hp : p.lt n) : (p.sh s).lt (n + s) := fun k hk => by
  show (if k < s then 0 else p (k - s)) = 0
  split
  · rfl
  · exact hp _ (by omega)
theorem PS.lt_mul {p q : PS} {n m : Nat} (hp : p.lt n) (hq : q.lt m) : (p.mul q).lt (n + m - 1) := fun k hk => by
  show fsum _ _ = 0
  refine fsum_zero (fun i hi => ?_)
  rcases Nat.lt_or_ge i n with h | h
  · rw [hq (k - i) (by omega)]; grind
  · rw [hp i h]; grind
theorem PS.lt_mul' {p q : PS} {n m N : Nat} (hp : p.lt n) (hq : q.lt m) (h : n + m ≤ N + 1) : (p.mul q).lt N := PS.lt_mono (PS.lt_mul hp hq) (by omega)
theorem fsum_one {f : Nat → F} {n i : Nat} (hi : i < n) (h : ∀ j, j < n → j ≠ i → f j = 0) : fsum f n = f i := by
  induction n with
  | zero => omega
  | succ n ih =>
    rw [fsum]
    by_cases e : i = n
    · subst e
      rw [fsum_zero (fun j hj => h j (by omega) (by omega))]; grind
    · rw [ih (by omega) (fun j hj hne => h j (by omega) hne), h n (by omega) (by omega)]; grind
theorem PS.mul_head {p q : PS} {n m : Nat} (hp : p.lt (n + 1)) (hq : q.lt (m + 1)) : p.mul q (n + m) = p n * q m := by
  show fsum _ _ = _
  rw [fsum_one (i := n) (by omega) (fun j hj hne => by
    rcases Nat.lt_or_ge n j with h | h
    · rw [hp j h]; grind
    · rw [hq (n + m - j) (by omega)]; grind)]
  rw [show n + m - n = m by omega]
theorem PS.isz_mul {p q : PS} {n m : Nat} (hp : p.isz (n + 1)) (hq : q.isz (m + 1)) : (p.mul q).isz (n + m + 1) := by
  refine ⟨Or.inr ?_, PS.lt_mul' hp.2 hq.2 (by omega)⟩
  rw [show n + m + 1 - 1 = n + m by omega, PS.mul_head hp.2 hq.2]
  intro h
  rcases hp.1 with z | z
  · omega
  · exact (hq.1.resolve_left (by omega)) (F_dom h z)
theorem PS.ne_zero_isz {p : PS} {N : Nat} (h : p.lt N) (h0 : p ≠ PS.zero) : ∃ n, n < N ∧ p.size = n + 1 ∧ p.isz (n + 1) := by
  have h1 := PS.size_isz h
  have h2 := PS.size_le h
  have h3 : p.size ≠ 0 := fun z => h0 ((PS.size_eq_zero h).mp z)
  refine ⟨p.size - 1, by omega, by omega, ?_⟩
  rw [show p.size - 1 + 1 = p.size by omega]; exact h1
theorem PS.size_mul {p q : PS} {N M : Nat} (hp : p.lt N) (hq : q.lt M) (hp0 : p ≠ PS.zero) (hq0 : q ≠ PS.zero) : (p.mul q).size + 1 = p.size + q.size := by
  obtain ⟨n, -, e1, h1⟩ := PS.ne_zero_isz hp hp0
  obtain ⟨m, -, e2, h2⟩ := PS.ne_zero_isz hq hq0
  rw [PS.size_eq (PS.isz_mul h1 h2)]
  omega
theorem PS.mul_ne {p q : PS} {N M : Nat} (hp : p.lt N) (hq : q.lt M) (hp0 : p ≠ PS.zero) (hq0 : q ≠ PS.zero) : p.mul q ≠ PS.zero := by
  intro h
  have h1 := PS.size_mul hp hq hp0 hq0
  rw [h, PS.size_zero] at h1
  have h2 : p.size ≠ 0 := fun z => hp0 ((PS.size_eq_zero hp).mp z)
  have h3 : q.size ≠ 0 := fun z => hq0 ((PS.size_eq_zero hq).mp z)
  omega
theorem PS.isz_sm {p : PS} {c : F} {n : Nat} (hc : c ≠ 0) (h : p.isz n) : (p.sm c).isz n := by
  refine ⟨?_, PS.lt_sm c h.2⟩
  rcases h.1 with z | z
  · exact Or.inl z
  · exact Or.inr (fun q => z (F_dom q hc))
theorem PS.size_sm {p : PS} {c : F} {N : Nat} (hc : c ≠ 0) (h : p.lt N) : (p.sm c).size = p.size := PS.size_eq (PS.isz_sm hc (PS.size_isz h))
/-! ===== a polynomial in the memory of the class: at t, its row of 48 at t + 1 ===== -/
def polyK (Λ : Lay) (t : Nat) : Prop := Λ t = some (.inl (5, [some (.ref (t + 1)), none])) ∧ Λ (t + 1) = some (.inr (0, 48, []))
def CA (μ : Mem) (t : Nat) (p : PS) : Prop := p.lt 48 ∧ ∀ j : Int, 0 ≤ j → j < 48 → μ.1 (t + 1) j = cf p j
def PA (μ : Mem) (t : Nat) (p : PS) : Prop := CA μ t p ∧ μ.1 t 1 = (p.size : Int) - 1
theorem PA.le {μ : Mem} {t : Nat} {p : PS} (h : PA μ t p) : p.size ≤ 48 := PS.size_le h.1.1
theorem PA.deg {μ : Mem} {t : Nat} {p : PS} (h : PA μ t p) : -1 ≤ μ.1 t 1 ∧ μ.1 t 1 < 48 := by
  have := h.le
  have := h.2
  omega
/-- nothing but these cells has changed -/
def Fr (S : List Nat) (μ μ' : Mem) : Prop := (∀ a, a ∉ S → μ'.1 a = μ.1 a) ∧ μ'.2 = μ.2
theorem Fr.rf {S : List Nat} {μ : Mem} : Fr S μ μ := ⟨fun _ _ => rfl, rfl⟩
theorem Fr.trans {S : List Nat} {μ μ1 μ2 : Mem} (h : Fr S μ μ1) (h' : Fr S μ1 μ2) : Fr S μ μ2 := ⟨fun a ha => (h'.1 a ha).trans (h.1 a ha), h'.2.trans h.2⟩
theorem Fr.mono {S S' : List Nat} {μ μ1 : Mem} (h : Fr S μ μ1) (hs : ∀ a, a ∈ S → a ∈ S') : Fr S' μ μ1 := ⟨fun a ha => h.1 a (fun z => ha (hs a z)), h.2⟩
theorem Fr.mI {S : List Nat} {μ : Mem} {a : Nat} {i z : Int} (h : a ∈ S) : Fr S μ (mI μ a i z) := ⟨fun b hb => u2_ne (fun q => hb (q ▸ h)), rfl⟩
theorem PA.kept {μ μ' : Mem} {t : Nat} {p : PS} {S : List Nat} (h : PA μ t p) (hf : Fr S μ μ') (h1 : t ∉ S) (h2 : t + 1 ∉ S) : PA μ' t p :=
  ⟨⟨h.1.1, fun j a b => by rw [hf.1 _ h2]; exact h.1.2 j a b⟩, by rw [hf.1 _ h1]; exact h.2⟩
theorem mI_at {μ : Mem} {a : Nat} {i j z : Int} : (mI μ a i z).1 a j = if j = i then z else μ.1 a j := u2_at
theorem mI_ne {μ : Mem} {a b : Nat} {i z : Int} (h : b ≠ a) : (mI μ a i z).1 b = μ.1 b := u2_ne h
