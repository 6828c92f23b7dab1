/-! ===== Euclid with factors ===== -/
noncomputable def PS.ex : Nat → PS → PS → PS → PS → PS × PS
  | 0, _, B, _, t => (B, t)
  | n + 1, A, B, s, t => if B.size ≤ 1 then (B, t) else PS.ex n B (A.md B) t (s.sub ((A.dv B).mul t))
theorem PS.ex_end {n : Nat} {A B s t : PS} (h : B.size ≤ 1) : PS.ex n A B s t = (B, t) := by
  cases n with
  | zero => rfl
  | succ n => rw [PS.ex, if_pos h]
theorem PS.ex_step {n : Nat} {A B s t : PS} (h : ¬ B.size ≤ 1) : PS.ex (n + 1) A B s t = PS.ex n B (A.md B) t (s.sub ((A.dv B).mul t)) := by rw [PS.ex, if_neg h]
theorem PS.ne_of_size {p : PS} (h : 0 < p.size) : p ≠ PS.zero := fun e => by rw [e, PS.size_zero] at h; omega
theorem PS.ex_fuel : ∀ (n m : Nat) (A B s t : PS) (N : Nat), A.lt N → B.lt N → B.size < n → B.size < m → PS.ex n A B s t = PS.ex m A B s t := by
  intro n
  induction n with
  | zero => intro m A B s t N _ _ h; omega
  | succ n ih =>
    intro m A B s t N hA hB h1 h2
    cases m with
    | zero => omega
    | succ m =>
      by_cases h0 : B.size ≤ 1
      · rw [PS.ex_end h0, PS.ex_end h0]
      · rw [PS.ex_step h0, PS.ex_step h0]
        have h3 := PS.md_size hA hB (PS.ne_of_size (by omega))
        exact ih m B _ _ _ N hB h3.2.1 (by omega) (by omega)
/-- the inverse of a modulo m -/
noncomputable def PS.inv (a m : PS) : PS := (PS.ex 200 m (a.md m) PS.zero PS.one).2.sm (finv (fi (hdI (PS.ex 200 m (a.md m) PS.zero PS.one).1)))
theorem PS.dv_lt {p D : PS} {N m : Nat} (hD : D.isz (m + 1)) (hp : p.lt (N + m)) : (p.dv D).lt N := by
  have h := PS.div_spec hD hp
  have hq := h.2.2
  by_cases h0 : p.dv D = PS.zero
  · rw [h0]; exact PS.zero_lt _
  · obtain ⟨n, -, -, h1⟩ := PS.ne_zero_isz hq h0
    rcases Nat.lt_or_ge n N with z | z
    · exact PS.lt_mono h1.2 z
    · exfalso
      have h2 := PS.isz_mul h1 hD
      rcases h2.1 with w | w
      · omega
      · have h3 := congrFun h.1 (n + m + 1 - 1)
        rw [hp _ (by omega)] at h3
        have h4 : ((p.dv D).mul D).add (p.md D) (n + m + 1 - 1) = ((p.dv D).mul D) (n + m + 1 - 1) + (p.md D) (n + m + 1 - 1) := rfl
        rw [h4, h.2.1 (n + m + 1 - 1) (by omega)] at h3
        apply w
        have h5 : ((p.dv D).mul D) (n + m + 1 - 1) + 0 = ((p.dv D).mul D) (n + m + 1 - 1) := by grind
        rw [h5] at h3
        exact h3.symm
theorem PS.sub_am {s0 Q T : PS} {c : F} {s : Nat} : (s0.sub (Q.mul T)).am T (-c) s = s0.sub ((Q.add ((PS.C c).sh s)).mul T) := by
  rw [PS.am_eq]
  have e : (PS.C (-c)).sh s = PS.neg ((PS.C c).sh s) := PS.ext fun n => by
    show (if n < s then 0 else if n - s = 0 then - c else 0) = - (if n < s then 0 else if n - s = 0 then c else 0)
    split
    · grind
    · split <;> grind
  rw [e]
  generalize (PS.C c).sh s = X
  letI := psRing
  show (s0 - Q * T) + (-X) * T = s0 - (Q + X) * T
  grind
theorem PS.sub_zero_mul (s0 T : PS) : s0.sub (PS.zero.mul T) = s0 := by
  rw [PS.zero_mul]
  exact PS.ext fun n => by
    show s0 n - 0 = s0 n
    grind
theorem PS.am0 (p q : PS) (c : F) : p.am q c 0 = p.add (q.sm c) := PS.ext fun n => by
  rw [PS.am_at, if_neg (by omega)]; rfl
