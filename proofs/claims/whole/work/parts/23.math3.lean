/-! ===== rows that are overwritten from below; division ===== -/
theorem PS.zero_eq : PS.zero = PS.C 0 := PS.ext fun n => by
  show (0 : F) = if n = 0 then 0 else 0
  split <;> rfl
theorem PS.zero_mul (p : PS) : PS.zero.mul p = PS.zero := by
  rw [PS.zero_eq]
  letI := psRing
  show (0 : PS) * p = 0
  grind
theorem PS.mul_zero (p : PS) : p.mul PS.zero = PS.zero := by rw [PS.mul_comm, PS.zero_mul]
theorem PS.add_zero (p : PS) : p.add PS.zero = p := PS.ext fun n => by
  show p n + 0 = p n
  grind
theorem PS.zero_add (p : PS) : PS.zero.add p = p := PS.ext fun n => by
  show 0 + p n = p n
  grind
def PS.mix (p q : PS) (k : Nat) : PS := fun n => if n < k then q n else p n
theorem PS.mix_lt {p q : PS} {k N : Nat} (hp : p.lt N) (hq : q.lt N) : (p.mix q k).lt N := fun n hn => by
  unfold PS.mix
  split
  · exact hq n hn
  · exact hp n hn
theorem PS.mix_start {p q : PS} {k : Nat} (h : ∀ n, n < k → p n = q n) : p.mix q k = p := PS.ext fun n => by
  unfold PS.mix
  split
  · rename_i h1; exact (h n h1).symm
  · rfl
theorem PS.mix_end {p q : PS} {k : Nat} (h : ∀ n, k ≤ n → p n = q n) : p.mix q k = q := PS.ext fun n => by
  unfold PS.mix
  split
  · rfl
  · exact h n (by omega)
theorem cf_mix {p q : PS} {k j : Int} (h0 : 0 ≤ k) (h : k ≤ j) : cf (p.mix q k.toNat) j = cf p j := by
  unfold cf PS.mix
  rw [if_neg (by omega)]
theorem CA.step {m : Mem} {t : Nat} {p q : PS} {k z : Int} (h : CA m t (p.mix q k.toNat)) (hq : q.lt 48) (h0 : 0 ≤ k) (hk : k < 48) (hz : z = cf q k) : CA (mI m (t + 1) k z) t (p.mix q (k + 1).toNat) := by
  refine ⟨fun n hn => ?_, fun j a b => ?_⟩
  · unfold PS.mix
    split
    · exact hq n hn
    · have := h.1 n hn
      unfold PS.mix at this
      rw [if_neg (by omega)] at this
      exact this
  · rw [mI_at]
    by_cases e : j = k
    · subst e
      rw [if_pos rfl, hz]
      unfold cf PS.mix
      rw [if_pos (by omega)]
    · rw [if_neg e, h.2 j a b]
      unfold cf PS.mix
      by_cases e2 : j < k
      · rw [if_pos (by omega), if_pos (by omega)]
      · rw [if_neg (by omega), if_neg (by omega)]
theorem CA.set {m : Mem} {t : Nat} {p : PS} {k z : Int} {c : F} (h : CA m t p) (h0 : 0 ≤ k) (hk : k < 48) (hz : z = (c.val : Int)) : CA (mI m (t + 1) k z) t (p.set k.toNat c) := by
  refine ⟨fun n hn => ?_, fun j a b => ?_⟩
  · unfold PS.set
    rw [if_neg (by omega)]
    exact h.1 n hn
  · rw [mI_at]
    by_cases e : j = k
    · subst e
      rw [if_pos rfl, hz]
      unfold cf PS.set
      rw [if_pos rfl]
    · rw [if_neg e, h.2 j a b]
      unfold cf PS.set
      rw [if_neg (by omega)]
theorem CA.kept {μ μ' : Mem} {t : Nat} {p : PS} {S : List Nat} (h : CA μ t p) (hf : Fr S μ μ') (h2 : t + 1 ∉ S) : CA μ' t p := ⟨h.1, fun j a b => by rw [hf.1 _ h2]; exact h.2 j a b⟩
def PS.putc (p : PS) (k : Int) (c : F) : PS := if k < 0 then p else p.set k.toNat c
theorem PS.set_lt {p : PS} {k N : Nat} {c : F} (h : p.lt N) (hk : k < N) : (p.set k c).lt N := fun n hn => by
  unfold PS.set
  rw [if_neg (by omega)]
  exact h n hn
theorem PS.C_lt (c : F) : (PS.C c).lt 1 := fun n hn => by
  show (if n = 0 then c else 0) = 0
  rw [if_neg (by omega)]
theorem PS.zero_lt (n : Nat) : PS.zero.lt n := fun _ _ => rfl
/-- p + c x^s q -/
def PS.am (p q : PS) (c : F) (s : Nat) : PS := p.add ((q.sm c).sh s)
theorem PS.am_at (p q : PS) (c : F) (s n : Nat) : p.am q c s n = if n < s then p n else p n + c * q (n - s) := by
  show p n + (if n < s then 0 else c * q (n - s)) = _
  split
  · grind
  · rfl
theorem PS.am_lt {p q : PS} {c : F} {s N M : Nat} (hp : p.lt N) (hq : q.lt M) (h : M + s ≤ N) : (p.am q c s).lt N := fun n hn => by
  rw [PS.am_at]
  split
  · exact hp n hn
  · rw [hp n hn, hq (n - s) (by omega)]; grind
theorem PS.sh_mul (s : Nat) (p q : PS) : (p.sh s).mul q = (p.mul q).sh s := by
  induction s with
  | zero =>
    have h : ∀ r : PS, r.sh 0 = r := fun r => PS.ext fun n => by
      show (if n < 0 then 0 else r (n - 0)) = r n
      rw [if_neg (by omega)]; rfl
    rw [h, h]
  | succ s ih =>
    have h : ∀ r : PS, r.sh (s + 1) = (r.sh s).sh 1 := fun r => PS.ext fun n => by
      show (if n < s + 1 then 0 else r (n - (s + 1))) = (if n < 1 then 0 else if n - 1 < s then 0 else r (n - 1 - s))
      by_cases h1 : n < 1
      · rw [if_pos (by omega), if_pos h1]
      · rw [if_neg h1]
        by_cases h2 : n < s + 1
        · rw [if_pos h2, if_pos (by omega)]
        · rw [if_neg h2, if_neg (by omega)]; congr 1; omega
    rw [h, h, ← ih]
    generalize p.sh s = r
    apply PS.ext
    intro n
    cases n with
    | zero =>
      rw [PS.mul_zero']
      show (0 : F) * q 0 = 0
      grind
    | succ n =>
      rw [PS.mul_front]
      have e : (r.sh 1).tl = r := PS.ext fun k => by
        show (if k + 1 < 1 then 0 else r (k + 1 - 1)) = r k
        rw [if_neg (by omega)]; rfl
      have e2 : (r.mul q).sh 1 (n + 1) = r.mul q n := by
        show (if n + 1 < 1 then 0 else r.mul q (n + 1 - 1)) = r.mul q n
        rw [if_neg (by omega)]; rfl
      rw [e, e2]
      show (0 : F) * q (n + 1) + r.mul q n = r.mul q n
      grind
theorem PS.sh_eq (s : Nat) (p : PS) : p.sh s = (PS.one.sh s).mul p := by rw [PS.sh_mul, PS.one_mul]
theorem PS.am_eq (p q : PS) (c : F) (s : Nat) : p.am q c s = p.add (((PS.C c).sh s).mul q) := by
  unfold PS.am
  congr 1
  rw [PS.sh_mul, PS.C_mul]
/-- first coefficients -/
theorem PS.tr_end {p : PS} {k : Nat} (h : p.lt k) : p.tr k = p := PS.ext fun n => by
  unfold PS.tr
  split
  · rfl
  · exact (h n (by omega)).symm
theorem PS.tr_zero (p : PS) : p.tr 0 = PS.zero := PS.ext fun n => by
  unfold PS.tr
  rw [if_neg (by omega)]; rfl
theorem PS.tr_lt {p : PS} {k : Nat} : (p.tr k).lt k := fun n hn => by
  unfold PS.tr
  rw [if_neg (by omega)]
theorem PS.tr_succ (p : PS) (k : Nat) : p.tr (k + 1) = (p.tr k).add ((PS.C (p k)).sh k) := PS.ext fun n => by
  show (if n < k + 1 then p n else 0) = (if n < k then p n else 0) + (if n < k then 0 else if n - k = 0 then p k else 0)
  by_cases h : n < k
  · rw [if_pos (by omega), if_pos h, if_pos h]; grind
  · rw [if_neg h, if_neg h]
    by_cases h2 : n = k
    · subst h2
      rw [if_pos (by omega), if_pos (by omega)]; grind
    · rw [if_neg (by omega), if_neg (by omega)]; grind
theorem PS.tr_mul_succ (p q : PS) (k : Nat) : (p.tr (k + 1)).mul q = ((p.tr k).mul q).am q (p k) k := by
  rw [PS.am_eq, PS.tr_succ, PS.add_mul]
theorem PS.der_lt {p : PS} {N : Nat} (h : p.lt (N + 1)) : p.der.lt N := fun n hn => by
  show _ * p (n + 1) = 0
  rw [h (n + 1) (by omega)]; grind
theorem PS.sub_eq_zero {p q : PS} (h : p.sub q = PS.zero) : p = q := PS.ext fun n => by
  have h1 : p n - q n = 0 := congrFun h n
  grind
/-- division: the rest has a lower degree -/
theorem PS.div_un {d q q' r r' : PS} {m N : Nat} (hd : d.isz (m + 1)) (hq : q.lt N) (hq' : q'.lt N) (hr : r.lt m) (hr' : r'.lt m) (h : (q.mul d).add r = (q'.mul d).add r') : q = q' ∧ r = r' := by
  have e : (q.sub q').mul d = r'.sub r := by
    letI := psRing
    have h' : q * d + r = q' * d + r' := h
    show (q - q') * d = r' - r
    grind
  by_cases h0 : q.sub q' = PS.zero
  · have e1 := PS.sub_eq_zero h0
    subst e1
    refine ⟨rfl, ?_⟩
    rw [h0] at e
    have : r'.sub r = PS.zero := by
      rw [← e, PS.zero_mul]
    exact (PS.sub_eq_zero this).symm
  · obtain ⟨n, -, -, h1⟩ := PS.ne_zero_isz (PS.lt_sub hq hq') h0
    have h2 := PS.isz_mul h1 hd
    rw [e] at h2
    rcases h2.1 with z | z
    · omega
    · exact absurd (PS.lt_sub hr' hr (n + m + 1 - 1) (by omega)) z
noncomputable def PS.md (p d : PS) : PS := @Classical.epsilon PS ⟨PS.zero⟩ (fun r => ∃ q : PS, (∃ N, q.lt N) ∧ p = (q.mul d).add r ∧ r.lt (d.size - 1))
noncomputable def PS.dv (p d : PS) : PS := @Classical.epsilon PS ⟨PS.zero⟩ (fun q => (∃ N, q.lt N) ∧ p = (q.mul d).add (p.md d))
theorem PS.md_eq {p d q r : PS} {m N : Nat} (hd : d.isz (m + 1)) (hq : q.lt N) (hr : r.lt m) (h : p = (q.mul d).add r) : p.md d = r ∧ p.dv d = q := by
  have hs : d.size - 1 = m := by rw [PS.size_eq hd]; omega
  have h1 : ∃ q' : PS, (∃ N, q'.lt N) ∧ p = (q'.mul d).add (p.md d) ∧ (p.md d).lt (d.size - 1) := @Classical.epsilon_spec PS (fun r => ∃ q : PS, (∃ N, q.lt N) ∧ p = (q.mul d).add r ∧ r.lt (d.size - 1)) ⟨r, q, ⟨N, hq⟩, h, by rw [hs]; exact hr⟩
  obtain ⟨q1, ⟨N1, h2⟩, h3, h4⟩ := h1
  rw [hs] at h4
  have h5 := PS.div_un hd (PS.lt_mono hq (Nat.le_add_right N N1)) (PS.lt_mono h2 (Nat.le_add_left N1 N)) hr h4 (h.symm.trans h3)
  refine ⟨h5.2.symm, ?_⟩
  have h6 : (∃ N, (p.dv d).lt N) ∧ p = ((p.dv d).mul d).add (p.md d) := @Classical.epsilon_spec PS (fun q => (∃ N, q.lt N) ∧ p = (q.mul d).add (p.md d)) ⟨q1, ⟨N1, h2⟩, h3⟩
  obtain ⟨⟨N2, h7⟩, h8⟩ := h6
  exact (PS.div_un hd (PS.lt_mono h7 (Nat.le_add_right N2 N)) (PS.lt_mono hq (Nat.le_add_left N N2)) h4 hr (h8.symm.trans h)).1
theorem PS.strike_at {P D : PS} {m k : Nat} (hD : D.isz (m + 1)) (hP : P.lt (k + 1)) (hk : m ≤ k) : (P.am D (- (P k * finv (D m))) (k - m)).lt k := fun n hn => by
  rw [PS.am_at, if_neg (by omega)]
  by_cases e : n = k
  · subst e
    rw [show n - (n - m) = m by omega]
    have h1 := finv_mul (D m) (hD.1.resolve_left (by omega))
    grind
  · rw [hP n (by omega), hD.2 (n - (k - m)) (by omega)]; grind
/-- the value at a number: the coefficients from k on -/
def tailv (p : PS) (x : F) (k : Nat) : F := fsum (fun i => p (i + k) * fpw x i) (200 - k)
theorem fpw_succ (x : F) (i : Nat) : fpw x (i + 1) = x * fpw x i := by rw [fpw]; grind
theorem tailv_step {p : PS} {x : F} {k : Nat} (hk : k < 200) : tailv p x k = p k + x * tailv p x (k + 1) := by
  unfold tailv
  rw [show 200 - k = (200 - (k + 1)) + 1 by omega, fsum_front, ← fsum_mul]
  congr 1
  · rw [fpw, Nat.zero_add]; grind
  · exact fsum_congr (fun i _ => by rw [fpw_succ, show i + 1 + k = i + (k + 1) by omega]; grind)
theorem tailv_zero {p : PS} {x : F} {k : Nat} (h : p.lt k) : tailv p x k = 0 := fsum_zero (fun i _ => by rw [h (i + k) (by omega)]; grind)
def pev (p : PS) (x : F) : F := tailv p x 0
