/-! ===== polynomials over the numbers modulo 101, as functions from powers to coefficients ===== -/
abbrev F : Type := Fin 101
def fpw (a : F) : Nat → F
  | 0 => 1
  | n + 1 => fpw a n * a
def finv (a : F) : F := fpw a 99
theorem finv_mul : ∀ a : F, a ≠ 0 → a * finv a = 1 := by decide +kernel
theorem finv_zero : finv 0 = 0 := by decide +kernel
theorem F_dom {a b : F} (h : a * b = 0) (ha : a ≠ 0) : b = 0 := by
  have h1 := finv_mul a ha
  have h2 : b = (a * finv a) * b := by rw [h1]; grind
  rw [h2]
  have : a * finv a * b = finv a * (a * b) := by grind
  rw [this, h]; grind
theorem finv_ne {a : F} (ha : a ≠ 0) : finv a ≠ 0 := by
  intro h
  have := finv_mul a ha
  rw [h] at this
  revert this
  have : a * 0 = 0 := by grind
  rw [this]
  decide
def PS : Type := Nat → F
def PS.zero : PS := fun _ => 0
def PS.C (c : F) : PS := fun n => if n = 0 then c else 0
def PS.one : PS := PS.C 1
def PS.add (p q : PS) : PS := fun n => p n + q n
def PS.neg (p : PS) : PS := fun n => - p n
def PS.sub (p q : PS) : PS := fun n => p n - q n
def PS.sm (c : F) (p : PS) : PS := fun n => c * p n
/-- times x^k -/
def PS.sh (k : Nat) (p : PS) : PS := fun n => if n < k then 0 else p (n - k)
def PS.tl (p : PS) : PS := fun n => p (n + 1)
def fsum (f : Nat → F) : Nat → F
  | 0 => 0
  | n + 1 => fsum f n + f n
def PS.mul (p q : PS) : PS := fun n => fsum (fun i => p i * q (n - i)) (n + 1)
theorem PS.ext {p q : PS} (h : ∀ n, p n = q n) : p = q := funext h
theorem fsum_congr {f g : Nat → F} {n : Nat} (h : ∀ i, i < n → f i = g i) : fsum f n = fsum g n := by
  induction n with
  | zero => rfl
  | succ n ih =>
    rw [fsum, fsum, ih (fun i hi => h i (by omega)), h n (by omega)]
theorem fsum_zero {f : Nat → F} {n : Nat} (h : ∀ i, i < n → f i = 0) : fsum f n = 0 := by
  induction n with
  | zero => rfl
  | succ n ih =>
    rw [fsum, ih (fun i hi => h i (by omega)), h n (by omega)]; rfl
theorem fsum_add (f g : Nat → F) (n : Nat) : fsum (fun i => f i + g i) n = fsum f n + fsum g n := by
  induction n with
  | zero => rfl
  | succ n ih => rw [fsum, fsum, fsum, ih]; grind
theorem fsum_mul (c : F) (f : Nat → F) (n : Nat) : fsum (fun i => c * f i) n = c * fsum f n := by
  induction n with
  | zero => show (0 : F) = c * 0; grind
  | succ n ih => rw [fsum, fsum, ih]; grind
theorem fsum_neg (f : Nat → F) (n : Nat) : fsum (fun i => - f i) n = - fsum f n := by
  induction n with
  | zero => show (0 : F) = - 0; grind
  | succ n ih => rw [fsum, fsum, ih]; grind
theorem fsum_front (f : Nat → F) (n : Nat) : fsum f (n + 1) = f 0 + fsum (fun i => f (i + 1)) n := by
  induction n with
  | zero => show (0 : F) + f 0 = f 0 + 0; grind
  | succ n ih => rw [fsum, ih, fsum]; grind
theorem PS.mul_zero' (p q : PS) : p.mul q 0 = p 0 * q 0 := by
  show (0 : F) + p 0 * q (0 - 0) = _
  grind
theorem PS.mul_front (p q : PS) (n : Nat) : p.mul q (n + 1) = p 0 * q (n + 1) + (p.tl.mul q) n := by
  show fsum _ (n + 1 + 1) = _
  rw [fsum_front]
  congr 1
  exact fsum_congr (fun i hi => by show p (i + 1) * q (n + 1 - (i + 1)) = p (i + 1) * q (n - i); congr 2; omega)
theorem PS.mul_back (p q : PS) (n : Nat) : p.mul q (n + 1) = p (n + 1) * q 0 + (p.mul q.tl) n := by
  show fsum _ (n + 1) + p (n + 1) * q (n + 1 - (n + 1)) = _
  rw [Nat.sub_self]
  have : fsum (fun i => p i * q (n + 1 - i)) (n + 1) = (p.mul q.tl) n :=
    fsum_congr (fun i hi => by show p i * q (n + 1 - i) = p i * q (n - i + 1); congr 2; omega)
  rw [this]; grind
theorem PS.mul_comm' (n : Nat) : ∀ p q : PS, p.mul q n = q.mul p n := by
  induction n with
  | zero => intro p q; rw [PS.mul_zero', PS.mul_zero']; grind
  | succ n ih => intro p q; rw [PS.mul_front, PS.mul_back, ih]; grind
theorem PS.mul_comm (p q : PS) : p.mul q = q.mul p := PS.ext (fun n => PS.mul_comm' n p q)
theorem PS.add_mul (p q r : PS) : (p.add q).mul r = (p.mul r).add (q.mul r) := by
  apply PS.ext; intro n
  show fsum (fun i => (p i + q i) * r (n - i)) (n + 1) = fsum _ _ + fsum _ _
  rw [← fsum_add]
  exact fsum_congr (fun i _ => by grind)
theorem PS.sm_mul (c : F) (p q : PS) : (p.sm c).mul q = (p.mul q).sm c := by
  apply PS.ext; intro n
  show fsum (fun i => (c * p i) * q (n - i)) (n + 1) = c * fsum _ _
  rw [← fsum_mul]
  exact fsum_congr (fun i _ => by grind)
theorem PS.tl_mul (p q : PS) : (p.mul q).tl = (q.tl.sm (p 0)).add (p.tl.mul q) := by
  apply PS.ext; intro n
  exact PS.mul_front p q n
theorem PS.mul_assoc' (n : Nat) : ∀ p q r : PS, (p.mul q).mul r n = p.mul (q.mul r) n := by
  induction n with
  | zero => intro p q r; rw [PS.mul_zero', PS.mul_zero', PS.mul_zero', PS.mul_zero']; grind
  | succ n ih =>
    intro p q r
    rw [PS.mul_front, PS.mul_front p, PS.tl_mul, PS.add_mul, PS.sm_mul, PS.mul_zero', PS.mul_front q r]
    show _ + (p 0 * (q.tl.mul r) n + (p.tl.mul q).mul r n) = _
    rw [ih]; grind
theorem PS.mul_assoc (p q r : PS) : (p.mul q).mul r = p.mul (q.mul r) := PS.ext (fun n => PS.mul_assoc' n p q r)
theorem PS.one_mul (p : PS) : PS.one.mul p = p := by
  apply PS.ext; intro n
  show fsum (fun i => (if i = 0 then (1 : F) else 0) * p (n - i)) (n + 1) = p n
  rw [fsum_front, fsum_zero (fun i _ => by rw [if_neg (by omega)]; grind)]
  rw [if_pos rfl, Nat.sub_zero]; grind
theorem PS.C_mul (c : F) (p : PS) : (PS.C c).mul p = p.sm c := by
  have h : PS.C c = PS.one.sm c := by
    apply PS.ext; intro n
    show (if n = 0 then c else 0) = c * (if n = 0 then 1 else 0)
    split <;> grind
  rw [h, PS.sm_mul, PS.one_mul]
def fic : Int → F
  | .ofNat n => Fin.ofNat 101 n
  | .negSucc n => - Fin.ofNat 101 (n + 1)
theorem fic_neg (z : Int) : fic (-z) = - fic z := by
  cases z with
  | ofNat n =>
    cases n with
    | zero => decide
    | succ n => rfl
  | negSucc n =>
    show Fin.ofNat 101 (n + 1) = - - Fin.ofNat 101 (n + 1)
    grind
theorem F_succ (a : Nat) : (OfNat.ofNat (a + 1) : F) = (OfNat.ofNat a : F) + 1 := Lean.Grind.Semiring.ofNat_succ (α := F) a
/-- the ring, for grind -/
def psRing : Lean.Grind.CommRing PS :=
  { add := PS.add, mul := PS.mul, neg := PS.neg, sub := PS.sub
    natCast := ⟨fun n => PS.C (OfNat.ofNat n)⟩
    ofNat := fun n => ⟨PS.C (OfNat.ofNat n)⟩
    nsmul := ⟨fun n p => (PS.C (OfNat.ofNat n)).mul p⟩
    npow := ⟨fun p n => Nat.rec PS.one (fun _ r => PS.mul r p) n⟩
    intCast := ⟨fun z => PS.C (fic z)⟩
    zsmul := ⟨fun z p => (PS.C (fic z)).mul p⟩
    add_zero := fun p => PS.ext fun n => by show p n + (if n = 0 then 0 else 0) = p n; split <;> grind
    add_comm := fun p q => PS.ext fun n => by show p n + q n = q n + p n; grind
    add_assoc := fun p q r => PS.ext fun n => by show p n + q n + r n = p n + (q n + r n); grind
    mul_assoc := PS.mul_assoc
    mul_one := fun p => (PS.mul_comm p PS.one).trans (PS.one_mul p)
    one_mul := PS.one_mul
    left_distrib := fun p q r => by show PS.mul p (PS.add q r) = PS.add (PS.mul p q) (PS.mul p r); rw [PS.mul_comm, PS.add_mul, PS.mul_comm q, PS.mul_comm r]
    right_distrib := PS.add_mul
    zero_mul := fun p => by
      show (PS.C 0).mul p = PS.C 0
      rw [PS.C_mul]
      exact PS.ext fun n => by show 0 * p n = (if n = 0 then 0 else 0); split <;> grind
    mul_zero := fun p => by
      show p.mul (PS.C 0) = PS.C 0
      rw [PS.mul_comm, PS.C_mul]
      exact PS.ext fun n => by show 0 * p n = (if n = 0 then 0 else 0); split <;> grind
    pow_zero := fun _ => rfl
    pow_succ := fun _ _ => rfl
    ofNat_succ := fun a => PS.ext fun n => by
      show (if n = 0 then (OfNat.ofNat (a + 1) : F) else 0) = (if n = 0 then (OfNat.ofNat a : F) else 0) + (if n = 0 then (1 : F) else 0)
      split
      · exact F_succ a
      · grind
    ofNat_eq_natCast := fun a => rfl
    nsmul_eq_natCast_mul := fun _ _ => rfl
    neg_add_cancel := fun p => PS.ext fun n => by show - p n + p n = (if n = 0 then 0 else 0); split <;> grind
    sub_eq_add_neg := fun p q => PS.ext fun n => by show p n - q n = p n + - q n; grind
    neg_zsmul := fun z p => by
      show (PS.C (fic (-z))).mul p = PS.neg ((PS.C (fic z)).mul p)
      rw [PS.C_mul, PS.C_mul, fic_neg]
      exact PS.ext fun n => by
        show - fic z * p n = - (fic z * p n)
        grind
    zsmul_natCast_eq_nsmul := fun n p => rfl
    intCast_ofNat := fun a => rfl
    intCast_neg := fun z => PS.ext fun n => by
      show (if n = 0 then fic (-z) else 0) = - (if n = 0 then fic z else 0)
      rw [fic_neg]
      split <;> grind
    mul_comm := PS.mul_comm }
theorem PS.test (a b c : PS) : (a.add b).mul c = (c.mul b).add (a.mul c) := by
  letI := psRing
  show (a + b) * c = c * b + a * c
  grind
