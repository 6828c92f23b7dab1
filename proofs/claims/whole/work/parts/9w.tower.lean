/-! ===== rings in which a polynomial falls into linear factors ===== -/
def RgL {B : Type} (add mul : B → B → B) (neg : B → B) (z o : B) : Prop :=
  (∀ a b, add a b = add b a) ∧ (∀ a b c, add (add a b) c = add a (add b c)) ∧ (∀ a, add a z = a) ∧ (∀ a, add (neg a) a = z) ∧ (∀ a b, mul a b = mul b a) ∧ (∀ a b c, mul (mul a b) c = mul a (mul b c)) ∧ (∀ a, mul o a = a) ∧ (∀ a b c, mul (add a b) c = add (mul a c) (mul b c))
def mkN {B : Type} (add : B → B → B) (z o : B) : Nat → B
  | 0 => z
  | 1 => o
  | n + 2 => add (mkN add z o (n + 1)) o
def mkZ {B : Type} (add : B → B → B) (neg : B → B) (z o : B) : Int → B
  | .ofNat n => mkN add z o n
  | .negSucc n => neg (mkN add z o (n + 1))
theorem RgL.zm {B : Type} {add mul : B → B → B} {neg : B → B} {z o : B} (h : RgL add mul neg z o) (a : B) : mul z a = z := by
  obtain ⟨h1, h2, h3, h4, h5, h6, h7, h8⟩ := h
  have e : add (mul z a) (mul z a) = mul z a := by rw [← h8, h3]
  calc mul z a = add (mul z a) z := (h3 _).symm
    _ = add z (mul z a) := h1 _ _
    _ = add (add (neg (mul z a)) (mul z a)) (mul z a) := by rw [h4]
    _ = add (neg (mul z a)) (add (mul z a) (mul z a)) := h2 _ _ _
    _ = add (neg (mul z a)) (mul z a) := by rw [e]
    _ = z := h4 _
theorem RgL.un {B : Type} {add mul : B → B → B} {neg : B → B} {z o : B} (h : RgL add mul neg z o) {a b : B} (e : add b a = z) : b = neg a := by
  obtain ⟨h1, h2, h3, h4, h5, h6, h7, h8⟩ := h
  calc b = add b z := (h3 _).symm
    _ = add b (add (neg a) a) := by rw [h4]
    _ = add b (add a (neg a)) := by rw [h1 (neg a)]
    _ = add (add b a) (neg a) := (h2 _ _ _).symm
    _ = add z (neg a) := by rw [e]
    _ = add (neg a) z := h1 _ _
    _ = neg a := h3 _
theorem RgL.nn {B : Type} {add mul : B → B → B} {neg : B → B} {z o : B} (h : RgL add mul neg z o) (a : B) : neg (neg a) = a := by
  have e : add a (neg a) = z := by rw [h.1, h.2.2.2.1]
  exact (h.un e).symm
theorem RgL.nz {B : Type} {add mul : B → B → B} {neg : B → B} {z o : B} (h : RgL add mul neg z o) : neg z = z := (h.un (h.2.2.1 z)).symm
theorem RgL.nm {B : Type} {add mul : B → B → B} {neg : B → B} {z o : B} (h : RgL add mul neg z o) (a b : B) : mul (neg a) b = neg (mul a b) := h.un (by
  rw [← h.2.2.2.2.2.2.2, h.2.2.2.1, h.zm])
theorem mkZ_neg {B : Type} {add mul : B → B → B} {neg : B → B} {z o : B} (h : RgL add mul neg z o) (i : Int) : mkZ add neg z o (-i) = neg (mkZ add neg z o i) := by
  cases i with
  | ofNat n =>
    cases n with
    | zero => exact h.nz.symm
    | succ n => rfl
  | negSucc n => exact (h.nn _).symm
abbrev mkRing {B : Type} (add mul : B → B → B) (neg : B → B) (z o : B) (h : RgL add mul neg z o) : Lean.Grind.CommRing B :=
  { add := add, mul := mul, neg := neg, sub := fun a b => add a (neg b)
    natCast := ⟨mkN add z o⟩
    ofNat := fun n => ⟨mkN add z o n⟩
    nsmul := ⟨fun n p => mul (mkN add z o n) p⟩
    npow := ⟨fun p n => Nat.rec o (fun _ r => mul r p) n⟩
    intCast := ⟨mkZ add neg z o⟩
    zsmul := ⟨fun i p => mul (mkZ add neg z o i) p⟩
    add_zero := h.2.2.1
    add_comm := h.1
    add_assoc := h.2.1
    mul_assoc := h.2.2.2.2.2.1
    mul_one := fun p => (h.2.2.2.2.1 p o).trans (h.2.2.2.2.2.2.1 p)
    one_mul := h.2.2.2.2.2.2.1
    left_distrib := fun p q r => by show mul p (add q r) = add (mul p q) (mul p r); rw [h.2.2.2.2.1, h.2.2.2.2.2.2.2, h.2.2.2.2.1 q, h.2.2.2.2.1 r]
    right_distrib := h.2.2.2.2.2.2.2
    zero_mul := h.zm
    mul_zero := fun p => (h.2.2.2.2.1 p z).trans (h.zm p)
    pow_zero := fun _ => rfl
    pow_succ := fun _ _ => rfl
    ofNat_succ := fun a => by
      show mkN add z o (a + 1) = add (mkN add z o a) o
      cases a with
      | zero => show o = add z o; rw [h.1, h.2.2.1]
      | succ a => rfl
    ofNat_eq_natCast := fun a => rfl
    nsmul_eq_natCast_mul := fun _ _ => rfl
    neg_add_cancel := h.2.2.2.1
    sub_eq_add_neg := fun p q => rfl
    neg_zsmul := fun i p => by
      show mul (mkZ add neg z o (-i)) p = neg (mul (mkZ add neg z o i) p)
      rw [mkZ_neg h, h.nm]
    zsmul_natCast_eq_nsmul := fun n p => rfl
    intCast_ofNat := fun n => rfl
    intCast_neg := fun i => mkZ_neg h i
    mul_comm := h.2.2.2.2.1 }
def gs {B : Type} [Lean.Grind.CommRing B] (f : Nat → B) : Nat → B
  | 0 => 0
  | n + 1 => gs f n + f n
theorem gs_congr {B : Type} [Lean.Grind.CommRing B] {f g : Nat → B} {n : Nat} (h : ∀ i, i < n → f i = g i) : gs f n = gs g n := by
  induction n with
  | zero => rfl
  | succ n ih => rw [gs, gs, ih (fun i hi => h i (by omega)), h n (by omega)]
theorem gs_zero {B : Type} [Lean.Grind.CommRing B] {f : Nat → B} {n : Nat} (h : ∀ i, i < n → f i = 0) : gs f n = 0 := by
  induction n with
  | zero => rfl
  | succ n ih => rw [gs, ih (fun i hi => h i (by omega)), h n (by omega)]; grind
theorem gs_add {B : Type} [Lean.Grind.CommRing B] (f g : Nat → B) (n : Nat) : gs (fun i => f i + g i) n = gs f n + gs g n := by
  induction n with
  | zero => show (0 : B) = 0 + 0; grind
  | succ n ih => rw [gs, gs, gs, ih]; grind
theorem gs_mul {B : Type} [Lean.Grind.CommRing B] (c : B) (f : Nat → B) (n : Nat) : gs (fun i => c * f i) n = c * gs f n := by
  induction n with
  | zero => show (0 : B) = c * 0; grind
  | succ n ih => rw [gs, gs, ih]; grind
theorem gs_front {B : Type} [Lean.Grind.CommRing B] (f : Nat → B) (n : Nat) : gs f (n + 1) = f 0 + gs (fun i => f (i + 1)) n := by
  induction n with
  | zero => show (0 : B) + f 0 = f 0 + 0; grind
  | succ n ih => rw [gs, ih, gs]; grind
theorem gs_ext {B : Type} [Lean.Grind.CommRing B] {f : Nat → B} {n m : Nat} (hm : n ≤ m) (h : ∀ i, n ≤ i → i < m → f i = 0) : gs f m = gs f n := by
  induction m with
  | zero => rw [show n = 0 by omega]
  | succ m ih =>
    by_cases c : n = m + 1
    · rw [c]
    · rw [gs, h m (by omega) (by omega), ih (by omega) (fun i h0 h1 => h i h0 (by omega))]; grind
/-- power series over B -/
def Gp (B : Type) : Type := Nat → B
def Gp.C {B : Type} [Lean.Grind.CommRing B] (c : B) : Gp B := fun n => if n = 0 then c else 0
def Gp.add {B : Type} [Lean.Grind.CommRing B] (p q : Gp B) : Gp B := fun n => p n + q n
def Gp.neg {B : Type} [Lean.Grind.CommRing B] (p : Gp B) : Gp B := fun n => - p n
def Gp.sm {B : Type} [Lean.Grind.CommRing B] (c : B) (p : Gp B) : Gp B := fun n => c * p n
def Gp.tl {B : Type} (p : Gp B) : Gp B := fun n => p (n + 1)
def Gp.mul {B : Type} [Lean.Grind.CommRing B] (p q : Gp B) : Gp B := fun n => gs (fun i => p i * q (n - i)) (n + 1)
theorem Gp.ext {B : Type} {p q : Gp B} (h : ∀ n, p n = q n) : p = q := funext h
theorem Gp.mul_zero' {B : Type} [Lean.Grind.CommRing B] (p q : Gp B) : p.mul q 0 = p 0 * q 0 := by
  show (0 : B) + p 0 * q (0 - 0) = _
  grind
theorem Gp.mul_front {B : Type} [Lean.Grind.CommRing B] (p q : Gp B) (n : Nat) : p.mul q (n + 1) = p 0 * q (n + 1) + (p.tl.mul q) n := by
  show gs _ (n + 1 + 1) = _
  rw [gs_front]
  congr 1
  exact gs_congr (fun i hi => by show p (i + 1) * q (n + 1 - (i + 1)) = p (i + 1) * q (n - i); congr 2; omega)
theorem Gp.mul_back {B : Type} [Lean.Grind.CommRing B] (p q : Gp B) (n : Nat) : p.mul q (n + 1) = p (n + 1) * q 0 + (p.mul q.tl) n := by
  show gs _ (n + 1) + p (n + 1) * q (n + 1 - (n + 1)) = _
  rw [Nat.sub_self]
  have : gs (fun i => p i * q (n + 1 - i)) (n + 1) = (p.mul q.tl) n :=
    gs_congr (fun i hi => by show p i * q (n + 1 - i) = p i * q (n - i + 1); congr 2; omega)
  rw [this]; grind
theorem Gp.mul_comm' {B : Type} [Lean.Grind.CommRing B] (n : Nat) : ∀ p q : Gp B, p.mul q n = q.mul p n := by
  induction n with
  | zero => intro p q; rw [Gp.mul_zero', Gp.mul_zero']; grind
  | succ n ih => intro p q; rw [Gp.mul_front, Gp.mul_back, ih]; grind
theorem Gp.mul_comm {B : Type} [Lean.Grind.CommRing B] (p q : Gp B) : p.mul q = q.mul p := Gp.ext (fun n => Gp.mul_comm' n p q)
theorem Gp.add_mul {B : Type} [Lean.Grind.CommRing B] (p q r : Gp B) : (p.add q).mul r = (p.mul r).add (q.mul r) := by
  apply Gp.ext; intro n
  show gs (fun i => (p i + q i) * r (n - i)) (n + 1) = gs _ _ + gs _ _
  rw [← gs_add]
  exact gs_congr (fun i _ => by grind)
theorem Gp.sm_mul {B : Type} [Lean.Grind.CommRing B] (c : B) (p q : Gp B) : (p.sm c).mul q = (p.mul q).sm c := by
  apply Gp.ext; intro n
  show gs (fun i => (c * p i) * q (n - i)) (n + 1) = c * gs _ _
  rw [← gs_mul]
  exact gs_congr (fun i _ => by grind)
theorem Gp.tl_mul {B : Type} [Lean.Grind.CommRing B] (p q : Gp B) : (p.mul q).tl = (q.tl.sm (p 0)).add (p.tl.mul q) := by
  apply Gp.ext; intro n
  exact Gp.mul_front p q n
theorem Gp.mul_assoc' {B : Type} [Lean.Grind.CommRing B] (n : Nat) : ∀ p q r : Gp B, (p.mul q).mul r n = p.mul (q.mul r) n := by
  induction n with
  | zero => intro p q r; rw [Gp.mul_zero', Gp.mul_zero', Gp.mul_zero', Gp.mul_zero']; grind
  | succ n ih =>
    intro p q r
    rw [Gp.mul_front, Gp.mul_front p, Gp.tl_mul, Gp.add_mul, Gp.sm_mul, Gp.mul_zero', Gp.mul_front q r]
    show _ + (p 0 * (q.tl.mul r) n + (p.tl.mul q).mul r n) = _
    rw [ih]; grind
theorem Gp.mul_assoc {B : Type} [Lean.Grind.CommRing B] (p q r : Gp B) : (p.mul q).mul r = p.mul (q.mul r) := Gp.ext (fun n => Gp.mul_assoc' n p q r)
theorem Gp.C_mul {B : Type} [Lean.Grind.CommRing B] (c : B) (p : Gp B) : (Gp.C c).mul p = p.sm c := by
  apply Gp.ext; intro n
  show gs (fun i => (if i = 0 then c else 0) * p (n - i)) (n + 1) = c * p n
  rw [gs_front, gs_zero (fun i _ => by rw [if_neg (by omega)]; grind)]
  rw [if_pos rfl, Nat.sub_zero]; grind
theorem Gp.one_mul {B : Type} [Lean.Grind.CommRing B] (p : Gp B) : (Gp.C 1).mul p = p := by
  rw [Gp.C_mul]; exact Gp.ext fun n => by show 1 * p n = p n; grind
theorem Gp.rgl {B : Type} [Lean.Grind.CommRing B] : RgL (B := Gp B) Gp.add Gp.mul Gp.neg (Gp.C 0) (Gp.C 1) :=
  ⟨fun p q => Gp.ext fun n => by show p n + q n = q n + p n; grind, fun p q r => Gp.ext fun n => by show p n + q n + r n = p n + (q n + r n); grind,
   fun p => Gp.ext fun n => by show p n + (if n = 0 then 0 else 0) = p n; split <;> grind, fun p => Gp.ext fun n => by show - p n + p n = (if n = 0 then 0 else 0); split <;> grind, Gp.mul_comm, Gp.mul_assoc, Gp.one_mul, Gp.add_mul⟩
def Gp.lt {B : Type} [Lean.Grind.CommRing B] (p : Gp B) (n : Nat) : Prop := ∀ k, n ≤ k → p k = 0
def Gp.fin {B : Type} [Lean.Grind.CommRing B] (p : Gp B) : Prop := ∃ n, p.lt n
theorem Gp.lt_mono {B : Type} [Lean.Grind.CommRing B] {p : Gp B} {n m : Nat} (h : p.lt n) (hm : n ≤ m) : p.lt m := fun k hk => h k (by omega)
theorem Gp.lt_add {B : Type} [Lean.Grind.CommRing B] {p q : Gp B} {n : Nat} (h : p.lt n) (h' : q.lt n) : (p.add q).lt n := fun k hk => by show p k + q k = 0; rw [h k hk, h' k hk]; grind
theorem Gp.lt_mul {B : Type} [Lean.Grind.CommRing B] {p q : Gp B} {n m : Nat} (h : p.lt n) (h' : q.lt m) : (p.mul q).lt (n + m) := fun k hk => gs_zero fun i hi => by
  by_cases c : n ≤ i
  · rw [h i c]; grind
  · rw [h' (k - i) (by omega)]; grind
theorem Gp.fin_add {B : Type} [Lean.Grind.CommRing B] {p q : Gp B} (h : p.fin) (h' : q.fin) : (p.add q).fin := by
  obtain ⟨n, h⟩ := h; obtain ⟨m, h'⟩ := h'
  exact ⟨n + m, Gp.lt_add (Gp.lt_mono h (by omega)) (Gp.lt_mono h' (by omega))⟩
theorem Gp.fin_mul {B : Type} [Lean.Grind.CommRing B] {p q : Gp B} (h : p.fin) (h' : q.fin) : (p.mul q).fin := by
  obtain ⟨n, h⟩ := h; obtain ⟨m, h'⟩ := h'
  exact ⟨n + m, Gp.lt_mul h h'⟩
theorem Gp.fin_neg {B : Type} [Lean.Grind.CommRing B] {p : Gp B} (h : p.fin) : (p.neg).fin := by
  obtain ⟨n, h⟩ := h
  exact ⟨n, fun k hk => by show - p k = 0; rw [h k hk]; grind⟩
theorem Gp.fin_C {B : Type} [Lean.Grind.CommRing B] (c : B) : (Gp.C c).fin := ⟨1, fun k hk => by show (if k = 0 then c else 0) = 0; rw [if_neg (by omega)]⟩
/-- a multiple of a monic polynomial that is shorter is nought -/
theorem Gp.mon_zero {B : Type} [Lean.Grind.CommRing B] {g r : Gp B} {n : Nat} (hg : g.lt (n + 1)) (h1 : g n = 1) (hr : r.fin) (h : (g.mul r).lt n) : r = Gp.C 0 := by
  obtain ⟨m, hm⟩ := hr
  have : ∀ m, r.lt m → r.lt 0 := by
    intro m
    induction m with
    | zero => exact fun h => h
    | succ m ih =>
      intro hm
      refine ih (fun k hk => ?_)
      by_cases c : k = m
      · subst c
        have e := h (n + k) (by omega)
        have e2 : g.mul r (n + k) = g n * r k := by
          show gs (fun i => g i * r (n + k - i)) (n + k + 1) = _
          rw [gs_ext (n := n + 1) (by omega) (fun i h0 h1 => by rw [hg i h0]; grind), gs, gs_zero (fun i hi => by rw [hm (n + k - i) (by omega)]; grind), show n + k - n = k by omega]; grind
        rw [e2, h1] at e
        rw [← e]; grind
      · exact hm k (by omega)
  exact Gp.ext fun k => by rw [this m hm k (by omega)]; show (0 : B) = (if k = 0 then 0 else 0); split <;> rfl
/-- polynomials -/
abbrev Gq (B : Type) [Lean.Grind.CommRing B] : Type := {p : Gp B // p.fin}
def qRel {B : Type} [Lean.Grind.CommRing B] (g : Gp B) (p q : Gq B) : Prop := ∃ r : Gp B, r.fin ∧ p.1 = q.1.add (g.mul r)
theorem qRel_add {B : Type} [Lean.Grind.CommRing B] {g : Gp B} {p p' q q' : Gq B} (h : qRel g p p') (h' : qRel g q q') : qRel g ⟨p.1.add q.1, Gp.fin_add p.2 q.2⟩ ⟨p'.1.add q'.1, Gp.fin_add p'.2 q'.2⟩ := by
  obtain ⟨r, hr, e⟩ := h; obtain ⟨s, hs, e'⟩ := h'
  refine ⟨r.add s, Gp.fin_add hr hs, ?_⟩
  letI : Lean.Grind.CommRing (Gp B) := mkRing _ _ _ _ _ Gp.rgl
  show p.1 + q.1 = (p'.1 + q'.1) + g * (r + s)
  have e : p.1 = p'.1 + g * r := e
  have e' : q.1 = q'.1 + g * s := e'
  grind
theorem qRel_mul {B : Type} [Lean.Grind.CommRing B] {g : Gp B} {p p' q q' : Gq B} (hg : g.fin) (h : qRel g p p') (h' : qRel g q q') : qRel g ⟨p.1.mul q.1, Gp.fin_mul p.2 q.2⟩ ⟨p'.1.mul q'.1, Gp.fin_mul p'.2 q'.2⟩ := by
  obtain ⟨r, hr, e⟩ := h; obtain ⟨s, hs, e'⟩ := h'
  refine ⟨(p'.1.mul s).add ((q'.1.mul r).add (g.mul (r.mul s))), Gp.fin_add (Gp.fin_mul p'.2 hs) (Gp.fin_add (Gp.fin_mul q'.2 hr) (Gp.fin_mul hg (Gp.fin_mul hr hs))), ?_⟩
  letI : Lean.Grind.CommRing (Gp B) := mkRing _ _ _ _ _ Gp.rgl
  show p.1 * q.1 = (p'.1 * q'.1) + g * (p'.1 * s + (q'.1 * r + g * (r * s)))
  have e : p.1 = p'.1 + g * r := e
  have e' : q.1 = q'.1 + g * s := e'
  rw [e, e']
  grind
theorem qRel_neg {B : Type} [Lean.Grind.CommRing B] {g : Gp B} {p p' : Gq B} (h : qRel g p p') : qRel g ⟨p.1.neg, Gp.fin_neg p.2⟩ ⟨p'.1.neg, Gp.fin_neg p'.2⟩ := by
  obtain ⟨r, hr, e⟩ := h
  refine ⟨r.neg, Gp.fin_neg hr, ?_⟩
  letI : Lean.Grind.CommRing (Gp B) := mkRing _ _ _ _ _ Gp.rgl
  show - p.1 = - p'.1 + g * (- r)
  have e : p.1 = p'.1 + g * r := e
  grind
theorem qRel_rf {B : Type} [Lean.Grind.CommRing B] (g : Gp B) (p : Gq B) : qRel g p p := ⟨Gp.C 0, Gp.fin_C 0, by
  letI : Lean.Grind.CommRing (Gp B) := mkRing _ _ _ _ _ Gp.rgl
  show p.1 = p.1 + g * 0
  grind⟩
theorem qRel_eqv {B : Type} [Lean.Grind.CommRing B] (g : Gp B) : Equivalence (qRel g) := ⟨qRel_rf g, fun {p q} h => by
  obtain ⟨r, hr, e⟩ := h
  refine ⟨r.neg, Gp.fin_neg hr, ?_⟩
  letI : Lean.Grind.CommRing (Gp B) := mkRing _ _ _ _ _ Gp.rgl
  show q.1 = p.1 + g * (- r)
  have e : p.1 = q.1 + g * r := e
  grind, fun {p q t} h h' => by
  obtain ⟨r, hr, e⟩ := h; obtain ⟨s, hs, e'⟩ := h'
  refine ⟨r.add s, Gp.fin_add hr hs, ?_⟩
  letI : Lean.Grind.CommRing (Gp B) := mkRing _ _ _ _ _ Gp.rgl
  show p.1 = t.1 + g * (r + s)
  have e : p.1 = q.1 + g * r := e
  have e' : q.1 = t.1 + g * s := e'
  grind⟩
def qSet {B : Type} [Lean.Grind.CommRing B] (g : Gp B) : Setoid (Gq B) := ⟨qRel g, qRel_eqv g⟩
def Qt {B : Type} [Lean.Grind.CommRing B] (g : Gp B) : Type := Quotient (qSet g)
def qm {B : Type} [Lean.Grind.CommRing B] (g : Gp B) (p : Gq B) : Qt g := Quotient.mk (qSet g) p
def Qt.add {B : Type} [Lean.Grind.CommRing B] {g : Gp B} (a b : Qt g) : Qt g := Quotient.lift₂ (s₁ := qSet g) (s₂ := qSet g) (fun p q => qm g ⟨p.1.add q.1, Gp.fin_add p.2 q.2⟩) (fun _ _ _ _ h h' => Quotient.sound (s := qSet g) (qRel_add h h')) a b
def Qt.mul {B : Type} [Lean.Grind.CommRing B] {g : Gp B} (hg : g.fin) (a b : Qt g) : Qt g := Quotient.lift₂ (s₁ := qSet g) (s₂ := qSet g) (fun p q => qm g ⟨p.1.mul q.1, Gp.fin_mul p.2 q.2⟩) (fun _ _ _ _ h h' => Quotient.sound (s := qSet g) (qRel_mul hg h h')) a b
def Qt.neg {B : Type} [Lean.Grind.CommRing B] {g : Gp B} (a : Qt g) : Qt g := Quotient.lift (s := qSet g) (fun p => qm g ⟨p.1.neg, Gp.fin_neg p.2⟩) (fun _ _ h => Quotient.sound (s := qSet g) (qRel_neg h)) a
theorem Qt.rgl {B : Type} [Lean.Grind.CommRing B] {g : Gp B} (hg : g.fin) : RgL (B := Qt g) Qt.add (Qt.mul hg) Qt.neg (qm g ⟨Gp.C 0, Gp.fin_C 0⟩) (qm g ⟨Gp.C 1, Gp.fin_C 1⟩) := by
  have R := Gp.rgl (B := B)
  refine ⟨fun a b => ?_, fun a b c => ?_, fun a => ?_, fun a => ?_, fun a b => ?_, fun a b c => ?_, fun a => ?_, fun a b c => ?_⟩
  · exact Quotient.inductionOn₂ (s₁ := qSet g) (s₂ := qSet g) a b fun p q => congrArg (qm g) (Subtype.ext (R.1 p.1 q.1))
  · exact Quotient.inductionOn₃ (s₁ := qSet g) (s₂ := qSet g) (s₃ := qSet g) a b c fun p q r => congrArg (qm g) (Subtype.ext (R.2.1 p.1 q.1 r.1))
  · exact Quotient.inductionOn (s := qSet g) a fun p => congrArg (qm g) (Subtype.ext (R.2.2.1 p.1))
  · exact Quotient.inductionOn (s := qSet g) a fun p => congrArg (qm g) (Subtype.ext (R.2.2.2.1 p.1))
  · exact Quotient.inductionOn₂ (s₁ := qSet g) (s₂ := qSet g) a b fun p q => congrArg (qm g) (Subtype.ext (R.2.2.2.2.1 p.1 q.1))
  · exact Quotient.inductionOn₃ (s₁ := qSet g) (s₂ := qSet g) (s₃ := qSet g) a b c fun p q r => congrArg (qm g) (Subtype.ext (R.2.2.2.2.2.1 p.1 q.1 r.1))
  · exact Quotient.inductionOn (s := qSet g) a fun p => congrArg (qm g) (Subtype.ext (R.2.2.2.2.2.2.1 p.1))
  · exact Quotient.inductionOn₃ (s₁ := qSet g) (s₂ := qSet g) (s₃ := qSet g) a b c fun p q r => congrArg (qm g) (Subtype.ext (R.2.2.2.2.2.2.2 p.1 q.1 r.1))
def isHom {B : Type} [Lean.Grind.CommRing B] {B' : Type} [Lean.Grind.CommRing B'] (φ : B → B') : Prop := (∀ a b, φ (a + b) = φ a + φ b) ∧ (∀ a b, φ (a * b) = φ a * φ b) ∧ φ 1 = 1
theorem isHom.z {B : Type} [Lean.Grind.CommRing B] {B' : Type} [Lean.Grind.CommRing B'] {φ : B → B'} (h : isHom φ) : φ 0 = 0 := by
  have e := h.1 0 0
  rw [show (0 : B) + 0 = 0 by grind] at e
  grind
theorem isHom.n {B : Type} [Lean.Grind.CommRing B] {B' : Type} [Lean.Grind.CommRing B'] {φ : B → B'} (h : isHom φ) (a : B) : φ (-a) = - φ a := by
  have e := h.1 (-a) a
  rw [show -a + a = 0 by grind, h.z] at e
  grind
theorem isHom.sg_ {B : Type} [Lean.Grind.CommRing B] {B' : Type} [Lean.Grind.CommRing B'] {φ : B → B'} (h : isHom φ) (f : Nat → B) (n : Nat) : φ (gs f n) = gs (fun i => φ (f i)) n := by
  induction n with
  | zero => exact h.z
  | succ n ih => show φ (_ + _) = _ + _; rw [h.1, ih]
def Gp.map {B : Type} {B' : Type} (φ : B → B') (p : Gp B) : Gp B' := fun k => φ (p k)
theorem Gp.map_mul {B : Type} [Lean.Grind.CommRing B] {B' : Type} [Lean.Grind.CommRing B'] {φ : B → B'} (h : isHom φ) (p q : Gp B) : (p.mul q).map φ = (p.map φ).mul (q.map φ) := Gp.ext fun n => by
  show φ (gs _ _) = gs _ _
  rw [h.sg_]
  exact gs_congr fun i _ => h.2.1 _ _
def lin {B : Type} [Lean.Grind.CommRing B] (t : B) : Gp B := fun k => if k = 0 then 1 else if k = 1 then -t else 0
theorem lin_mul0 {B : Type} [Lean.Grind.CommRing B] (t : B) (h : Gp B) : (lin t).mul h 0 = h 0 := by
  rw [Gp.mul_zero']; show (1 : B) * _ = _; grind
theorem lin_mul {B : Type} [Lean.Grind.CommRing B] (t : B) (h : Gp B) (k : Nat) : (lin t).mul h (k + 1) = h (k + 1) - t * h k := by
  rw [Gp.mul_front]
  have e : (lin t).tl = Gp.C (-t) := Gp.ext fun n => by
    show (if n + 1 = 0 then (1 : B) else if n + 1 = 1 then -t else 0) = (if n = 0 then -t else 0)
    rw [if_neg (by omega)]
    by_cases c : n = 0
    · rw [if_pos c, if_pos (by omega)]
    · rw [if_neg c, if_neg (by omega)]
  rw [e, Gp.C_mul]
  show (1 : B) * h (k + 1) + -t * h k = _
  grind
theorem lin_map {B : Type} [Lean.Grind.CommRing B] {B' : Type} [Lean.Grind.CommRing B'] {φ : B → B'} (h : isHom φ) (t : B) : (lin t).map φ = lin (φ t) := Gp.ext fun k => by
  show φ (if k = 0 then 1 else if k = 1 then -t else 0) = (if k = 0 then 1 else if k = 1 then -φ t else 0)
  split
  · exact h.2.2
  · split
    · exact h.n t
    · exact h.z
def prl {B : Type} [Lean.Grind.CommRing B] : List B → Gp B
  | [] => Gp.C 1
  | t :: ts => (lin t).mul (prl ts)
theorem prl_lt {B : Type} [Lean.Grind.CommRing B] (ts : List B) : (prl ts).lt (ts.length + 1) := by
  induction ts with
  | nil => intro k hk; show (if k = 0 then (1 : B) else 0) = 0; rw [if_neg (by have : ([] : List B).length = 0 := rfl; omega)]
  | cons t ts ih =>
    intro k hk
    have : (t :: ts).length = ts.length + 1 := rfl
    obtain ⟨m, rfl⟩ : ∃ m, k = m + 1 := ⟨k - 1, by omega⟩
    show (lin t).mul (prl ts) (m + 1) = 0
    rw [lin_mul, ih (m + 1) (by omega), ih m (by omega)]; grind
theorem prl_0 {B : Type} [Lean.Grind.CommRing B] (ts : List B) : prl ts 0 = 1 := by
  induction ts with
  | nil => rfl
  | cons t ts ih => show (lin t).mul (prl ts) 0 = 1; rw [lin_mul0, ih]
/-- the last coefficient -/
def prn {B : Type} [Lean.Grind.CommRing B] : List B → B
  | [] => 1
  | t :: ts => -t * prn ts
theorem prl_top {B : Type} [Lean.Grind.CommRing B] (ts : List B) : prl ts ts.length = prn ts := by
  induction ts with
  | nil => rfl
  | cons t ts ih =>
    show (lin t).mul (prl ts) (ts.length + 1) = -t * prn ts
    rw [lin_mul, prl_lt ts _ (Nat.le_refl _), ih]; grind
theorem prn_unit {B : Type} [Lean.Grind.CommRing B] {ts : List B} (h : ∀ t, t ∈ ts → ∃ v, t * v = 1) : ∃ v, prn ts * v = 1 := by
  induction ts with
  | nil => exact ⟨1, by show (1 : B) * 1 = 1; grind⟩
  | cons t ts ih =>
    obtain ⟨v, hv⟩ := ih (fun x hx => h x (List.mem_cons_of_mem _ hx))
    obtain ⟨w, hw⟩ := h t (List.mem_cons_self ..)
    refine ⟨-w * v, ?_⟩
    show (-t * prn ts) * (-w * v) = 1
    grind
theorem prl_mem {B : Type} [Lean.Grind.CommRing B] {ts : List B} {t : B} (h : t ∈ ts) : ∃ q : Gp B, q.lt ts.length ∧ prl ts = (lin t).mul q := by
  induction ts with
  | nil => cases h
  | cons u us ih =>
    by_cases c : t = u
    · subst c; exact ⟨prl us, prl_lt us, rfl⟩
    · have h : t ∈ us := by cases h with
        | head => exact absurd rfl c
        | tail _ h => exact h
      obtain ⟨q, hq, e⟩ := ih h
      refine ⟨(lin u).mul q, fun k hk => ?_, ?_⟩
      · have : (u :: us).length = us.length + 1 := rfl
        obtain ⟨m, rfl⟩ : ∃ m, k = m + 1 := ⟨k - 1, by omega⟩
        rw [lin_mul, hq (m + 1) (by omega), hq m (by omega)]; grind
      · show (lin u).mul (prl us) = _
        rw [e, ← Gp.mul_assoc, ← Gp.mul_assoc, Gp.mul_comm (lin u)]
def pwq {B : Type} [Lean.Grind.CommRing B] (t : B) : Nat → B
  | 0 => 1
  | n + 1 => pwq t n * t
theorem pwq_mul {B : Type} [Lean.Grind.CommRing B] (t u : B) (n : Nat) : pwq (t * u) n = pwq t n * pwq u n := by
  induction n with
  | zero => show (1 : B) = 1 * 1; grind
  | succ n ih => show pwq (t * u) n * (t * u) = pwq t n * t * (pwq u n * u); rw [ih]; grind
/-- the sum over the list -/
def lsm {B : Type} {B' : Type} [Lean.Grind.CommRing B'] (f : B → B') : List B → B'
  | [] => 0
  | t :: ts => f t + lsm f ts
theorem lsm_congr {B : Type} {B' : Type} [Lean.Grind.CommRing B'] {f g : B → B'} {ts : List B} (h : ∀ t, t ∈ ts → f t = g t) : lsm f ts = lsm g ts := by
  induction ts with
  | nil => rfl
  | cons t ts ih => show f t + _ = g t + _; rw [h t (List.mem_cons_self ..), ih (fun x hx => h x (List.mem_cons_of_mem _ hx))]
theorem lsm_gs {B : Type} {B' : Type} [Lean.Grind.CommRing B'] (f : Nat → B → B') (n : Nat) (ts : List B) : lsm (fun t => gs (fun i => f i t) n) ts = gs (fun i => lsm (f i) ts) n := by
  induction ts with
  | nil => exact (gs_zero (fun i _ => rfl)).symm
  | cons t ts ih => show gs _ n + lsm _ ts = gs (fun i => f i t + lsm (f i) ts) n; rw [gs_add, ih]
theorem lsm_mul {B : Type} {B' : Type} [Lean.Grind.CommRing B'] (c : B') (f : B → B') (ts : List B) : lsm (fun t => c * f t) ts = c * lsm f ts := by
  induction ts with
  | nil => show (0 : B') = c * 0; grind
  | cons t ts ih => show c * f t + lsm _ ts = c * (f t + lsm f ts); rw [ih]; grind
/-- a zero of the reversed polynomial -/
theorem rev_zero {B : Type} [Lean.Grind.CommRing B] {t : B} {q : Gp B} (N : Nat) : gs (fun k => (lin t).mul q (N - k) * pwq t k) (N + 1) = q N := by
  induction N with
  | zero => show (0 : B) + (lin t).mul q (0 - 0) * 1 = _; rw [show 0 - 0 = 0 from rfl, lin_mul0]; grind
  | succ N ih =>
    rw [gs_front, show N + 1 - 0 = N + 1 from rfl, lin_mul, gs_congr (g := fun k => t * ((lin t).mul q (N - k) * pwq t k)) (fun i _ => by
      show (lin t).mul q (N + 1 - (i + 1)) * (pwq t i * t) = _; rw [show N + 1 - (i + 1) = N - i by omega]; grind), gs_mul, ih]
    show _ * (1 : B) + _ = _
    grind
def nu {B : Type} [Lean.Grind.CommRing B] : Nat → B
  | 0 => 0
  | n + 1 => nu n + 1
theorem nu_add {B : Type} [Lean.Grind.CommRing B] (a b : Nat) : (nu (a + b) : B) = nu a + nu b := by
  induction b with
  | zero => show nu a = nu a + 0; grind
  | succ b ih => show nu (a + b) + 1 = nu a + (nu b + 1); rw [ih]; grind
def Dv {B : Type} [Lean.Grind.CommRing B] (p : Gp B) : Gp B := fun k => nu k * p k
theorem Dv_mul {B : Type} [Lean.Grind.CommRing B] (p q : Gp B) : Dv (p.mul q) = ((Dv p).mul q).add (p.mul (Dv q)) := Gp.ext fun n => by
  show nu n * gs _ _ = gs (fun i => (nu i * p i) * q (n - i)) (n + 1) + gs (fun i => p i * (nu (n - i) * q (n - i))) (n + 1)
  rw [← gs_add, ← gs_mul]
  exact gs_congr fun i hi => by
    rw [show n = i + (n - i) by omega, nu_add, show i + (n - i) - i = n - i by omega]
    grind
/-- the sums of powers -/
def psq {B : Type} [Lean.Grind.CommRing B] (ts : List B) (k : Nat) : B := lsm (fun t => pwq t k) ts
def psp {B : Type} [Lean.Grind.CommRing B] (ts : List B) : Gp B := fun k => if k = 0 then 0 else psq ts k
def geo {B : Type} [Lean.Grind.CommRing B] (t : B) : Gp B := fun k => if k = 0 then 0 else pwq t k
theorem lin_geo {B : Type} [Lean.Grind.CommRing B] (t : B) : (Dv (lin t)).add ((lin t).mul (geo t)) = Gp.C 0 := Gp.ext fun k => by
  show nu k * lin t k + (lin t).mul (geo t) k = (if k = 0 then (0 : B) else 0)
  rw [show (if k = 0 then (0 : B) else 0) = 0 by split <;> rfl]
  cases k with
  | zero => rw [lin_mul0]; show (0 : B) * 1 + 0 = 0; grind
  | succ k =>
    rw [lin_mul]
    show (nu k + 1) * (if k + 1 = 0 then 1 else if k + 1 = 1 then -t else 0) + ((if k + 1 = 0 then 0 else pwq t k * t) - t * (if k = 0 then 0 else pwq t k)) = (0 : B)
    rw [if_neg (Nat.succ_ne_zero k), if_neg (Nat.succ_ne_zero k)]
    by_cases c : k = 0
    · subst c; rw [if_pos rfl, if_pos rfl]; show ((0 : B) + 1) * _ + (1 * t - _) = 0; grind
    · rw [if_neg (by omega), if_neg c]; grind
theorem newton_l {B : Type} [Lean.Grind.CommRing B] (ts : List B) : (Dv (prl ts)).add ((prl ts).mul (psp ts)) = Gp.C 0 := by
  letI : Lean.Grind.CommRing (Gp B) := mkRing _ _ _ _ _ Gp.rgl
  induction ts with
  | nil =>
    have e1 : Dv (prl ([] : List B)) = Gp.C 0 := Gp.ext fun k => by
      show nu k * (if k = 0 then (1 : B) else 0) = (if k = 0 then 0 else 0)
      by_cases c : k = 0
      · subst c; show (0 : B) * _ = 0; grind
      · rw [if_neg c, if_neg c]; grind
    have e2 : psp ([] : List B) = Gp.C 0 := Gp.ext fun k => by
      show (if k = 0 then (0 : B) else 0) = (if k = 0 then 0 else 0); rfl
    rw [e1, e2]
    show (0 : Gp B) + prl [] * 0 = 0
    grind
  | cons t ts ih =>
    have e1 : Dv (prl (t :: ts)) = ((Dv (lin t)).mul (prl ts)).add ((lin t).mul (Dv (prl ts))) := Dv_mul _ _
    have e2 : psp (t :: ts) = (geo t).add (psp ts) := Gp.ext fun k => by
      show (if k = 0 then (0 : B) else pwq t k + psq ts k) = (if k = 0 then 0 else pwq t k) + (if k = 0 then 0 else psq ts k)
      split <;> grind
    have g := lin_geo t
    rw [e1, e2]
    show (Dv (lin t)) * prl ts + lin t * Dv (prl ts) + (lin t * prl ts) * (geo t + psp ts) = 0
    have g : Dv (lin t) + lin t * geo t = 0 := g
    have ih : Dv (prl ts) + prl ts * psp ts = 0 := ih
    grind
/-- Newton's identities of a list -/
theorem newton_k {B : Type} [Lean.Grind.CommRing B] (ts : List B) (k : Nat) : nu k * prl ts k + gs (fun i => prl ts i * psq ts (k - i)) k = 0 := by
  have e : (Dv (prl ts)).add ((prl ts).mul (psp ts)) k = (Gp.C (0 : B)) k := congrFun (newton_l ts) k
  have z : Gp.C (0 : B) k = 0 := by show (if k = 0 then (0 : B) else 0) = 0; split <;> rfl
  rw [z] at e
  have e : nu k * prl ts k + gs (fun i => prl ts i * psp ts (k - i)) (k + 1) = 0 := e
  rw [gs] at e
  have y : psp ts (k - k) = 0 := by rw [Nat.sub_self]; rfl
  rw [y, gs_congr (g := fun i => prl ts i * psq ts (k - i)) (fun i hi => by show _ * (if k - i = 0 then 0 else _) = _; rw [if_neg (by omega)])] at e
  grind
theorem split_st {B Q B' : Type} [Lean.Grind.CommRing B] [Lean.Grind.CommRing Q] [Lean.Grind.CommRing B'] {n : Nat} {g : Gp B} {ι : B → Q} {t : Q} {h : Gp Q} (hι : isHom ι) (hg : g.lt (n + 1 + 1)) (g0 : g 0 = 1) (h0 : h 0 = 1) (hstep : ∀ k, h (k + 1) = t * h k + ι (g (k + 1))) (hz : h (n + 1) = 0) :
    h.lt (n + 1) ∧ ∀ (φ : Q → B') (ts : List B'), isHom φ → h.map φ = prl ts → isHom (fun b => φ (ι b)) ∧ g.map (fun b => φ (ι b)) = prl (φ t :: ts) := by
  have hl : ∀ d, h (n + 1 + d) = 0 := by
    intro d
    induction d with
    | zero => exact hz
    | succ d ihd => rw [show n + 1 + (d + 1) = (n + 1 + d) + 1 by omega, hstep, ihd, hg (n + 1 + d + 1) (by omega), hι.z]; grind
  refine ⟨fun k hk => by rw [show k = n + 1 + (k - (n + 1)) by omega]; exact hl _, fun φ ts hφ e => ⟨⟨fun a b => ?_, fun a b => ?_, ?_⟩, ?_⟩⟩
  · show φ (ι (a + b)) = φ (ι a) + φ (ι b); rw [hι.1, hφ.1]
  · show φ (ι (a * b)) = φ (ι a) * φ (ι b); rw [hι.2.1, hφ.2.1]
  · show φ (ι 1) = 1; rw [hι.2.2, hφ.2.2]
  · have fac : g.map ι = (lin t).mul h := Gp.ext fun k => by
      cases k with
      | zero => rw [lin_mul0, h0]; show ι (g 0) = 1; rw [g0, hι.2.2]
      | succ k => rw [lin_mul, hstep]; show ι (g (k + 1)) = _; grind
    show (g.map ι).map φ = (lin (φ t)).mul (prl ts)
    rw [fac, Gp.map_mul hφ, lin_map hφ, e]
/-- the root that is adjoined -/
theorem split_ex : ∀ (n : Nat) (B : Type) (_ : Lean.Grind.CommRing B) (g : Gp B), g.lt (n + 1) → g 0 = 1 → (1 : B) ≠ 0 → ∃ (B' : Type) (_ : Lean.Grind.CommRing B') (φ : B → B') (ts : List B'), isHom φ ∧ (1 : B') ≠ 0 ∧ ts.length = n ∧ g.map φ = prl ts := by
  intro n
  induction n with
  | zero =>
    intro B _ g hg g0 h1
    refine ⟨B, inferInstance, id, [], ⟨fun _ _ => rfl, fun _ _ => rfl, rfl⟩, h1, rfl, Gp.ext fun k => ?_⟩
    show g k = (if k = 0 then (1 : B) else 0)
    by_cases c : k = 0
    · rw [if_pos c, c, g0]
    · rw [if_neg c, hg k (by omega)]
  | succ n ih =>
    intro B _ g hg g0 h1
    let Gk : Nat → Gp B := fun k m => if m ≤ k then g (k - m) else 0
    have Gf : ∀ k, (Gk k).fin := fun k => ⟨k + 1, fun m hm => by show (if m ≤ k then g (k - m) else 0) = 0; rw [if_neg (by omega)]⟩
    have hs : (Gk (n + 1)).fin := Gf (n + 1)
    let X : Gp B := fun m => if m = 1 then 1 else 0
    have Xf : X.fin := ⟨2, fun m hm => by show (if m = 1 then (1 : B) else 0) = 0; rw [if_neg (by omega)]⟩
    have Xm : ∀ (p : Gp B) (m : Nat), X.mul p m = if m = 0 then 0 else p (m - 1) := fun p m => by
      cases m with
      | zero => rw [Gp.mul_zero']; show (if 0 = 1 then (1 : B) else 0) * _ = _; rw [if_neg (by omega), if_pos rfl]; grind
      | succ m =>
        rw [Gp.mul_front]
        have e : X.tl = Gp.C 1 := Gp.ext fun n => by
          show (if n + 1 = 1 then (1 : B) else 0) = (if n = 0 then 1 else 0)
          by_cases c : n = 0
          · rw [if_pos c, if_pos (by omega)]
          · rw [if_neg c, if_neg (by omega)]
        rw [e, Gp.one_mul]
        show (if 0 = 1 then (1 : B) else 0) * _ + _ = _
        rw [if_neg (by omega), if_neg (by omega), show m + 1 - 1 = m by omega]; grind
    let Q := Qt (Gk (n + 1))
    letI RQ : Lean.Grind.CommRing Q := mkRing _ _ _ _ _ (Qt.rgl hs)
    let ι : B → Q := fun c => qm _ ⟨Gp.C c, Gp.fin_C c⟩
    have hι : isHom ι := by
      refine ⟨fun a b => ?_, fun a b => ?_, rfl⟩
      · refine congrArg (qm (Gk (n + 1))) (Subtype.ext (Gp.ext fun k => ?_))
        show (if k = 0 then a + b else 0) = (if k = 0 then a else 0) + (if k = 0 then b else 0)
        split <;> grind
      · refine congrArg (qm (Gk (n + 1))) (Subtype.ext ?_)
        show Gp.C (a * b) = (Gp.C a).mul (Gp.C b)
        rw [Gp.C_mul]
        exact Gp.ext fun k => by show (if k = 0 then a * b else 0) = a * (if k = 0 then b else 0); split <;> grind
    have Q1 : (1 : Q) ≠ 0 := by
      intro e
      obtain ⟨r, hr, e⟩ := Quotient.exact (s := qSet (Gk (n + 1))) e
      have e : Gp.C (1 : B) = (Gp.C 0).add ((Gk (n + 1)).mul r) := e
      have e2 : (Gk (n + 1)).mul r = Gp.C 1 := by
        rw [e]; exact Gp.ext fun k => by show _ = (if k = 0 then (0 : B) else 0) + _; split <;> grind
      have z := Gp.mon_zero (g := Gk (n + 1)) (r := r) (n := n + 1) (fun m hm => by show (if m ≤ n + 1 then g (n + 1 - m) else 0) = 0; rw [if_neg (by omega)]) (by show (if n + 1 ≤ n + 1 then g (n + 1 - (n + 1)) else 0) = 1; rw [if_pos (by omega), Nat.sub_self, g0]) hr (by
        rw [e2]; intro k hk; show (if k = 0 then (1 : B) else 0) = 0; rw [if_neg (by omega)])
      rw [z, Gp.mul_comm, Gp.C_mul] at e2
      have := congrFun e2 0
      have : (0 : B) * Gk (n + 1) 0 = 1 := this
      exact h1 (by rw [← this]; grind)
    let t : Q := qm _ ⟨X, Xf⟩
    let h : Gp Q := fun k => qm _ ⟨Gk k, Gf k⟩
    have h0 : h 0 = 1 := by
      refine congrArg (qm (Gk (n + 1))) (Subtype.ext (Gp.ext fun k => ?_))
      show (if k ≤ 0 then g (0 - k) else 0) = (if k = 0 then 1 else 0)
      by_cases c : k = 0
      · rw [if_pos (by omega), if_pos c, c, g0]
      · rw [if_neg (by omega), if_neg c]
    have hstep : ∀ k, h (k + 1) = t * h k + ι (g (k + 1)) := fun k => by
      refine congrArg (qm (Gk (n + 1))) (Subtype.ext (Gp.ext fun m => ?_))
      show (if m ≤ k + 1 then g (k + 1 - m) else 0) = X.mul (Gk k) m + (if m = 0 then g (k + 1) else 0)
      rw [Xm]
      by_cases c : m = 0
      · subst c; rw [if_pos (by omega), if_pos rfl, if_pos rfl, show k + 1 - 0 = k + 1 from rfl]; grind
      · rw [if_neg c, if_neg c]
        show _ = (if m - 1 ≤ k then g (k - (m - 1)) else 0) + 0
        by_cases d : m ≤ k + 1
        · rw [if_pos d, if_pos (by omega), show k - (m - 1) = k + 1 - m by omega]; grind
        · rw [if_neg d, if_neg (by omega)]; grind
    have hz : h (n + 1) = 0 := by
      refine Quotient.sound (s := qSet (Gk (n + 1))) ⟨Gp.C 1, Gp.fin_C 1, ?_⟩
      show Gk (n + 1) = (Gp.C 0).add ((Gk (n + 1)).mul (Gp.C 1))
      rw [Gp.mul_comm, Gp.one_mul]
      exact Gp.ext fun k => by show _ = (if k = 0 then (0 : B) else 0) + _; split <;> grind
    have st := @split_st B Q
    obtain ⟨B', I', φ, ts, hφ, b1, hlen, e⟩ := ih Q RQ h (st (B' := Q) hι hg g0 h0 hstep hz).1 h0 Q1
    have w := (st (B' := B') hι hg g0 h0 hstep hz).2 φ ts hφ e
    exact ⟨B', I', fun b => φ (ι b), φ t :: ts, w.1, b1, by show ts.length + 1 = _; rw [hlen], w.2⟩
theorem gs_rev {B : Type} [Lean.Grind.CommRing B] (f : Nat → B) (n : Nat) : gs (fun i => f (n - 1 - i)) n = gs f n := by
  induction n with
  | zero => rfl
  | succ n ih =>
    rw [gs_front, gs, gs_congr (g := fun i => f (n - 1 - i)) (fun i hi => by show f (n + 1 - 1 - (i + 1)) = _; congr 1; omega), ih]
    show f (n + 1 - 1 - 0) + _ = _
    rw [show n + 1 - 1 - 0 = n by omega]; grind
theorem isHom.fs {B : Type} [Lean.Grind.CommRing B] {φ : F → B} (h : isHom φ) (f : Nat → F) (n : Nat) : φ (fsum f n) = gs (fun i => φ (f i)) n := by
  induction n with
  | zero => exact h.z
  | succ n ih => show φ (_ + _) = _ + _; rw [h.1, ih]
theorem isHom.nu {B : Type} [Lean.Grind.CommRing B] {φ : F → B} (h : isHom φ) (n : Nat) : φ (fi (n : Int)) = nu n := by
  induction n with
  | zero => show φ (fi 0) = 0; rw [fi_0, h.z]
  | succ n ih =>
    rw [show ((n + 1 : Nat) : Int) = (n : Int) + 1 by omega, fi_succ, h.1, ih, h.2.2]; rfl
def gev {B : Type} [Lean.Grind.CommRing B] (φ : F → B) (t : B) (p : PS) (n : Nat) : B := gs (fun k => φ (p k) * pwq t k) n
theorem gev_front {B : Type} [Lean.Grind.CommRing B] {φ : F → B} {t : B} (p : PS) (n : Nat) : gev φ t p (n + 1) = φ (p 0) + t * gev φ t p.tl n := by
  unfold gev
  rw [gs_front, ← gs_mul, gs_congr (g := fun k => t * (φ (p.tl k) * pwq t k)) (fun i _ => by show φ (p (i + 1)) * (pwq t i * t) = t * (φ (p (i + 1)) * pwq t i); grind)]
  show _ * (1 : B) + _ = _
  grind
theorem gev_ext {B : Type} [Lean.Grind.CommRing B] {φ : F → B} {t : B} (hφ : isHom φ) {p : PS} {n m : Nat} (h : p.lt n) (hm : n ≤ m) : gev φ t p m = gev φ t p n := gs_ext hm (fun i h0 _ => by rw [h i h0, hφ.z]; grind)
theorem gev_add {B : Type} [Lean.Grind.CommRing B] {φ : F → B} {t : B} (hφ : isHom φ) (p q : PS) (n : Nat) : gev φ t (p.add q) n = gev φ t p n + gev φ t q n := by
  unfold gev
  rw [← gs_add]
  exact gs_congr fun i _ => by show φ (p i + q i) * _ = _; rw [hφ.1]; grind
theorem gev_sm {B : Type} [Lean.Grind.CommRing B] {φ : F → B} {t : B} (hφ : isHom φ) (c : F) (p : PS) (n : Nat) : gev φ t (p.sm c) n = φ c * gev φ t p n := by
  unfold gev
  rw [← gs_mul]
  exact gs_congr fun i _ => by show φ (c * p i) * _ = _; rw [hφ.2.1]; grind
theorem gev_mul {B : Type} [Lean.Grind.CommRing B] {φ : F → B} {t : B} (hφ : isHom φ) {q : PS} {m' : Nat} (hq : q.lt m') : ∀ (m : Nat) (p : PS), p.lt m → gev φ t (p.mul q) (m + m') = gev φ t p m * gev φ t q m' := by
  intro m
  induction m with
  | zero =>
    intro p hp
    have e : p = PS.zero := PS.ext fun k => hp k (by omega)
    have z : PS.zero.mul q = PS.zero := by rw [PS.zero_eq, PS.C_mul]; exact PS.ext fun k => by show (0 : F) * q k = if k = 0 then 0 else 0; split <;> grind
    rw [e, z]
    have w : ∀ n, gev φ t PS.zero n = 0 := fun n => gs_zero fun i _ => by show φ 0 * _ = 0; rw [hφ.z]; grind
    rw [w, w]; grind
  | succ m ih =>
    intro p hp
    have ht : p.tl.lt m := fun k hk => hp (k + 1) (by omega)
    rw [show m + 1 + m' = (m + m') + 1 by omega, gev_front, gev_front (p := p), PS.tl_mul, gev_add hφ, gev_sm hφ, ih _ ht, PS.mul_zero', hφ.2.1]
    have e : gev φ t q m' = φ (q 0) + t * gev φ t q.tl (m + m') := by rw [← gev_front]; exact (gev_ext hφ hq (by omega)).symm
    rw [e]; grind
noncomputable def vl {B : Type} [Lean.Grind.CommRing B] (φ : F → B) (t : B) (p : PS) : B := gev φ t p p.size
theorem vl_eq {B : Type} [Lean.Grind.CommRing B] {φ : F → B} {t : B} (hφ : isHom φ) {p : PS} {n : Nat} (h : p.lt n) : vl φ t p = gev φ t p n := (gev_ext hφ (PS.flt ⟨n, h⟩) (PS.size_le h)).symm
theorem vl_mul {B : Type} [Lean.Grind.CommRing B] {φ : F → B} {t : B} (hφ : isHom φ) {p q : PS} (hp : p.fin) (hq : q.fin) : vl φ t (p.mul q) = vl φ t p * vl φ t q := by
  obtain ⟨n, hp⟩ := hp; obtain ⟨m, hq⟩ := hq
  rw [vl_eq hφ hp, vl_eq hφ hq, ← gev_mul hφ hq n p hp, vl_eq hφ (n := n + m)]
  intro k hk
  exact fsum_zero fun i hi => by
    by_cases c : n ≤ i
    · rw [hp i c]; grind
    · rw [hq (k - i) (by omega)]; grind
theorem vl_add {B : Type} [Lean.Grind.CommRing B] {φ : F → B} {t : B} (hφ : isHom φ) {p q : PS} (hp : p.fin) (hq : q.fin) : vl φ t (p.add q) = vl φ t p + vl φ t q := by
  obtain ⟨n, hp⟩ := hp; obtain ⟨m, hq⟩ := hq
  rw [vl_eq hφ (n := n + m) (fun k hk => hp k (by omega)), vl_eq hφ (p := q) (n := n + m) (fun k hk => hq k (by omega)), ← gev_add hφ, vl_eq hφ (n := n + m)]
  intro k hk
  show p k + q k = 0
  rw [hp k (by omega), hq k (by omega)]; grind
theorem vl_dvd {B : Type} [Lean.Grind.CommRing B] {φ : F → B} {t : B} (hφ : isHom φ) {p q s : PS} (hp : p.fin) (hq : q.fin) (hs : s.fin) (h0 : vl φ t s = 0) (h : s.dvd (p.sub q)) : vl φ t p = vl φ t q := by
  obtain ⟨c, hc, e⟩ := h
  have e2 : p = (c.mul s).add q := PS.ext fun k => by
    have := congrFun e k
    show p k = (c.mul s) k + q k
    rw [← this]; show p k = p k - q k + q k; grind
  rw [e2, vl_add hφ (PS.fin_mul hc hs) hq, vl_mul hφ hc hs, h0]; grind
theorem vl_one {B : Type} [Lean.Grind.CommRing B] {φ : F → B} {t : B} (hφ : isHom φ) : vl φ t PS.one = 1 := by
  rw [vl_eq hφ (n := 1) (fun k hk => by show (if k = 0 then (1 : F) else 0) = 0; rw [if_neg (by omega)])]
  show (0 : B) + φ (if 0 = 0 then (1 : F) else 0) * 1 = 1
  rw [if_pos rfl, hφ.2.2]; grind
theorem psq_map {B : Type} [Lean.Grind.CommRing B] (f : B → B) (k : Nat) (ts : List B) : psq (ts.map f) k = lsm (fun t => pwq (f t) k) ts := by
  induction ts with
  | nil => rfl
  | cons t ts ih => show pwq (f t) k + psq (ts.map f) k = _; rw [ih]; rfl
theorem psq_0 {B : Type} [Lean.Grind.CommRing B] (ts : List B) : psq ts 0 = nu ts.length := by
  induction ts with
  | nil => rfl
  | cons t ts ih => show (1 : B) + psq ts 0 = nu ts.length + 1; rw [ih]; grind
/-- the last of Newton's numbers of a unit is not nought -/
theorem nw_ne {a s : PS} {n : Nat} (zs : s.isz (n + 1)) (hm : s n = 1) (hn : 1 ≤ n) (hn2 : n ≤ 100) (ha : a.fin) (hu : ∃ v : PS, v.fin ∧ s.dvd (((rtP a s).mul v).sub PS.one)) : nw (rsS a s) n ≠ 0 := by
  have hs0 : s ≠ PS.zero := fun e => by rw [e] at hm; exact absurd (show (0 : F) = 1 from hm) (by decide)
  have hsf : s.fin := ⟨_, zs.2⟩
  have esz : s.size = n + 1 := PS.size_eq zs
  let g : Gp F := fun k => if k ≤ n then s (n - k) else 0
  obtain ⟨B, I, φ, ts, hφ, b1, hl, e⟩ := split_ex n F inferInstance g (fun k hk => by show (if k ≤ n then s (n - k) else 0) = 0; rw [if_neg (by omega)]) (by show (if 0 ≤ n then s (n - 0) else 0) = 1; rw [if_pos (by omega)]; exact hm) (by decide)
  have E : ∀ k, k ≤ n → φ (s (n - k)) = prl ts k := fun k hk => by
    rw [← e]; show _ = φ (if k ≤ n then s (n - k) else 0); rw [if_pos hk]
  have root : ∀ t, t ∈ ts → vl φ t s = 0 := fun t ht => by
    obtain ⟨q, hq, eq⟩ := prl_mem ht
    have z := rev_zero (t := t) (q := q) n
    rw [hq n (by omega)] at z
    rw [vl_eq hφ zs.2, ← z]
    refine gs_congr fun i hi => ?_
    rw [← eq, ← E (n - i) (by omega), show n - (n - i) = i by omega]
  have tr : ∀ k, k < n → φ (trc s n (PS.mo k)) = psq ts k := by
    intro k
    induction k using Nat.strongRecOn with
    | ind k ih =>
      intro hk
      by_cases c : k = 0
      · subst c
        have : PS.mo 0 = PS.C 1 := PS.ext fun k => rfl
        rw [this, trc_C 1 zs hm hn, hφ.2.1, hφ.nu, hφ.2.2, psq_0, hl]; grind
      · obtain ⟨j, rfl⟩ : ∃ j, k = j + 1 := ⟨k - 1, by omega⟩
        have N := newton zs hm (k := j + 1) ⟨by omega, hk⟩
        have N2 := congrArg φ N
        rw [hφ.fs, hφ.n, hφ.2.1, hφ.nu, E (j + 1) (by omega), gs_front] at N2
        have N3 := newton_k ts (j + 1)
        rw [gs_front] at N3
        have z : gs (fun i => φ (s (n - (i + 1)) * trc s n (PS.mo (j + 1 - (i + 1))))) j = gs (fun i => prl ts (i + 1) * psq ts (j + 1 - (i + 1))) j := gs_congr fun i hi => by
          rw [hφ.2.1, E (i + 1) (by omega), ih (j + 1 - (i + 1)) (by omega) (by omega)]
        rw [z, hφ.2.1, E 0 (by omega)] at N2
        rw [prl_0] at N2 N3
        rw [show j + 1 - 0 = j + 1 from rfl] at N2 N3
        revert N2 N3
        generalize gs (fun i => prl ts (i + 1) * psq ts (j + 1 - (i + 1))) j = A
        generalize φ (trc s n (PS.mo (j + 1))) = X
        generalize psq ts (j + 1) = Y
        generalize nu (j + 1) * prl ts (j + 1) = Z
        intro N2 N3
        grind
  have trf : ∀ f : PS, f.lt n → φ (trc s n f) = lsm (fun t => vl φ t f) ts := fun f hf => by
    rw [trc_lin zs hm hf, hφ.fs, gs_congr (g := fun k => lsm (fun t => φ (f k) * pwq t k) ts) (fun i hi => by rw [hφ.2.1, tr i hi, lsm_mul]; rfl), ← lsm_gs]
    exact lsm_congr fun t _ => (vl_eq hφ hf).symm
  have rf : (rtP a s).fin := ⟨_, rt_lt zs ha hs0⟩
  have pk : ∀ k t, t ∈ ts → vl φ t (pkP a s k) = pwq (vl φ t (rtP a s)) k := by
    intro k
    induction k with
    | zero => intro t _; exact vl_one hφ
    | succ k ih =>
      intro t ht
      have kf : (pkP a s k).fin := ⟨_, pkP_lt zs ha hs0 hn k⟩
      have d := md_dvd zs (PS.fin_mul kf rf)
      show vl φ t (((pkP a s k).mul (rtP a s)).md s) = pwq _ k * _
      rw [← vl_dvd hφ (PS.fin_mul kf rf) ⟨_, d.2⟩ hsf (root t ht) d.1, vl_mul hφ kf rf, ih t ht]
  let ys : List B := ts.map (fun t => vl φ t (rtP a s))
  have hyl : ys.length = n := by rw [List.length_map, hl]
  have Sk : ∀ k, φ (rsS a s k) = psq ys k := fun k => by
    unfold rsS
    rw [show s.size - 1 = n by omega, trf _ (pkP_lt zs ha hs0 hn k), psq_map]
    exact lsm_congr fun t ht => pk k t ht
  have NW : ∀ k, k ≤ n → φ (nw (rsS a s) k) = prl ys k := by
    intro k
    induction k using Nat.strongRecOn with
    | ind k ih =>
      intro hk
      by_cases c : k = 0
      · subst c; rw [prl_0]; exact hφ.2.2
      · obtain ⟨j, rfl⟩ : ∃ j, k = j + 1 := ⟨k - 1, by omega⟩
        have N3 := newton_k ys (j + 1)
        have z : φ (fsum (fun i => nw (rsS a s) (j + 1 - (i + 1)) * rsS a s (i + 1)) (j + 1)) = gs (fun i => prl ys i * psq ys (j + 1 - i)) (j + 1) := by
          rw [hφ.fs, ← gs_rev]
          exact gs_congr fun i hi => by
            show φ (nw (rsS a s) (j + 1 - (j + 1 - 1 - i + 1)) * rsS a s (j + 1 - 1 - i + 1)) = _
            rw [hφ.2.1, Sk, ih (j + 1 - (j + 1 - 1 - i + 1)) (by omega) (by omega), show j + 1 - (j + 1 - 1 - i + 1) = i by omega, show j + 1 - 1 - i + 1 = j + 1 - i by omega]
        have iv := finv_mul (fi ((j : Int) + 1)) (fi_small (by omega) (by omega))
        have iv2 := congrArg φ iv
        rw [hφ.2.1, hφ.2.2, show (j : Int) + 1 = ((j + 1 : Nat) : Int) by omega, hφ.nu] at iv2
        rw [nw_rec, hφ.2.1, hφ.n, z, show (j : Int) + 1 = ((j + 1 : Nat) : Int) by omega]
        revert N3 iv2
        generalize gs (fun i => prl ys i * psq ys (j + 1 - i)) (j + 1) = A
        generalize φ (finv (fi ((j + 1 : Nat) : Int))) = V
        generalize prl ys (j + 1) = Y
        generalize (nu (j + 1) : B) = Z
        intro N3 iv2
        grind
  obtain ⟨v, hv⟩ := prn_unit (ts := ys) (fun y hy => by
    obtain ⟨t, ht, rfl⟩ := List.mem_map.mp hy
    obtain ⟨v, vf, d⟩ := hu
    refine ⟨vl φ t v, ?_⟩
    rw [← vl_mul hφ rf vf, vl_dvd hφ (PS.fin_mul rf vf) PS.fin_one hsf (root t ht) d, vl_one hφ])
  intro e0
  have f := NW n (Nat.le_refl n)
  rw [e0, hφ.z] at f
  have f2 := prl_top ys
  rw [hyl] at f2
  rw [← f2, ← f] at hv
  exact b1 (by rw [← hv]; grind)
