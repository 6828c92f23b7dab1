/-! ===== the reader: one machine ===== -/
def up1 (f : Int → Int) (j v : Int) : Int → Int := fun i => if i = j then v else f i
def upF (f : Int → FP2) (j : Int) (v : FP2) : Int → FP2 := fun i => if i = j then v else f i
theorem up1_eq (f : Int → Int) (j v : Int) : up1 f j v j = v := if_pos rfl
theorem up1_ne {f : Int → Int} {j v i : Int} (h : i ≠ j) : up1 f j v i = f i := if_neg h
theorem upF_eq (f : Int → FP2) (j : Int) (v : FP2) : upF f j v j = v := if_pos rfl
theorem upF_ne {f : Int → FP2} {j i : Int} {v : FP2} (h : i ≠ j) : upF f j v i = f i := if_neg h
def xF : FP2 := (PS.mo 1, PS.one)
def nF (v : Int) : FP2 := (PS.C (fi v), PS.one)
noncomputable def nmv (T : List Int) (k : Int) : Int := if exd T k = 0 then chT T k - 48 else if exd T k = 1 then 10 * (chT T k - 48) + chT T (k + 1) - 48 else 10 * (10 * (chT T k - 48) + chT T (k + 1) - 48) + chT T (k + 2) - 48
noncomputable def pwE (er : Int) (a : FP2) (ex pa : Int) (pv : FP2) : Int := if er ≠ 0 then er else if bz (0 ≤ ex ∧ ¬ pwOK a ex.toNat) = 1 then -3 else opA pa pv (powR a ex)
noncomputable def smE (er sa : Int) (sv pv : FP2) : Int := if er ≠ 0 then er else opA sa sv pv
/-- from k on: w wanted, so many open, an error, the atom, its exponent, the acts and values of the levels -/
noncomputable def run (T : List Int) : Nat → Int → Int → Int → Int → FP2 → Int → (Int → Int) → (Int → Int) → (Int → FP2) → (Int → FP2) → Int × FP2
  | 0, _, _, _, _, _, _, _, _, _, _ => (0, f00)
  | n + 1, k, w, d, er, a, ex, SA, PA, SV, PV =>
    if (T.length : Int) ≤ k then (smE (pwE er a ex (PA d) (PV d)) (SA d) (SV d) (opR (PA d) (PV d) (powR a ex)), opR (SA d) (SV d) (opR (PA d) (PV d) (powR a ex)))
    else if chT T k = 32 then run T n (k + 1) w d er a ex SA PA SV PV
    else if w = 0 then
      (if chT T k = 40 then run T n (k + 1) 0 (d + 1) er a ex (up1 SA (d + 1) 0) (up1 PA (d + 1) 0) SV PV
       else if chT T k = 120 then run T n (k + 1) 1 d er xF (-1) SA PA SV PV
       else run T n (k + exd T k + 1) 1 d er (nF (nmv T k)) (-1) SA PA SV PV)
    else if w = 2 then run T n (k + 1) 3 d er a (chT T k - 48) SA PA SV PV
    else if chT T k = 94 then run T n (k + 1) 2 d er a (-2) SA PA SV PV
    else if chT T k = 42 ∨ chT T k = 47 then run T n (k + 1) 0 d (pwE er a ex (PA d) (PV d)) a (-1) SA (up1 PA d (chT T k)) SV (upF PV d (opR (PA d) (PV d) (powR a ex)))
    else if chT T k = 41 then run T n (k + 1) 1 (d - 1) (smE (pwE er a ex (PA d) (PV d)) (SA d) (SV d) (opR (PA d) (PV d) (powR a ex))) (opR (SA d) (SV d) (opR (PA d) (PV d) (powR a ex))) (-1) (up1 SA d 0) (up1 PA d 0) (upF SV d (opR (SA d) (SV d) (opR (PA d) (PV d) (powR a ex)))) (upF PV d (opR (PA d) (PV d) (powR a ex)))
    else run T n (k + 1) 0 d (smE (pwE er a ex (PA d) (PV d)) (SA d) (SV d) (opR (PA d) (PV d) (powR a ex))) a (-1) (up1 SA d (chT T k)) (up1 PA d 0) (upF SV d (opR (SA d) (SV d) (opR (PA d) (PV d) (powR a ex)))) (upF PV d (opR (PA d) (PV d) (powR a ex)))
theorem exd_rng (T : List Int) (k : Int) : 0 ≤ exd T k ∧ exd T k ≤ 2 := by
  unfold exd
  split
  · split <;> omega
  · omega
theorem exd_lt {T : List Int} {k : Int} (h : k < T.length) : k + exd T k < T.length := by
  unfold exd
  by_cases c : isFg T k ∧ isFg T (k + 1)
  · rw [if1 c]
    by_cases d : isFg T (k + 2)
    · rw [if1 d]; have := d.2.1; omega
    · rw [if0 d]; have := c.2.2.1; omega
  · rw [if0 c]; omega
/-- an error stays -/
theorem run_err (T : List Int) : ∀ (n : Nat) (k w d er : Int) (a : FP2) (ex : Int) (SA PA : Int → Int) (SV PV : Int → FP2), er ≠ 0 → k ≤ T.length → (T.length : Int) < k + n → (run T n k w d er a ex SA PA SV PV).1 = er := by
  intro n
  induction n with
  | zero =>
    intro k w d er a ex SA PA SV PV h hk hn
    exact absurd hn (by omega)
  | succ n ih =>
    intro k w d er a ex SA PA SV PV h hk hn
    have xr := exd_rng T k
    have e1 : pwE er a ex (PA d) (PV d) = er := if_pos h
    have e2 : ∀ p, smE er (SA d) (SV d) p = er := fun p => if_pos h
    rw [run, e1]
    simp only [e2]
    by_cases c : (T.length : Int) ≤ k
    · rw [if_pos c]
    · have xl := exd_lt (T := T) (k := k) (by omega)
      rw [if_neg c]
      repeat' split
      all_goals exact ih _ _ _ _ _ _ _ _ _ _ h (by omega) (by omega)
def rnk (c : Int) : Int := if c = 42 ∨ c = 47 then 2 else if c = 43 ∨ c = 45 then 1 else 0
def rel (r : Int) : List Int → List Int → List Int × List Int
  | [], C => ([], C)
  | c :: R, C => if r ≤ rnk c then rel r R ((1000 + c) :: C) else (c :: R, C)
/-- the next digit of a number -/
def ndg (c : Int) : List Int → List Int
  | [] => []
  | h :: t => (h * 10 + c - 48) :: t
/-- a letter of the text, in the class -/
def cch (st c : Int) (C W : List Int) (dp dg : Int) : Int × List Int × List Int × Int × Int :=
  if c = 32 then ((if st = 1 then 2 else st), C, W, dp, dg)
  else if st = 0 then
    (if 48 ≤ c ∧ c ≤ 57 then (1, (c - 48) :: C, W, dp, 1)
     else if c = 120 then (2, 1120 :: C, W, dp, dg)
     else if c = 40 ∧ dp < 6 then (0, C, 40 :: W, dp + 1, dg)
     else (5, C, W, dp, dg))
  else if st = 3 then (if 48 ≤ c ∧ c ≤ 56 then (4, (2000 + c - 48) :: C, W, dp, dg) else (5, C, W, dp, dg))
  else if st = 1 ∧ (48 ≤ c ∧ c ≤ 57) then (if 3 ≤ dg then (5, C, W, dp, dg) else (1, ndg c C, W, dp, dg + 1))
  else if (st = 1 ∨ st = 2) ∧ c = 94 then (3, C, W, dp, dg)
  else if c = 41 ∧ 0 < dp then (2, (rel 1 W C).2, (rel 1 W C).1.tail, dp - 1, dg)
  else if rnk c = 0 then (5, C, W, dp, dg)
  else (0, (rel (rnk c) W C).2, c :: (rel (rnk c) W C).1, dp, dg)
def crun (T : List Int) : Nat → Int → Int → List Int → List Int → Int → Int → Int × List Int
  | 0, _, _, C, _, _, _ => (0, C)
  | n + 1, k, st, C, W, dp, dg =>
    if (T.length : Int) ≤ k then (if st = 0 ∨ st = 3 ∨ 0 < dp then (-20 - (T.length : Int), C) else (0, (rel 1 W C).2))
    else if (cch st (chT T k) C W dp dg).1 = 5 then (-20 - k, (cch st (chT T k) C W dp dg).2.1)
    else crun T n (k + 1) (cch st (chT T k) C W dp dg).1 (cch st (chT T k) C W dp dg).2.1 (cch st (chT T k) C W dp dg).2.2.1 (cch st (chT T k) C W dp dg).2.2.2.1 (cch st (chT T k) C W dp dg).2.2.2.2
noncomputable def opL (c : Int) : List FP2 → Int × List FP2
  | b :: a :: R => (opA c a b, opR c a b :: R)
  | P => (0, P)
noncomputable def pwL (e : Nat) : List FP2 → Int × List FP2
  | a :: R => (if bz (pwOK a e) = 1 then 0 else -3, pwV a e :: R)
  | P => (0, P)
/-- a code -/
noncomputable def cdF (s : Int × List FP2) (c : Int) : Int × List FP2 :=
  if s.1 ≠ 0 then s
  else if c < 1000 then (0, nF c :: s.2)
  else if c = 1120 then (0, xF :: s.2)
  else if c < 2000 then opL (c - 1000) s.2
  else pwL (c - 2000).toNat s.2
noncomputable def evC : List Int → Int × List FP2
  | [] => (0, [])
  | c :: R => cdF (evC R) c
def isop (c : Int) : Prop := c = 42 ∨ c = 43 ∨ c = 45 ∨ c = 47
/-- a code may come -/
def okC (P : List FP2) (c : Int) : Prop := ((0 ≤ c ∧ c < 1000 ∨ c = 1120) ∧ P.length < 15) ∨ (isop (c - 1000) ∧ 2 ≤ P.length) ∨ ((2000 ≤ c ∧ c ≤ 2008) ∧ 1 ≤ P.length)
def rgC (c : Int) : Prop := (0 ≤ c ∧ c < 1000) ∨ c = 1120 ∨ isop (c - 1000) ∨ (2000 ≤ c ∧ c ≤ 2008)
def wlC : List Int → Prop
  | [] => True
  | c :: R => wlC R ∧ rgC c ∧ ((evC R).1 = 0 → okC (evC R).2 c)
theorem evC_err {C : List Int} {c : Int} (h : (evC C).1 ≠ 0) : evC (c :: C) = evC C := if_pos h
def plJ (SA PA : Int → Int) (SV PV : Int → FP2) (j : Int) : List FP2 := (if PA j ≠ 0 then [PV j] else []) ++ (if SA j ≠ 0 then [SV j] else [])
def wtJ (SA PA : Int → Int) (j : Int) : List Int := (if PA j ≠ 0 then [PA j] else []) ++ (if SA j ≠ 0 then [SA j] else [])
def lwP (SA PA : Int → Int) (SV PV : Int → FP2) : Nat → List FP2
  | 0 => []
  | n + 1 => plJ SA PA SV PV (n : Int) ++ lwP SA PA SV PV n
def lwW (SA PA : Int → Int) : Nat → List Int
  | 0 => []
  | n + 1 => 40 :: (wtJ SA PA (n : Int) ++ lwW SA PA n)
theorem lwP_len (SA PA : Int → Int) (SV PV : Int → FP2) (n : Nat) : (lwP SA PA SV PV n).length ≤ 2 * n := by
  induction n with
  | zero => exact Nat.le_refl _
  | succ n ih =>
    show (plJ SA PA SV PV (n : Int) ++ lwP SA PA SV PV n).length ≤ _
    rw [List.length_append]
    have : (plJ SA PA SV PV (n : Int)).length ≤ 2 := by
      unfold plJ
      split <;> split <;> simp
    omega
theorem lwP_up {SA PA SA' PA' : Int → Int} {SV PV SV' PV' : Int → FP2} : ∀ n : Nat, (∀ j : Int, 0 ≤ j → j < n → SA' j = SA j ∧ PA' j = PA j ∧ SV' j = SV j ∧ PV' j = PV j) → lwP SA' PA' SV' PV' n = lwP SA PA SV PV n := by
  intro n
  induction n with
  | zero => intro _; rfl
  | succ n ih =>
    intro h
    have q := h (n : Int) (by omega) (by omega)
    show plJ SA' PA' SV' PV' (n : Int) ++ lwP SA' PA' SV' PV' n = plJ SA PA SV PV (n : Int) ++ lwP SA PA SV PV n
    rw [ih (fun j h0 h1 => h j h0 (by omega))]
    unfold plJ
    rw [q.1, q.2.1, q.2.2.1, q.2.2.2]
theorem lwW_up {SA PA SA' PA' : Int → Int} : ∀ n : Nat, (∀ j : Int, 0 ≤ j → j < n → SA' j = SA j ∧ PA' j = PA j) → lwW SA' PA' n = lwW SA PA n := by
  intro n
  induction n with
  | zero => intro _; rfl
  | succ n ih =>
    intro h
    have q := h (n : Int) (by omega) (by omega)
    show 40 :: (wtJ SA' PA' (n : Int) ++ lwW SA' PA' n) = 40 :: (wtJ SA PA (n : Int) ++ lwW SA PA n)
    rw [ih (fun j h0 h1 => h j h0 (by omega))]
    unfold wtJ
    rw [q.1, q.2]
/-- an act that waits is done -/
theorem em1 {C : List Int} {pa er : Int} {v pv : FP2} {R : List FP2} (hp : pa = 0 ∨ isop pa) (hw : wlC C) (he : er ≠ 0 → (evC C).1 = er) (h0 : er = 0 → evC C = (0, v :: ((if pa ≠ 0 then [pv] else []) ++ R))) :
    wlC (if pa ≠ 0 then (1000 + pa) :: C else C) ∧ (smE er pa pv v ≠ 0 → (evC (if pa ≠ 0 then (1000 + pa) :: C else C)).1 = smE er pa pv v) ∧ (smE er pa pv v = 0 → evC (if pa ≠ 0 then (1000 + pa) :: C else C) = (0, opR pa pv v :: R)) := by
  by_cases c : pa = 0
  · rw [if_neg (by omega)]
    have eo : opA pa pv v = 0 := if_pos c
    have er' : opR pa pv v = v := if_pos c
    refine ⟨hw, fun q => ?_, fun q => ?_⟩
    · unfold smE at q ⊢
      by_cases d : er = 0
      · rw [if_neg (by omega), eo] at q; exact absurd rfl q
      · rw [if_pos d]; exact he d
    · unfold smE at q
      by_cases d : er = 0
      · rw [h0 d, if_neg (by omega), er']; rfl
      · rw [if_pos d] at q; exact absurd q d
  · rw [if_pos c]
    have ip : isop pa := hp.resolve_left c
    have ir : isop (1000 + pa - 1000) := by rw [show 1000 + pa - 1000 = pa by omega]; exact ip
    have bd : 42 ≤ pa ∧ pa ≤ 47 := by unfold isop at ip; omega
    by_cases d : er = 0
    · have e := h0 d
      rw [if_pos c] at e
      have e2 : evC ((1000 + pa) :: C) = (opA pa pv v, opR pa pv v :: R) := by
        show cdF (evC C) (1000 + pa) = _
        rw [e]
        unfold cdF
        rw [if_neg (fun q => q rfl), if_neg (by omega), if_neg (by omega), if_pos (by omega), show 1000 + pa - 1000 = pa by omega]
        rfl
      have es : smE er pa pv v = opA pa pv v := if_neg (by omega)
      refine ⟨⟨hw, Or.inr (Or.inr (Or.inl ir)), fun _ => Or.inr (Or.inl ⟨ir, by rw [e]; show 2 ≤ (v :: ([pv] ++ R)).length; simp⟩)⟩, fun q => by rw [e2, es], fun q => by rw [e2, ← es, q]⟩
    · have e := he d
      have z : (evC C).1 ≠ 0 := by rw [e]; exact d
      have es : smE er pa pv v = er := if_pos d
      refine ⟨⟨hw, Or.inr (Or.inr (Or.inl ir)), fun q => absurd q z⟩, fun _ => by rw [evC_err z, es]; exact e, fun q => absurd (es.symm.trans q) d⟩
theorem rnk_z {W : List Int} {r : Int} {C : List Int} {n : Nat} {SA PA : Int → Int} (hr : 1 ≤ r) (h : W = lwW SA PA n) : rel r W C = (W, C) := by
  subst h
  cases n with
  | zero => rfl
  | succ n => show (if r ≤ rnk 40 then _ else _) = _; rw [if_neg (by unfold rnk; rw [if_neg (by omega), if_neg (by omega)]; omega)]; rfl
theorem rel_1 {sa pa : Int} {n : Nat} {SA PA : Int → Int} {C : List Int} (hs : sa = 0 ∨ sa = 43 ∨ sa = 45) (hp : pa = 0 ∨ pa = 42 ∨ pa = 47) :
    rel 1 ((if pa ≠ 0 then [pa] else []) ++ (if sa ≠ 0 then [sa] else []) ++ lwW SA PA n) C = (lwW SA PA n, if sa ≠ 0 then (1000 + sa) :: (if pa ≠ 0 then (1000 + pa) :: C else C) else (if pa ≠ 0 then (1000 + pa) :: C else C)) := by
  have z := fun C => rnk_z (C := C) (n := n) (SA := SA) (PA := PA) (r := 1) (by omega) rfl
  have s1 : sa ≠ 0 → ∀ C, rel 1 ([sa] ++ lwW SA PA n) C = (lwW SA PA n, (1000 + sa) :: C) := fun q C => by
    show (if 1 ≤ rnk sa then _ else _) = _
    rw [if_pos (by unfold rnk; rw [if_neg (by omega), if_pos (by omega)]; omega)]
    exact z _
  by_cases c : pa = 0
  · have np : ¬ (pa ≠ 0) := by omega
    rw [if_neg np, if_neg np]
    by_cases d : sa = 0
    · have ns : ¬ (sa ≠ 0) := by omega
      rw [if_neg ns, if_neg ns]; exact z C
    · rw [if_pos d, if_pos d]; exact s1 d C
  · rw [if_pos c, if_pos c]
    show (if 1 ≤ rnk pa then rel 1 ((if sa ≠ 0 then [sa] else []) ++ lwW SA PA n) ((1000 + pa) :: C) else _) = _
    rw [if_pos (by unfold rnk; rw [if_pos (by omega)]; omega)]
    by_cases d : sa = 0
    · have ns : ¬ (sa ≠ 0) := by omega
      rw [if_neg ns, if_neg ns]; exact z _
    · rw [if_pos d, if_pos d]; exact s1 d _
theorem rel_2 {sa pa : Int} {n : Nat} {SA PA : Int → Int} {C : List Int} (hs : sa = 0 ∨ sa = 43 ∨ sa = 45) (hp : pa = 0 ∨ pa = 42 ∨ pa = 47) :
    rel 2 ((if pa ≠ 0 then [pa] else []) ++ (if sa ≠ 0 then [sa] else []) ++ lwW SA PA n) C = ((if sa ≠ 0 then [sa] else []) ++ lwW SA PA n, if pa ≠ 0 then (1000 + pa) :: C else C) := by
  have z := fun C => rnk_z (C := C) (n := n) (SA := SA) (PA := PA) (r := 2) (by omega) rfl
  have s1 : ∀ C, rel 2 ((if sa ≠ 0 then [sa] else []) ++ lwW SA PA n) C = ((if sa ≠ 0 then [sa] else []) ++ lwW SA PA n, C) := fun C => by
    by_cases d : sa = 0
    · rw [if_neg (by omega)]; exact z C
    · rw [if_pos d]
      show (if 2 ≤ rnk sa then _ else _) = _
      rw [if_neg (by unfold rnk; rw [if_neg (by omega), if_pos (by omega)]; omega)]; rfl
  by_cases c : pa = 0
  · have np : ¬ (pa ≠ 0) := by omega
    rw [if_neg np, if_neg np]; exact s1 C
  · rw [if_pos c, if_pos c]
    show (if 2 ≤ rnk pa then rel 2 ((if sa ≠ 0 then [sa] else []) ++ lwW SA PA n) ((1000 + pa) :: C) else _) = _
    rw [if_pos (by unfold rnk; rw [if_pos (by omega)]; omega)]
    exact s1 _
