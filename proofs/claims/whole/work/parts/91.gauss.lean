/-! ===== equations ===== -/
def dotv (a v : Nat → F) : F := fsum (fun j => a j * v j) 65
abbrev Mx : Type := Nat → Nat → F
theorem dotv_lin (a v w : Nat → F) (c : F) : dotv a (fun k => v k - c * w k) = dotv a v - c * dotv a w := by
  unfold dotv
  have e : (fun j => a j * (v j - c * w j)) = fun j => a j * v j + (-c) * (a j * w j) := funext fun j => by grind
  rw [e, fsum_add, fsum_mul]
  grind
theorem dotv_sm (a v : Nat → F) (c : F) : dotv a (fun k => v k * c) = dotv a v * c := by
  unfold dotv
  have e : (fun j => a j * (v j * c)) = fun j => c * (a j * v j) := funext fun j => by grind
  rw [e, fsum_mul]
  grind
theorem fsum_at {f : Nat → F} {p : Nat} : ∀ n : Nat, p < n → (∀ j, j < n → j ≠ p → f j = 0) → fsum f n = f p := by
  intro n
  induction n with
  | zero => intro h; omega
  | succ n ih =>
    intro h1 h2
    show fsum f n + f n = f p
    by_cases c : p = n
    · rw [fsum_zero (fun j hj => h2 j (by omega) (by omega)), c]; grind
    · rw [ih (by omega) (fun j hj hn => h2 j (by omega) hn), h2 n (by omega) (fun q => c q.symm)]; grind
theorem fsum_pair {f : Nat → F} {p q n : Nat} (hp : p < n) (hq : q < n) (hn : p ≠ q) (h : ∀ j, j < n → j ≠ p → j ≠ q → f j = 0) : fsum f n = f p + f q := by
  have e : f = fun j => (if j = p then f p else 0) + (if j = p then 0 else f j) := funext fun j => by
    by_cases c : j = p
    · rw [if_pos c, if_pos c, c]; grind
    · rw [if_neg c, if_neg c]; grind
  have e1 : fsum (fun j => if j = p then f p else 0) n = f p := by
    rw [fsum_at n hp (fun j _ hj => if_neg hj), if_pos rfl]
  have e2 : fsum (fun j => if j = p then 0 else f j) n = f q := by
    rw [fsum_at (p := q) n hq (fun j h1 h2 => by
      by_cases c : j = p
      · rw [if_pos c]
      · rw [if_neg c]; exact h j h1 c h2), if_neg (fun w => hn w.symm)]
  have e3 : fsum f n = fsum (fun j => (if j = p then f p else 0) + (if j = p then 0 else f j)) n := congrArg (fun g => fsum g n) e
  rw [e3, fsum_add, e1, e2]
def Ker (X : Mx) (a : Nat → F) : Prop := ∀ r, r < 96 → dotv a (X r) = 0
def spt (n : Nat) (a : Nat → F) : Prop := ∀ j, n ≤ j → j < 64 → a j = 0
def Ind (n : Nat) (X : Mx) : Prop := ∀ a, spt n a → a 64 = 0 → Ker X a → ∀ j, j < n → a j = 0
def GIv (X0 : Mx) (n c : Nat) (X : Mx) : Prop := (∀ a, spt n a → (Ker X a ↔ Ker X0 a)) ∧ ∀ r j, r < 96 → j < c → X r j = if r = j then 1 else 0
def gP (X : Mx) (c row : Nat) : Nat → F := fun k => X row k * finv (X row c)
def gbase (X : Mx) (c row r : Nat) : Nat → F := fun k => if r = row then X c k else X r k
def gstep (X : Mx) (c row : Nat) : Mx := fun r k => if r = c then gP X c row k else gbase X c row r k - gbase X c row r c * gP X c row k
theorem GIv.start (X : Mx) (n : Nat) : GIv X n 0 X := ⟨fun a _ => Iff.rfl, fun r j _ h => by omega⟩
theorem GIv.pivot {X0 X : Mx} {n c : Nat} (hI : Ind n X0) (h : GIv X0 n c X) (hc : c < n) (hn : n ≤ 64) : ∃ row, c ≤ row ∧ row < 96 ∧ X row c ≠ 0 := by
  refine Classical.byContradiction (fun q => ?_)
  have z : ∀ row, c ≤ row → row < 96 → X row c = 0 := fun row h1 h2 => Classical.byContradiction (fun w => q ⟨row, h1, h2, w⟩)
  have hs : spt n (fun j => if j < c then X j c else if j = c then -1 else 0) := fun j h1 h2 => by
    show (if j < c then X j c else if j = c then (-1 : F) else 0) = 0
    rw [if_neg (by omega), if_neg (by omega)]
  have hk : Ker X (fun j => if j < c then X j c else if j = c then -1 else 0) := by
    intro r hr
    unfold dotv
    by_cases e : r < c
    · rw [fsum_pair (p := r) (q := c) (by omega) (by omega) (by omega) (fun j h1 h2 h3 => ?_)]
      · show (if r < c then X r c else _) * X r r + (if c < c then X c c else if c = c then (-1 : F) else 0) * X r c = 0
        rw [if_pos e, if_neg (by omega), if_pos rfl, h.2 r r (by omega) e, if_pos rfl]
        grind
      · show (if j < c then X j c else if j = c then (-1 : F) else 0) * X r j = 0
        by_cases d : j < c
        · rw [if_pos d, h.2 r j hr d, if_neg (fun w => h2 w.symm)]; grind
        · rw [if_neg d, if_neg h3]; grind
    · refine fsum_zero (fun j hj => ?_)
      show (if j < c then X j c else if j = c then (-1 : F) else 0) * X r j = 0
      by_cases d : j < c
      · rw [if_pos d, h.2 r j hr d, if_neg (by omega)]; grind
      · rw [if_neg d]
        by_cases d2 : j = c
        · rw [if_pos d2, d2, z r (by omega) hr]; grind
        · rw [if_neg d2]; grind
  have k0 := (h.1 _ hs).mp hk
  have := hI _ hs (by show (if 64 < c then _ else if 64 = c then (-1 : F) else 0) = 0; rw [if_neg (by omega), if_neg (by omega)]) k0 c hc
  have e : (if c < c then X c c else if c = c then (-1 : F) else 0) = 0 := this
  rw [if_neg (by omega), if_pos rfl] at e
  exact absurd e (by decide)
theorem GIv.step {X0 X : Mx} {n c row : Nat} (h : GIv X0 n c X) (hc : c < 96) (h1 : c ≤ row) (h2 : row < 96) (h3 : X row c ≠ 0) : GIv X0 n (c + 1) (gstep X c row) := by
  have hinv := finv_mul _ h3
  have hP : ∀ a, dotv a (gP X c row) = dotv a (X row) * finv (X row c) := fun a => dotv_sm a (X row) _
  have eC : ∀ a, dotv a (gstep X c row c) = dotv a (X row) * finv (X row c) := fun a => by
    have : gstep X c row c = gP X c row := funext fun k => if_pos rfl
    rw [this, hP]
  have eR : ∀ a r, r ≠ c → dotv a (gstep X c row r) = dotv a (gbase X c row r) - gbase X c row r c * dotv a (gP X c row) := fun a r hr => by
    have : gstep X c row r = fun k => gbase X c row r k - gbase X c row r c * gP X c row k := funext fun k => if_neg hr
    rw [this, dotv_lin]
  have eB : ∀ a r, dotv a (gbase X c row r) = if r = row then dotv a (X c) else dotv a (X r) := fun a r => by
    by_cases e : r = row
    · rw [if_pos e]
      have : gbase X c row r = X c := funext fun k => if_pos e
      rw [this]
    · rw [if_neg e]
      have : gbase X c row r = X r := funext fun k => if_neg e
      rw [this]
  refine ⟨fun a ha => Iff.trans ⟨fun hk => ?_, fun hk => ?_⟩ (h.1 a ha), fun r j hr hj => ?_⟩
  · have q1 : dotv a (X row) = 0 := by
      have := hk c hc
      rw [eC] at this
      have e : dotv a (X row) = dotv a (X row) * finv (X row c) * X row c := by
        have : dotv a (X row) * finv (X row c) * X row c = dotv a (X row) * (X row c * finv (X row c)) := by grind
        rw [this, hinv]; grind
      rw [e, this]; grind
    have qP : dotv a (gP X c row) = 0 := by rw [hP, q1]; grind
    intro r hr
    by_cases e1 : r = row
    · rw [e1]; exact q1
    · by_cases e2 : r = c
      · have := hk row h2
        rw [eR a row (by omega), eB, if_pos rfl, qP] at this
        rw [e2]; grind
      · have := hk r hr
        rw [eR a r e2, eB, if_neg e1, qP] at this
        grind
  · have qP : dotv a (gP X c row) = 0 := by rw [hP, hk row h2]; grind
    intro r hr
    by_cases e2 : r = c
    · rw [e2, eC, hk row h2]; grind
    · rw [eR a r e2, eB, qP]
      by_cases e1 : r = row
      · rw [if_pos e1, hk c hc]; grind
      · rw [if_neg e1, hk r hr]; grind
  · unfold gstep
    by_cases e2 : r = c
    · rw [if_pos e2]
      unfold gP
      by_cases e3 : j = c
      · rw [if_pos (by omega), e3]; exact hinv
      · rw [h.2 row j h2 (by omega), if_neg (by omega), if_neg (by omega)]; grind
    · rw [if_neg e2]
      by_cases e3 : j = c
      · rw [e3]
        have : gP X c row c = 1 := hinv
        rw [this, if_neg e2]; grind
      · have p0 : gP X c row j = 0 := by
          unfold gP
          rw [h.2 row j h2 (by omega), if_neg (by omega)]; grind
        rw [p0]
        unfold gbase
        by_cases e1 : r = row
        · rw [if_pos e1, if_pos e1, h.2 c j hc (by omega), if_neg (by omega), if_neg (by omega)]; grind
        · rw [if_neg e1, if_neg e1, h.2 r j hr (by omega)]; grind
theorem GIv.done {X0 X : Mx} {n : Nat} {s : Nat → F} (h : GIv X0 n n X) (hn : n ≤ 64) (hs : spt n s) (h64 : s 64 = -1) (hk : Ker X0 s) : ∀ r, r < n → X r 64 = s r := by
  intro r hr
  have k := (h.1 s hs).mpr hk r (by omega)
  unfold dotv at k
  rw [fsum_pair (p := r) (q := 64) (by omega) (by omega) (by omega) (fun j h1 h2 h3 => by
    by_cases d : j < n
    · show s j * X r j = 0
      rw [h.2 r j (by omega) d, if_neg (fun w => h2 w.symm)]; grind
    · show s j * X r j = 0
      rw [hs j (by omega) (by omega)]; grind)] at k
  rw [h64, h.2 r r (by omega) hr, if_pos rfl] at k
  grind
