/-! ===== traces ===== -/
theorem md_un {p q s : PS} {n : Nat} (hs : s.isz (n + 1)) (hq : q.lt n) (hp : p.fin) (h : s.dvd (p.sub q)) : p.md s = q := by
  obtain ⟨c, hc, e⟩ := h
  obtain ⟨N, hN⟩ := hc
  refine (PS.md_eq (q := c) hs hN hq ?_).1
  rw [← e]
  exact PS.ext fun k => by show p k = p k - q k + q k; grind
theorem md_dvd {p s : PS} {n : Nat} (hs : s.isz (n + 1)) (hp : p.fin) : s.dvd (p.sub (p.md s)) ∧ (p.md s).lt n := by
  obtain ⟨N, hN⟩ := hp
  have h := PS.div_spec hs hN
  refine ⟨⟨p.dv s, ⟨_, h.2.2⟩, ?_⟩, h.2.1⟩
  have e : p.sub (p.md s) = (((p.dv s).mul s).add (p.md s)).sub (p.md s) := congrArg (fun x : PS => x.sub (p.md s)) h.1
  rw [e]
  exact PS.ext fun k => by show _ + _ - _ = _; grind
theorem md_cong {p q s : PS} {n : Nat} (hs : s.isz (n + 1)) (hp : p.fin) (hq : q.fin) (h : s.dvd (p.sub q)) : p.md s = q.md s := by
  have a := md_dvd hs hq
  refine md_un hs a.2 hp ?_
  have : p.sub (q.md s) = (p.sub q).add (q.sub (q.md s)) := PS.ext fun k => by show p k - _ = p k - q k + (q k - _); grind
  rw [this]
  exact PS.dvd_add h a.1
theorem md_add {p q s : PS} {n : Nat} (hs : s.isz (n + 1)) (hp : p.fin) (hq : q.fin) : (p.add q).md s = (p.md s).add (q.md s) := by
  have a := md_dvd hs hp
  have b := md_dvd hs hq
  refine md_un hs (PS.lt_add a.2 b.2) (PS.fin_add hp hq) ?_
  have : (p.add q).sub ((p.md s).add (q.md s)) = (p.sub (p.md s)).add (q.sub (q.md s)) := PS.ext fun k => by show p k + q k - (_ + _) = p k - _ + (q k - _); grind
  rw [this]
  exact PS.dvd_add a.1 b.1
theorem md_sm {p s : PS} {n : Nat} (c : F) (hs : s.isz (n + 1)) (hp : p.fin) : (p.sm c).md s = (p.md s).sm c := by
  have a := md_dvd hs hp
  refine md_un hs (PS.lt_sm _ a.2) (PS.fin_sm _ hp) ?_
  have : (p.sm c).sub ((p.md s).sm c) = (p.sub (p.md s)).sm c := PS.ext fun k => by show c * p k - c * _ = c * (p k - _); grind
  rw [this]
  exact PS.dvd_sm c a.1
theorem md_mul {p q s : PS} {n : Nat} (hs : s.isz (n + 1)) (hp : p.fin) (hq : q.fin) : ((p.md s).mul q).md s = (p.mul q).md s := by
  have a := md_dvd hs hp
  refine (md_cong hs (PS.fin_mul hp hq) (PS.fin_mul ⟨_, a.2⟩ hq) ?_).symm
  rw [← PS.sub_mul]
  exact PS.dvd_mul_right q hq a.1
/-- the coefficient of x^j modulo s -/
noncomputable def cm (s : PS) (j : Nat) (f : PS) : F := (f.md s) j
/-- x f -/
def PS.xs (f : PS) : PS := f.sh 1
theorem xs_eq (f : PS) : f.xs = (PS.mo 1).mul f := by
  have : PS.one.sh 1 = PS.mo 1 := PS.ext fun k => by
    show (if k < 1 then (0 : F) else (if k - 1 = 0 then 1 else 0)) = if k = 1 then 1 else 0
    by_cases c : k < 1
    · rw [if_pos c, if_neg (by omega)]
    · rw [if_neg c]
      by_cases d : k = 1
      · rw [if_pos (by omega), if_pos d]
      · rw [if_neg (by omega), if_neg d]
  show f.sh 1 = _
  rw [PS.sh_eq, this]
theorem xs_fin {f : PS} (h : f.fin) : f.xs.fin := by rw [xs_eq]; exact PS.fin_mul ⟨_, PS.mo_lt 1⟩ h
/-- the reduction of x f: the top goes over s -/
theorem md_xs {f s : PS} {n : Nat} (hs : s.isz (n + 1)) (hm : s n = 1) (hn : 1 ≤ n) (hf : f.fin) : f.xs.md s = (f.md s).xs.sub (s.sm ((f.md s) (n - 1))) := by
  have a := md_dvd hs hf
  refine md_un hs ?_ (xs_fin hf) ?_
  · intro k hk
    show (if k < 1 then (0 : F) else (f.md s) (k - 1)) - (f.md s) (n - 1) * s k = 0
    rw [if_neg (by omega)]
    by_cases c : k = n
    · rw [c, hm]; grind
    · rw [a.2 (k - 1) (by omega), hs.2 k (by omega)]; grind
  · have e : f.xs.sub ((f.md s).xs.sub (s.sm ((f.md s) (n - 1)))) = ((f.sub (f.md s)).mul (PS.mo 1)).add (s.sm ((f.md s) (n - 1))) := by
      rw [PS.mul_comm, xs_eq, xs_eq]
      generalize s.sm ((f.md s) (n - 1)) = t
      generalize f.md s = g
      generalize PS.mo 1 = x
      letI := psRing
      show x * f - (x * g - t) = x * (f - g) + t
      grind
    rw [e]
    exact PS.dvd_add (PS.dvd_mul_right _ ⟨_, PS.mo_lt 1⟩ a.1) (PS.dvd_sm _ (PS.dvd_refl s))
theorem cm_xs {f s : PS} {n j : Nat} (hs : s.isz (n + 1)) (hm : s n = 1) (hn : 1 ≤ n) (hf : f.fin) : cm s j f.xs = (if j = 0 then 0 else cm s (j - 1) f) - s j * cm s (n - 1) f := by
  unfold cm
  rw [md_xs hs hm hn hf]
  show (if j < 1 then (0 : F) else (f.md s) (j - 1)) - (f.md s) (n - 1) * s j = _
  by_cases c : j = 0
  · rw [if_pos c, if_pos (by omega)]; grind
  · rw [if_neg c, if_neg (by omega)]; grind
/-- the dual basis: s above x^(j + 1) -/
def dub (s : PS) (j : Nat) : PS := fun k => s (k + j + 1)
theorem dub_fin {s : PS} (h : s.fin) (j : Nat) : (dub s j).fin := ⟨s.size, fun k hk => PS.flt h (k + j + 1) (by omega)⟩
theorem dub_xs (s : PS) (j : Nat) : dub s j = ((dub s (j + 1)).xs).add (PS.C (s (j + 1))) := PS.ext fun k => by
  show s (k + j + 1) = (if k < 1 then (0 : F) else s (k - 1 + (j + 1) + 1)) + (if k = 0 then s (j + 1) else 0)
  by_cases c : k = 0
  · rw [if_pos (by omega), if_pos c, c, Nat.zero_add]; grind
  · rw [if_neg (by omega), if_neg c, show k - 1 + (j + 1) + 1 = k + j + 1 by omega]; grind
theorem cm_add {p q s : PS} {n j : Nat} (hs : s.isz (n + 1)) (hp : p.fin) (hq : q.fin) : cm s j (p.add q) = cm s j p + cm s j q := by unfold cm; rw [md_add hs hp hq]; rfl
theorem cm_sm {p s : PS} {n j : Nat} (c : F) (hs : s.isz (n + 1)) (hp : p.fin) : cm s j (p.sm c) = c * cm s j p := by unfold cm; rw [md_sm c hs hp]; rfl
/-- a coefficient is the top one of a product -/
theorem cm_dual {s : PS} {n : Nat} (hs : s.isz (n + 1)) (hm : s n = 1) : ∀ (d j : Nat) (f : PS), f.fin → j + d + 1 = n → cm s j f = cm s (n - 1) (f.mul (dub s j)) := by
  intro d
  induction d with
  | zero =>
    intro j f hf hj
    have e : dub s j = PS.one := PS.ext fun k => by
      show s (k + j + 1) = if k = 0 then 1 else 0
      by_cases c : k = 0
      · rw [if_pos c, c, show 0 + j + 1 = n by omega]; exact hm
      · rw [if_neg c]; exact hs.2 _ (by omega)
    rw [e, PS.mul_comm, PS.one_mul, show n - 1 = j by omega]
  | succ d ih =>
    intro j f hf hj
    have q := cm_xs (f := f) (j := j + 1) hs hm (by omega) hf
    rw [if_neg (by omega), Nat.add_sub_cancel] at q
    have r := ih (j + 1) f.xs (xs_fin hf) (by omega)
    have e : f.mul (dub s j) = (f.xs.mul (dub s (j + 1))).add (f.sm (s (j + 1))) := by
      rw [dub_xs, xs_eq, xs_eq, PS.sm_eq]
      generalize dub s (j + 1) = t
      generalize PS.C (s (j + 1)) = c
      generalize PS.mo 1 = x
      letI := psRing
      show f * (x * t + c) = x * f * t + c * f
      grind
    rw [e, cm_add hs (PS.fin_mul (xs_fin hf) (dub_fin ⟨_, hs.2⟩ _)) (PS.fin_sm _ hf), cm_sm _ hs hf, ← r, q]
    grind
/-- the trace of multiplying by f -/
noncomputable def trc (s : PS) (n : Nat) (f : PS) : F := fsum (fun j => cm s j ((PS.mo j).mul f)) n
theorem dub_sum (s : PS) (n : Nat) (hs : s.lt (n + 1)) (k : Nat) : fsum (fun j => ((PS.mo j).mul (dub s j)) k) n = s.der k := by
  have e : ∀ j, ((PS.mo j).mul (dub s j)) k = if j ≤ k then s (k + 1) else 0 := fun j => by
    have : (PS.mo j).mul (dub s j) = (dub s j).sh j := by
      have : PS.one.sh j = PS.mo j := PS.ext fun i => by
        show (if i < j then (0 : F) else (if i - j = 0 then 1 else 0)) = if i = j then 1 else 0
        by_cases c : i < j
        · rw [if_pos c, if_neg (by omega)]
        · rw [if_neg c]
          by_cases d : i = j
          · rw [if_pos (by omega), if_pos d]
          · rw [if_neg (by omega), if_neg d]
      rw [PS.sh_eq, this]
    rw [this]
    show (if k < j then (0 : F) else s (k - j + j + 1)) = _
    by_cases c : j ≤ k
    · rw [if_neg (by omega), if_pos c, show k - j + j + 1 = k + 1 by omega]
    · rw [if_pos (by omega), if_neg c]
  rw [fsum_congr (g := fun j => if j ≤ k then s (k + 1) else 0) (fun j _ => e j)]
  show _ = fi ((k : Int) + 1) * s (k + 1)
  have cnt : ∀ m : Nat, fsum (fun j => if j ≤ k then s (k + 1) else 0) m = fi ((min m (k + 1) : Nat) : Int) * s (k + 1) := by
    intro m
    induction m with
    | zero => show (0 : F) = fi ((min 0 (k + 1) : Nat) : Int) * _; rw [Nat.zero_min]; show (0 : F) = 0 * _; grind
    | succ m ih =>
      show fsum _ m + (if m ≤ k then s (k + 1) else 0) = _
      rw [ih]
      by_cases c : m ≤ k
      · rw [if_pos c, show min (m + 1) (k + 1) = m + 1 by omega, show min m (k + 1) = m by omega, show ((m + 1 : Nat) : Int) = (m : Int) + 1 by omega, fi_succ]; grind
      · rw [if_neg c, show min (m + 1) (k + 1) = k + 1 by omega, show min m (k + 1) = k + 1 by omega]; grind
  rw [cnt]
  by_cases c : k < n
  · rw [show min n (k + 1) = k + 1 by omega, show ((k + 1 : Nat) : Int) = (k : Int) + 1 by omega]
  · rw [hs (k + 1) (by omega)]; grind
