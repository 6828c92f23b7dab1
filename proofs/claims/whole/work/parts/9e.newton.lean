def psm (g : Nat → PS) (m : Nat) : PS := fun k => fsum (fun j => g j k) m
theorem psm_fin {g : Nat → PS} (h : ∀ j, (g j).fin) (m : Nat) : (psm g m).fin := by
  induction m with
  | zero => exact ⟨0, fun k _ => rfl⟩
  | succ m ih => exact PS.fin_add ih (h m)
theorem cm_psm {s f : PS} {n i : Nat} {g : Nat → PS} (hs : s.isz (n + 1)) (hf : f.fin) (h : ∀ j, (g j).fin) (m : Nat) : fsum (fun j => cm s i (f.mul (g j))) m = cm s i (f.mul (psm g m)) := by
  induction m with
  | zero =>
    have e : psm g 0 = PS.zero := PS.ext fun k => rfl
    show (0 : F) = _
    rw [e, PS.mul_comm, PS.zero_mul]
    have := cm_sm (j := i) (p := PS.zero) 0 hs PS.fin_zero
    have e2 : PS.zero.sm 0 = PS.zero := PS.ext fun k => by show (0 : F) * 0 = 0; grind
    rw [e2] at this
    rw [this]; grind
  | succ m ih =>
    show fsum _ m + cm s i (f.mul (g m)) = _
    have e : psm g (m + 1) = (psm g m).add (g m) := PS.ext fun k => rfl
    rw [ih, e, PS.mul_comm f ((psm g m).add (g m)), PS.add_mul, cm_add hs (PS.fin_mul (psm_fin h m) hf) (PS.fin_mul (h m) hf), PS.mul_comm (psm g m), PS.mul_comm (g m)]
theorem trc_eq {s f : PS} {n : Nat} (hs : s.isz (n + 1)) (hm : s n = 1) (hf : f.fin) : trc s n f = cm s (n - 1) (f.mul s.der) := by
  have hsf : s.fin := ⟨_, hs.2⟩
  have e : psm (fun j => (PS.mo j).mul (dub s j)) n = s.der := PS.ext fun k => dub_sum s n hs.2 k
  rw [← e, ← cm_psm hs hf (fun j => PS.fin_mul ⟨_, PS.mo_lt j⟩ (dub_fin hsf j)) n]
  unfold trc
  refine fsum_congr (fun j hj => ?_)
  rw [cm_dual hs hm (n - 1 - j) j _ (PS.fin_mul ⟨_, PS.mo_lt j⟩ hf) (by omega)]
  have : ((PS.mo j).mul f).mul (dub s j) = f.mul ((PS.mo j).mul (dub s j)) := by rw [PS.mul_comm (PS.mo j) f, PS.mul_assoc]
  rw [this]
theorem trc_add {s p q : PS} {n : Nat} (hs : s.isz (n + 1)) (hm : s n = 1) (hp : p.fin) (hq : q.fin) : trc s n (p.add q) = trc s n p + trc s n q := by
  have hd : s.der.fin := PS.fin_der ⟨_, hs.2⟩
  rw [trc_eq hs hm (PS.fin_add hp hq), trc_eq hs hm hp, trc_eq hs hm hq, PS.add_mul, cm_add hs (PS.fin_mul hp hd) (PS.fin_mul hq hd)]
theorem trc_sm {s p : PS} {n : Nat} (c : F) (hs : s.isz (n + 1)) (hm : s n = 1) (hp : p.fin) : trc s n (p.sm c) = c * trc s n p := by
  have hd : s.der.fin := PS.fin_der ⟨_, hs.2⟩
  rw [trc_eq hs hm (PS.fin_sm _ hp), trc_eq hs hm hp, PS.sm_mul, cm_sm _ hs (PS.fin_mul hp hd)]
theorem lin_fun {T : PS → F} (ha : ∀ p q : PS, p.fin → q.fin → T (p.add q) = T p + T q) (hs : ∀ (c : F) (p : PS), p.fin → T (p.sm c) = c * T p) : ∀ (n : Nat) (p : PS), p.lt n → T p = fsum (fun k => p k * T (PS.mo k)) n := by
  intro n
  induction n with
  | zero =>
    intro p hp
    have e : p = p.sm 0 := PS.ext fun k => by show p k = 0 * p k; rw [hp k (by omega)]; grind
    have := hs 0 p ⟨_, hp⟩
    rw [← e] at this
    show T p = 0
    rw [this]; grind
  | succ n ih =>
    intro p hp
    have e : p = (p.tr n).add ((PS.mo n).sm (p n)) := PS.ext fun k => by
      show p k = (if k < n then p k else 0) + p n * (if k = n then (1 : F) else 0)
      by_cases c : k < n
      · rw [if_pos c, if_neg (by omega)]; grind
      · rw [if_neg c]
        by_cases d : k = n
        · rw [if_pos d, d]; grind
        · rw [if_neg d, hp k (by omega)]; grind
    have lt : (p.tr n).lt n := fun k hk => by show (if k < n then p k else 0) = 0; rw [if_neg (by omega)]
    have e1 : T p = T (p.tr n) + p n * T (PS.mo n) := by
      have q := ha (p.tr n) ((PS.mo n).sm (p n)) ⟨_, lt⟩ (PS.fin_sm _ ⟨_, PS.mo_lt n⟩)
      rw [← e, hs _ _ ⟨_, PS.mo_lt n⟩] at q
      exact q
    rw [e1, ih (p.tr n) lt]
    show _ = fsum (fun k => p k * T (PS.mo k)) n + p n * T (PS.mo n)
    rw [fsum_congr (g := fun k => p k * T (PS.mo k)) (fun i hi => by show (if i < n then p i else 0) * _ = _; rw [if_pos hi])]
theorem trc_lin {s p : PS} {n m : Nat} (hs : s.isz (n + 1)) (hm : s n = 1) (hp : p.lt m) : trc s n p = fsum (fun k => p k * trc s n (PS.mo k)) m := lin_fun (T := trc s n) (fun p q hp hq => trc_add hs hm hp hq) (fun c p hp => trc_sm c hs hm hp) m p hp
theorem der_ltn {s : PS} {n : Nat} (hs : s.lt (n + 1)) : s.der.lt n := fun k hk => by
  show fi ((k : Int) + 1) * s (k + 1) = 0
  rw [hs (k + 1) (by omega)]; grind
theorem cm_small {s f : PS} {n j : Nat} (hs : s.isz (n + 1)) (hf : f.lt n) : cm s j f = f j := by
  unfold cm
  rw [md_un hs hf ⟨_, hf⟩ (by
    have : f.sub f = PS.zero := PS.ext fun k => by show f k - f k = 0; grind
    rw [this]; exact PS.dvd_zero s)]
theorem trc_C {s : PS} {n : Nat} (c : F) (hs : s.isz (n + 1)) (hm : s n = 1) (hn : 1 ≤ n) : trc s n (PS.C c) = fi (n : Int) * c := by
  rw [trc_eq hs hm (PS.fin_C c), ← PS.sm_eq, cm_sm c hs (PS.fin_der ⟨_, hs.2⟩), cm_small hs (der_ltn hs.2)]
  show c * (fi (((n - 1 : Nat) : Int) + 1) * s (n - 1 + 1)) = _
  rw [show n - 1 + 1 = n by omega, show ((n - 1 : Nat) : Int) + 1 = (n : Int) by omega, hm]; grind
theorem trc_dub {s : PS} {n j : Nat} (hs : s.isz (n + 1)) (hm : s n = 1) (hj : j < n) : trc s n (dub s j) = fi ((j : Int) + 1) * s (j + 1) := by
  rw [trc_eq hs hm (dub_fin ⟨_, hs.2⟩ j), PS.mul_comm, ← cm_dual hs hm (n - 1 - j) j _ (PS.fin_der ⟨_, hs.2⟩) (by omega), cm_small hs (der_ltn hs.2)]
  rfl
/-- Newton -/
theorem newton {s : PS} {n k : Nat} (hs : s.isz (n + 1)) (hm : s n = 1) (hk : 1 ≤ k ∧ k < n) : fsum (fun i => s (n - i) * trc s n (PS.mo (k - i))) k = - (fi (k : Int) * s (n - k)) := by
  have hsf : s.fin := ⟨_, hs.2⟩
  have d := dub_xs s (n - k - 1)
  rw [show n - k - 1 + 1 = n - k by omega] at d
  have e1 : trc s n (dub s (n - k - 1)) = trc s n (dub s (n - k)).xs + trc s n (PS.C (s (n - k))) := by
    rw [d]; exact trc_add hs hm (xs_fin (dub_fin hsf _)) (PS.fin_C _)
  rw [trc_dub hs hm (by omega), trc_C _ hs hm (by omega), show n - k - 1 + 1 = n - k by omega, show ((n - k - 1 : Nat) : Int) + 1 = (n : Int) + (-1) * (k : Int) by omega, fi_add, fi_mul, show fi (-1) = -1 from by decide] at e1
  have lx : (dub s (n - k)).xs.lt (k + 1) := fun m hm2 => by
    show (if m < 1 then (0 : F) else s (m - 1 + (n - k) + 1)) = 0
    rw [if_neg (by omega)]; exact hs.2 _ (by omega)
  have e2 := trc_lin hs hm lx
  have e3 : fsum (fun m => (dub s (n - k)).xs m * trc s n (PS.mo m)) (k + 1) = fsum (fun i => s (n - i) * trc s n (PS.mo (k - i))) k := by
    rw [fsum_front]
    have z : (dub s (n - k)).xs 0 = 0 := by
      show (if 0 < 1 then (0 : F) else s (0 - 1 + (n - k) + 1)) = 0
      rw [if_pos (by omega)]
    rw [z]
    have rev : ∀ (m : Nat) (g : Nat → F), fsum g m = fsum (fun i => g (m - 1 - i)) m := by
      intro m
      induction m with
      | zero => intro g; rfl
      | succ m ih =>
        intro g
        rw [fsum_front (fun i => g (m + 1 - 1 - i)) m]
        show fsum g m + g m = g (m + 1 - 1 - 0) + fsum (fun i => g (m + 1 - 1 - (i + 1))) m
        rw [ih g, fsum_congr (f := fun i => g (m + 1 - 1 - (i + 1))) (g := fun i => g (m - 1 - i)) (fun i hi => by
          show g _ = g _
          rw [show m + 1 - 1 - (i + 1) = m - 1 - i by omega]), show m + 1 - 1 - 0 = m by omega]
        grind
    rw [rev k (fun i => (dub s (n - k)).xs (i + 1) * trc s n (PS.mo (i + 1)))]
    have e4 : fsum (fun i => (dub s (n - k)).xs (k - 1 - i + 1) * trc s n (PS.mo (k - 1 - i + 1))) k = fsum (fun i => s (n - i) * trc s n (PS.mo (k - i))) k := fsum_congr (fun i hi => by
      show (if k - 1 - i + 1 < 1 then (0 : F) else s (k - 1 - i + 1 - 1 + (n - k) + 1)) * _ = _
      rw [if_neg (by omega), show k - 1 - i + 1 - 1 + (n - k) + 1 = n - i by omega, show k - 1 - i + 1 = k - i by omega])
    show 0 * _ + fsum (fun i => (dub s (n - k)).xs (k - 1 - i + 1) * trc s n (PS.mo (k - 1 - i + 1))) k = _
    rw [e4]; grind
  rw [← e3, ← e2]
  grind
