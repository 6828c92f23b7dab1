/-! ===== compute: class and reference ===== -/
theorem jd_hw {b : Bd} {J : Int → FP2} {C : Int → Int} (h : ∀ i : Int, -2 ≤ i → i ≤ 2 → i ≠ 0 → (¬ C i < 0 ↔ isI b J i)) : (hwI b J 5).1 = (if jdO C = 0 then 1 else 0) ∧ (jdO C ≠ 0 → (hwI b J 5).2 = jdO C) ∧ ((hwI b J 5).1 = 1 ↔ jdO C = 0) := by
  have z0 : bz (isI b J (2 - ((2 : Nat) : Int))) = 1 := bz_pos (Or.inl rfl)
  have hb : ∀ i : Int, -2 ≤ i → i ≤ 2 → i ≠ 0 → (¬ C i < 0 ∧ bz (isI b J i) = 1) ∨ (C i < 0 ∧ bz (isI b J i) = 0) := fun i h0 h1 h2 => by
    by_cases c : C i < 0
    · exact Or.inr ⟨c, bz_neg (fun q => (h i h0 h1 h2).mpr q c)⟩
    · exact Or.inl ⟨c, bz_pos ((h i h0 h1 h2).mp c)⟩
  have e0 : (2 : Int) - ((0 : Nat) : Int) = 2 := rfl
  have e1 : (2 : Int) - ((1 : Nat) : Int) = 1 := rfl
  have e2 : (2 : Int) - ((2 : Nat) : Int) = 0 := rfl
  have e3 : (2 : Int) - ((3 : Nat) : Int) = -1 := rfl
  have e4 : (2 : Int) - ((4 : Nat) : Int) = -2 := rfl
  have h1 := hb 2 (by omega) (by omega) (by omega)
  have h2 := hb 1 (by omega) (by omega) (by omega)
  have h3 := hb (-1) (by omega) (by omega) (by omega)
  have h4 := hb (-2) (by omega) (by omega) (by omega)
  rw [e2] at z0
  unfold jdO
  simp only [hwI, e0, e1, e2, e3, e4, z0, if_true]
  rcases h1 with ⟨c1, d1⟩ | ⟨c1, d1⟩
  · rcases h2 with ⟨c2, d2⟩ | ⟨c2, d2⟩
    · rcases h3 with ⟨c3, d3⟩ | ⟨c3, d3⟩
      · rcases h4 with ⟨c4, d4⟩ | ⟨c4, d4⟩ <;> simp [c1, c2, c3, c4, d1, d2, d3, d4]
      · rcases h4 with ⟨c4, d4⟩ | ⟨c4, d4⟩ <;> simp [c1, c2, c3, c4, d1, d2, d3, d4]
    · rcases h3 with ⟨c3, d3⟩ | ⟨c3, d3⟩ <;> rcases h4 with ⟨c4, d4⟩ | ⟨c4, d4⟩ <;> simp [c1, c2, c3, c4, d1, d2, d3, d4]
  · rcases h2 with ⟨c2, d2⟩ | ⟨c2, d2⟩ <;> rcases h3 with ⟨c3, d3⟩ | ⟨c3, d3⟩ <;> rcases h4 with ⟨c4, d4⟩ | ⟨c4, d4⟩ <;> simp [c1, c2, c3, c4, d1, d2, d3, d4]
theorem cst_is {b : Bd} {J : Int → FP2} {i : Int} (hb : b.good) (h0 : i ≠ 0) (hr : RDP (igR b J i).1 (igR b J i).2) :
    (¬ cstI b.2.2.1 (igR b J i).1 (igR b J i).2 b.uP b.uP.der < 0 ↔ isI b J i) ∧ (b.2.2.1 = 2 → cstI b.2.2.1 (igR b J i).1 (igR b J i).2 b.uP b.uP.der = mulI (igR b J i) b.du) := by
  unfold cstI isI
  by_cases k : b.2.2.1 = 2
  · obtain ⟨f1, f2, n1, n2⟩ := Bd.us hb (by omega)
    have z := b.uP_sz
    have e := cst_mul (a := igR b J i) hr f1 f2 n1 n2 (by omega)
    rw [if_pos k, e]
    refine ⟨⟨fun q => Or.inr (Or.inl ⟨k, by show 0 ≤ mulI (igR b J i) (frd b.uP.der b.uP); omega⟩), fun q => ?_⟩, fun _ => rfl⟩
    rcases q with q | q | q
    · exact absurd q h0
    · have : 0 ≤ mulI (igR b J i) (frd b.uP.der b.uP) := q.2; omega
    · exact absurd k q.1
  · rw [if_neg k, ratI_zero]
    refine ⟨⟨fun q => Or.inr (Or.inr ⟨k, ?_⟩), fun q => ?_⟩, fun q => absurd q k⟩
    · exact Classical.byContradiction (fun c => q (by rw [if0 c]; omega))
    · rcases q with q | q | q
      · exact absurd q h0
      · exact absurd q.1 k
      · rw [if1 q.2]; omega
theorem RDP.addm {n d : PS} {c : F} (h : RDP n d) : RDP (n.add (d.sm c)) d :=
  ⟨PS.fin_add h.1 (PS.fin_sm _ h.2.1), h.2.1, h.2.2.1, h.2.2.2.1, fun P hP q r => h.2.2.2.2 P hP (by
    have t := PS.dvd_add q (PS.dvd_sm (-c) r)
    have e : (n.add (d.sm c)).add (d.sm (-c)) = n := by funext j; show n j + c * d j + -c * d j = n j; grind
    rw [e] at t
    exact t) r⟩
theorem raise_eq {q : FP2} {c : F} (h : RDP q.1 q.2) (z : q.2.size < 190) : fpl q (PS.C c, PS.one) (fi 1) = (q.1.am q.2 c 0, q.2) := by
  have r := rd_id (h.addm (c := c)) (by omega)
  unfold fpl frd
  dsimp only
  rw [fi_1, PS.sm_one, PS.C_mul, PS.mul_comm q.1, PS.one_mul, PS.mul_comm q.2, PS.one_mul, PS.am0, r.1, r.2]
/-- the bounds of the parts of a function of the board -/
theorem cls_ig {b : Bd} {f : Int} (hb : b.good) (hf : 0 ≤ f ∧ f < 3) (hk : b.2.2.1 = 2) :
    SplOK (igT b (fnJ b f) 0) 10 8 ∧ (FOK (igN b (fnJ b f) 1).1 11 7 ∧ ORD (igN b (fnJ b f) 1).1 7) ∧ FOK (igN b (fnJ b f) 1).2 12 8 ∧ SplOK (igT b (fnJ b f) 1) 17 14 ∧ (FOK (igN b (fnJ b f) 2).1 18 13 ∧ ORD (igN b (fnJ b f) 2).1 7) ∧ FOK (igN b (fnJ b f) 2).2 18 14 ∧ SplOK (igT b (fnJ b f) 2) 24 20 ∧ (FOK (igN b (fnJ b f) 3).1 25 19 ∧ ORD (igN b (fnJ b f) 3).1 7) ∧ FOK (igN b (fnJ b f) 3).2 24 20 := by
  have du := Bd.du_ok hb (by omega)
  have dd := Bd.du_ord hb (by omega)
  have zw : PS.zero.size ≤ 4 := by rw [PS.zero_sz]; omega
  have q0 : FOK (igN b (fnJ b f) 0).1 0 1 ∧ ORD (igN b (fnJ b f) 0).1 7 := ⟨FOK.zero, Or.inl rfl⟩
  have tt : ∀ n : Nat, n ≤ 2 → ∀ p d : Nat, FOK (igN b (fnJ b f) n).1 p d → ORD (igN b (fnJ b f) n).1 7 → ∀ n' d', 7 + (d + 3) ≤ n' + 1 → (p + 2) + 5 ≤ n' + 1 → 5 + (d + 3) ≤ d' + 1 → d' < 190 → d < 100 → SplOK (igT b (fnJ b f) n) n' d' := by
    intro n hn p d f1 f2 n' d' g1 g2 g3 g4 g5
    have j := hb.tm (t := 5 * f + (2 - (n : Int)) + 2) (by omega)
    have jo := (fnJ_ok hb hf (2 - (n : Int)) (by omega) (by omega)).2
    have m := FOK.ml (k := p + 2) (q := d + 3) f1 du (by omega) (by omega) (by omega)
    have mo := ORD.ml f1 du f2 dd (by omega)
    unfold igT
    rw [if_pos hk]
    exact ⟨FOK.pl _ j m (by omega) (by omega) (by omega) (by omega), ORD.pl _ j m jo (mo.mono (by omega)) (by omega)⟩
  have ss : ∀ n : Nat, n ≤ 2 → igN b (fnJ b f) (n + 1) = sp2 (igT b (fnJ b f) n) PS.zero := by
    intro n hn
    rw [igN]
    unfold igS igT
    rw [if_neg (by omega), if_pos (by omega), if_pos hk]
  have t0 := tt 0 (by omega) 0 1 q0.1 q0.2 10 8 (by omega) (by omega) (by omega) (by omega) (by omega)
  have p1 := sp2_ok (W := PS.zero) t0 PS.fin_zero zw (by omega) (by omega)
  rw [← ss 0 (by omega)] at p1
  have p1a : FOK (igN b (fnJ b f) 1).1 11 7 := p1.1.mono (by omega) (by omega)
  have t1 := tt 1 (by omega) 11 7 p1a p1.2.1 17 14 (by omega) (by omega) (by omega) (by omega) (by omega)
  have p2 := sp2_ok (W := PS.zero) t1 PS.fin_zero zw (by omega) (by omega)
  rw [← ss 1 (by omega)] at p2
  have p2a : FOK (igN b (fnJ b f) 2).1 18 13 := p2.1.mono (by omega) (by omega)
  have t2 := tt 2 (by omega) 18 13 p2a p2.2.1 24 20 (by omega) (by omega) (by omega) (by omega) (by omega)
  have p3 := sp2_ok (W := PS.zero) t2 PS.fin_zero zw (by omega) (by omega)
  rw [← ss 2 (by omega)] at p3
  exact ⟨t0, ⟨p1a, p1.2.1⟩, p1.2.2.mono (by omega) (by omega), t1, ⟨p2a, p2.2.1⟩, p2.2.2.mono (by omega) (by omega), t2, ⟨p3.1.mono (by omega) (by omega), p3.2.1⟩, p3.2.2.mono (by omega) (by omega)⟩
