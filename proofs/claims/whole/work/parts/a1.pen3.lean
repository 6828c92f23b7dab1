theorem igN_lin {b : Bd} {f g c : Int} (hb : b.good) (hf : 0 ≤ f ∧ f < 3) (hg : 0 ≤ g ∧ g < 3) (kf : b.fit f ≠ 0) (kg : b.fit g ≠ 0) : ∀ n : Nat, n ≤ 5 → igN b (pnJ b f g c) n = (fpl (igN b (fnJ b f) n).1 (igN b (fnJ b g) n).1 (fi c), fpl (igN b (fnJ b f) n).2 (igN b (fnJ b g) n).2 (fi c)) := by
  intro n
  induction n with
  | zero => intro _; show (f00, f00) = (fpl f00 f00 (fi c), fpl f00 f00 (fi c)); rw [fpl_00]
  | succ n ih =>
    intro hn
    have ih := ih (by omega)
    have jf := tm_spl (f := f) (i := 2 - (n : Int)) hb hf (by omega)
    have jg := tm_spl (f := g) (i := 2 - (n : Int)) hb hg (by omega)
    have jf2 : SplOK (b.tm (5 * f + (2 - (n : Int)) + 2)) 24 20 := ⟨jf.1.mono (by omega) (by omega), jf.2⟩
    have jg2 : SplOK (b.tm (5 * g + (2 - (n : Int)) + 2)) 24 20 := ⟨jg.1.mono (by omega) (by omega), jg.2⟩
    show igS b (pnJ b f g c) (2 - (n : Int)) (igN b (pnJ b f g c) n).1 = (fpl (igS b (fnJ b f) (2 - (n : Int)) (igN b (fnJ b f) n).1).1 (igS b (fnJ b g) (2 - (n : Int)) (igN b (fnJ b g) n).1).1 (fi c), fpl (igS b (fnJ b f) (2 - (n : Int)) (igN b (fnJ b f) n).1).2 (igS b (fnJ b g) (2 - (n : Int)) (igN b (fnJ b g) n).1).2 (fi c))
    unfold igS
    by_cases k1 : b.2.2.1 = 1
    · rw [if_pos k1, if_pos k1, if_pos k1]
      have w := clW_ok b (2 - (n : Int))
      unfold clW at w
      rw [if_neg (by omega)] at w
      exact sp2_lin jf2 jg2 w.1 w.2
    · rw [if_neg k1, if_neg k1, if_neg k1]
      by_cases d : 2 - (n : Int) = 0 ∨ b.2.2.1 = 2 ∧ 0 < 2 - (n : Int)
      · rw [if_pos d, if_pos d, if_pos d]
        have z0 : PS.zero.size ≤ 4 := by rw [PS.zero_sz]; omega
        by_cases k2 : b.2.2.1 = 2
        · rw [if_pos k2, if_pos k2, if_pos k2, ih]
          have du := Bd.du_ok hb (by omega)
          have qf := cls_q (i := 2 - (n : Int) + 1) hb hf (by omega) kf
          have qg := cls_q (i := 2 - (n : Int) + 1) hb hg (by omega) kg
          have tf := (cls_q2 (i := 2 - (n : Int)) hb hf k2 (by omega)).2
          have tg := (cls_q2 (i := 2 - (n : Int)) hb hg k2 (by omega)).2
          unfold igQ at qf qg
          rw [show (3 - (2 - (n : Int) + 1)).toNat = n by omega] at qf qg
          unfold igT at tf tg
          rw [if_pos k2, show (2 - (2 - (n : Int))).toNat = n by omega] at tf tg
          have sw := fpl_swap (c := fi c) (k := fi (-(2 - (n : Int) + 1))) (jf.1.mono (n' := 8) (d' := 8) (by omega) (by omega)) (jg.1.mono (n' := 8) (d' := 8) (by omega) (by omega)) qf qg (du.mono (n' := 4) (d' := 4) (by omega) (by omega))
          show sp2 (fpl (fpl (b.tm (5 * f + (2 - (n : Int)) + 2)) (b.tm (5 * g + (2 - (n : Int)) + 2)) (fi c)) (fml (fpl (igN b (fnJ b f) n).1 (igN b (fnJ b g) n).1 (fi c)) b.du) (fi (-(2 - (n : Int) + 1)))) PS.zero = _
          rw [sw]
          exact sp2_lin tf tg PS.fin_zero z0
        · rw [if_neg k2, if_neg k2, if_neg k2]
          exact sp2_lin jf2 jg2 PS.fin_zero z0
      · rw [if_neg d, if_neg d, if_neg d]
        show (f00, f00) = (fpl f00 f00 (fi c), fpl f00 f00 (fi c)); rw [fpl_00]
theorem ratI_sc {p q K : PS} (hp : p.fin) (hq : q.fin) (hK : K.fin) (q0 : q ≠ PS.zero) (K0 : K ≠ PS.zero) : 0 ≤ ratI (p.mul K) (q.mul K) ↔ 0 ≤ ratI p q := by
  constructor
  · intro h
    have r := ratI_rng (p.mul K) (q.mul K)
    have e := ratI_yes h
    have e2 : p = q.sm (fi (ratI (p.mul K) (q.mul K))) := by
      refine PS.cancel hK hp (PS.fin_sm _ hq) K0 ?_
      rw [PS.mul_comm K p, PS.mul_comm K (PS.sm _ q), PS.sm_mul]
      exact e
    rw [ratI_of hq q0 (by omega) e2]; exact h
  · intro h
    have r := ratI_rng p q
    have e := ratI_yes h
    rw [ratI_of (PS.fin_mul hq hK) (PS.fmul_ne hq hK q0 K0) (e := ratI p q) (by omega) (by rw [← PS.sm_mul, ← e])]
    exact h
theorem cm_is {b : Bd} {J : Int → FP2} {i c : Int} {x y : FP2} {n d : Nat} (hb : b.good) (h0 : i ≠ 0) (hx : FOK x n d) (hy : FOK y n d) (hd : d ≤ 60) (e : igR b J i = fpl x y (fi c)) : ¬ cmI b.2.2.1 x.1 x.2 y.1 y.2 b.uP b.uP.der c < 0 ↔ isI b J i := by
  have zx := hx.2.2
  have zy := hy.2.2
  have fN : ((x.1.mul y.2).add ((y.1.mul x.2).sm (fi c))).fin := PS.fin_add (PS.fin_mul hx.1.1 hy.1.2.1) (PS.fin_sm _ (PS.fin_mul hy.1.1 hx.1.2.1))
  have fD := PS.fin_mul hx.1.2.1 hy.1.2.1
  have nD := PS.fmul_ne hx.1.2.1 hy.1.2.1 hx.1.2.2.1 hy.1.2.2.1
  have zD := PS.mul_sz (n := 199) hx.1.2.1 hy.1.2.1 (by omega)
  obtain ⟨K, fK, K0, eN, eD⟩ := rd_fac fN fD nD (by omega)
  have eN : (x.1.mul y.2).add ((y.1.mul x.2).sm (fi c)) = (fpl x y (fi c)).1.mul K := eN
  have eD : x.2.mul y.2 = (fpl x y (fi c)).2.mul K := eD
  have sp := rd_spec fN fD nD (by omega)
  have rp : RDP (fpl x y (fi c)).1 (fpl x y (fi c)).2 := sp.1
  rw [← e] at eN eD rp
  have ci := cst_is (J := J) (i := i) hb h0 rp
  rw [← ci.1]
  unfold cmI cstI
  by_cases k : b.2.2.1 = 2
  · rw [if_pos k, if_pos k]
    obtain ⟨u1, u2, u3, u4⟩ := Bd.us hb (by omega)
    have e1 : ((x.1.mul y.2).mul b.uP).add (((y.1.mul x.2).mul b.uP).sm (fi c)) = ((igR b J i).1.mul b.uP).mul K := by
      have t := eN
      rw [sm_C] at t ⊢
      revert t
      generalize x.1.mul y.2 = A
      generalize y.1.mul x.2 = B
      generalize b.uP = u
      generalize (igR b J i).1 = X
      generalize PS.C (fi c) = k
      intro t
      letI := psRing
      have t : A + k * B = X * K := t
      show A * u + k * (B * u) = X * u * K
      grind
    have e2 : (x.2.mul y.2).mul b.uP.der = ((igR b J i).2.mul b.uP.der).mul K := by
      rw [eD]
      generalize b.uP.der = u
      generalize (igR b J i).2 = X
      letI := psRing
      show X * K * u = X * u * K
      grind
    rw [e1, e2]
    have t := ratI_sc (p := (igR b J i).1.mul b.uP) (q := (igR b J i).2.mul b.uP.der) (K := K) (PS.fin_mul rp.1 u1) (PS.fin_mul rp.2.1 u2) fK (PS.fmul_ne rp.2.1 u2 rp.2.2.1 u4) K0
    omega
  · rw [if_neg k, if_neg k, ratI_zero, ratI_zero, eN]
    by_cases z : (igR b J i).1 = PS.zero
    · rw [if1 z, if1 (by rw [z, PS.zero_mul])]
    · rw [if0 z, if0 (PS.fmul_ne rp.1 fK z K0)]
theorem jdO_0 {C : Int → Int} : jdO C = 0 ↔ ∀ j : Int, -2 ≤ j → j ≤ 2 → j ≠ 0 → 0 ≤ C j := by
  unfold jdO
  constructor
  · intro h j h0 h1 h2
    have hj : j = 2 ∨ j = 1 ∨ j = -1 ∨ j = -2 := by omega
    split at h
    · omega
    · split at h
      · omega
      · split at h
        · omega
        · split at h
          · omega
          · rcases hj with rfl | rfl | rfl | rfl <;> omega
  · intro h
    have a := h 2 (by omega) (by omega) (by omega)
    have b := h 1 (by omega) (by omega) (by omega)
    have c := h (-1) (by omega) (by omega) (by omega)
    have d := h (-2) (by omega) (by omega) (by omega)
    rw [if_neg (by omega), if_neg (by omega), if_neg (by omega), if_neg (by omega)]
/-- which numbers suit -/
theorem pen_fin {b : Bd} {f g c : Int} {p q : Nat} {π : Nat → PS} (hb : b.good) (hf : 0 ≤ f ∧ f < 3) (hg : 0 ≤ g ∧ g < 3) (kf : b.fit f ≠ 0) (kg : b.fit g ≠ 0) (u13 : π (p + 13) = b.uP) (u15 : π (p + 15) = b.uP.der)
    (hR : ∀ j : Int, -2 ≤ j → j ≤ 2 → π (p + 56 + 5 * (j + 2).toNat + 1) = (igR b (fnJ b f) j).1 ∧ π (p + 56 + 5 * (j + 2).toNat + 3) = (igR b (fnJ b f) j).2)
    (hQ : ∀ j : Int, -2 ≤ j → j ≤ 2 → π (q + 56 + 5 * (j + 2).toNat + 1) = (igR b (fnJ b g) j).1 ∧ π (q + 56 + 5 * (j + 2).toNat + 3) = (igR b (fnJ b g) j).2) :
    ((∀ j : Int, -2 ≤ j → j ≤ 2 → j ≠ 0 → 0 ≤ cJ b.2.2.1 p q π j c) ↔ (hwI b (pnJ b f g c) 5).1 = 1) := by
  have jh := jd_hw (b := b) (J := pnJ b f g c) (C := fun j => cJ b.2.2.1 p q π j c) (fun j h0 h1 h2 => by
    show ¬ cJ b.2.2.1 p q π j c < 0 ↔ _
    unfold cJ
    rw [(hR j h0 h1).1, (hR j h0 h1).2, (hQ j h0 h1).1, (hQ j h0 h1).2, u13, u15]
    refine cm_is hb h2 (cls_ok hb hf ⟨h0, h1⟩ kf).2 (cls_ok hb hg ⟨h0, h1⟩ kg).2 (by omega) ?_
    unfold igR
    rw [igN_lin hb hf hg kf kg (3 - j).toNat (by omega)])
  exact jdO_0.symm.trans jh.2.2.symm
theorem pen_lim {b : Bd} {f g : Int} {p q : Nat} {π : Nat → PS} (hb : b.good) (hf : 0 ≤ f ∧ f < 3) (hg : 0 ≤ g ∧ g < 3) (kf : b.fit f ≠ 0) (kg : b.fit g ≠ 0) (u13 : π (p + 13) = b.uP) (u15 : π (p + 15) = b.uP.der)
    (hR : ∀ j : Int, -2 ≤ j → j ≤ 2 → π (p + 56 + 5 * (j + 2).toNat + 1) = (igR b (fnJ b f) j).1 ∧ π (p + 56 + 5 * (j + 2).toNat + 3) = (igR b (fnJ b f) j).2)
    (hQ : ∀ j : Int, -2 ≤ j → j ≤ 2 → π (q + 56 + 5 * (j + 2).toNat + 1) = (igR b (fnJ b g) j).1 ∧ π (q + 56 + 5 * (j + 2).toNat + 3) = (igR b (fnJ b g) j).2) (j : Int) (h0 : -2 ≤ j) (h1 : j ≤ 2) : cmL p q π j := by
  unfold cmL
  rw [(hR j h0 h1).1, (hR j h0 h1).2, (hQ j h0 h1).1, (hQ j h0 h1).2, u13, u15]
  have x := (cls_ok hb hf ⟨h0, h1⟩ kf).2
  have y := (cls_ok hb hg ⟨h0, h1⟩ kg).2
  have z := b.uP_sz
  have fu : b.uP.fin := ⟨_, b.uP_lt⟩
  have ds := PS.der_size fu
  have px := PS.fpos x.1.2.1 x.1.2.2.1
  have py := PS.fpos y.1.2.1 y.1.2.2.1
  have a1 := x.2.1
  have a2 := x.2.2
  have b1 := y.2.1
  have b2 := y.2.2
  exact ⟨⟨⟨x.1.1, x.1.2.1⟩, ⟨y.1.1, y.1.2.1⟩, fu, PS.fin_der fu⟩, ⟨by omega, by omega⟩, ⟨by omega, by omega⟩, by omega⟩
