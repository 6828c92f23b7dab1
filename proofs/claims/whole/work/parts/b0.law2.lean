/-! ===== the law: its own rows ===== -/
section LRows
variable {l : Launch} {G : Gl} {x : Fx} {cc : ByteArray} {own : String} {nL d : Nat} {rc cs : Nat × Nat} {Λ : Lay} {sz : Nat} {μ : Mem} {pc pc' : Nat} {lv lv' : List (Nat × Value)} {st : List Value}
theorem v_ceq (hx : XOK l G x cc own nL d rc) {a : Int} {tgt : Nat} (hd : di cc pc .eq tgt pc') (kt : V G x cs Λ sz μ tgt lv st) : V G x cs Λ sz μ pc lv (iv a :: iv a :: st) := by
  intro H locs ls hH hL hl
  obtain ⟨off, h1, h2, rfl⟩ := hd
  exact lv_icmp_eq hx.1 hx.2.1 h1 h2 (fun q => kt H locs ls hH hL hl) (fun q => absurd rfl q)
theorem v_lor (hx : XOK l G x cc own nL d rc) {a b : Int64} (hd : dk cc pc .lor 1 pc') (kk : V G x cs Λ sz μ pc' lv (.long (a ||| b) :: st)) : V G x cs Λ sz μ pc lv (.long b :: .long a :: st) := by
  intro H locs ls hH hL hl
  obtain ⟨h1, rfl⟩ := hd
  exact lv_lor hx.1 hx.2.1 h1 (kk H locs ls hH hL hl)
theorem v_lshl (hx : XOK l G x cc own nL d rc) {a v : Int64} {n : Int} (hd : dk cc pc .lshl 1 pc') (hv : a <<< ((Int32.ofInt n).toInt64 &&& 63) = v) (kk : V G x cs Λ sz μ pc' lv (.long v :: st)) : V G x cs Λ sz μ pc lv (iv n :: .long a :: st) := by
  intro H locs ls hH hL hl
  obtain ⟨h1, rfl⟩ := hd
  exact lv_lshl hx.1 hx.2.1 h1 hv (kk H locs ls hH hL hl)
/-- the script's int at i + k -/
theorem v_arg (hx : XOK l G x cc own nL d rc) {p1 p2 p3 p4 b ns : Nat} {i k : Int} {v2 v1 : Value} (D0 : da cc pc 0 p1) (D1 : dl cc p1 3 p2) (D2 : dp cc p2 k p3) (D3 : dk cc p3 .iadd 1 p4) (D4 : dk cc p4 .iaload 1 pc') (hk : Λ b = some (.inr (9, ns, []))) (hn : ns < 2) (hi : 0 ≤ i ∧ i + 6 ≤ gN G ns) (hN : gN G ns ≤ 3072) (h0 : 0 ≤ k ∧ k ≤ 5)
    (kk : V G x cs Λ sz μ pc' [(3, iv i), (2, v2), (1, v1), (0, .ref b)] (iv (gT G ns (i + k)) :: st)) : V G x cs Λ sz μ pc [(3, iv i), (2, v2), (1, v1), (0, .ref b)] st := by
  refine v_aload hx D0 3 rfl ?_
  refine v_iload hx D1 0 rfl ?_
  refine v_push hx D2 ?_
  refine v_iadd hx D3 ?_
  exact v_cald hx D4 hk hn (by omega) (by omega) rfl kk
end LRows
/-- the image changed -/
theorem RS.im {μ μ' : Mem} {ν : Nat} {b : Bd} {h : Hs} {im im' : Option (Bd × Hs)} {T : List Int} {S : Int → Sht} {A : List Nat} {J : List Int} (c : RS μ ν b h im T S) (r : RI μ' ν im') (f : FrN ν A J μ μ') (h5 : ν + 1 ∉ A ∧ ν + 3 ∉ A ∧ ν + 4 ∉ A ∧ ν + 7 ∉ A ∧ ν + 12 ∉ A ∧ ν + 15 ∉ A ∧ ν + 16 ∉ A) (hJ : 2 ∉ J ∧ 4 ∉ J ∧ 5 ∉ J ∧ 6 ∉ J ∧ 25 ∉ J) : RS μ' ν b h im' T S := by
  obtain ⟨⟨⟨ρ, c1⟩, c2⟩, c3, c4, c5, X, c6⟩ := c
  exact ⟨⟨⟨ρ, c1.frN f h5.1 h5.2.1 hJ.1 hJ.2.1⟩, c2.frN f h5.2.2.1 hJ.2.2.1 hJ.2.2.2.1⟩, r, c4.frN f h5.2.2.2.2.1 hJ.2.2.2.2, c5.frN f h5.2.2.2.2.2.1 h5.2.2.2.2.2.2, X, c6.frN f h5.2.2.2.1⟩
/-- board, history and tape changed -/
theorem RS.rd {μ μ' : Mem} {ν : Nat} {b b' : Bd} {h h' : Hs} {im : Option (Bd × Hs)} {T T' : List Int} {S : Int → Sht} {A : List Nat} {J : List Int} (c : RS μ ν b h im T S) (r : StR μ' ν b' h') (t : RT μ' ν T') (f : FrN ν A J μ μ') (h5 : ν + 5 ∉ A ∧ ν + 7 ∉ A ∧ ν + 15 ∉ A ∧ ν + 16 ∉ A) (hJ : 8 ∉ J ∧ 9 ∉ J ∧ 10 ∉ J) : RS μ' ν b' h' im T' S := by
  obtain ⟨-, c3, c4, c5, X, c6⟩ := c
  exact ⟨r, c3.frN f h5.1 hJ.1 hJ.2.1 hJ.2.2, t, c5.frN f h5.2.2.1 h5.2.2.2, X, c6.frN f h5.2.1⟩
/-- answers of undo, seed, restore, tower in one form -/
theorem undo_one {μ μ' : Mem} {ν : Nat} {ρ : Nat → PS} {b : Bd} {h : Hs} {z : Int} (ha : RA μ ν ρ b) (hh : RH μ ν h) (q : (z = -4 ∧ h.1 = 0 ∧ μ' = μ) ∨ (z = (h.1 : Int) - 1 ∧ h.1 ≠ 0 ∧ RH μ' ν h.pop ∧ (∃ σ, RA μ' ν σ (h.2 0)) ∧ FrN ν [ν + 1, ν + 3] [2, 4, 5, 6] μ μ')) : z = (if h.1 = 0 then -4 else (h.pop.1 : Int)) ∧ StR μ' ν (undB b h) (undH h) ∧ FrN ν [ν + 1, ν + 3] [2, 4, 5, 6] μ μ' := by
  unfold undB undH
  rcases q with ⟨q1, q2, q3⟩ | ⟨q1, q2, q3, q4, q5⟩
  · rw [if_pos q2, if_pos q2, if_pos q2, q3]; exact ⟨q1, ⟨⟨ρ, ha⟩, hh⟩, FrN.rf⟩
  · rw [if_neg q2, if_neg q2, if_neg q2]
    refine ⟨?_, ⟨q4, q3⟩, q5⟩
    show z = ((h.1 - 1 : Nat) : Int)
    omega
theorem seed_one {μ μ' : Mem} {ν : Nat} {ρ : Nat → PS} {b : Bd} {z v : Int} (ha : RA μ ν ρ b) (q : (z = -1 ∧ v < 0 ∧ μ' = μ) ∨ (z = b.2.2.2 ∧ 0 ≤ v ∧ RA μ' ν ρ (b.1, b.2.1, b.2.2.1, v) ∧ FrN ν [] [4] μ μ')) : z = (if v < 0 then -1 else b.2.2.2) ∧ RA μ' ν ρ (sedB b v) ∧ FrN ν [] [4] μ μ' := by
  unfold sedB
  rcases q with ⟨q1, q2, q3⟩ | ⟨q1, q2, q3, q4⟩
  · rw [if_pos q2, if_pos q2, q3]; exact ⟨q1, ha, FrN.rf⟩
  · rw [if_neg (by omega), if_neg (by omega)]; exact ⟨q1, q3, q4⟩
theorem rest_one {μ μ' : Mem} {ν : Nat} {ρ : Nat → PS} {b : Bd} {h : Hs} {im : Option (Bd × Hs)} {z : Int} (ha : RA μ ν ρ b) (hh : RH μ ν h) (q : (z = -4 ∧ im = none ∧ μ' = μ) ∨ (z = 1 ∧ ∃ c k, im = some (c, k) ∧ (∃ σ, RA μ' ν σ c) ∧ RH μ' ν k ∧ FrN ν [ν + 1, ν + 3, ν + 4] [2, 4, 5, 6] μ μ')) : z = (if im = none then -4 else 1) ∧ StR μ' ν (rsoB b im) (rsoH h im) ∧ FrN ν [ν + 1, ν + 3, ν + 4] [2, 4, 5, 6] μ μ' := by
  rcases q with ⟨q1, q2, q3⟩ | ⟨q1, c, k, q2, q3, q4, q5⟩
  · subst q2; rw [if_pos rfl, q3]; exact ⟨q1, ⟨⟨ρ, ha⟩, hh⟩, FrN.rf⟩
  · subst q2; rw [if_neg (by simp)]; exact ⟨q1, ⟨q3, q4⟩, q5⟩
theorem towr_one {μ μ' : Mem} {ν : Nat} {ρ : Nat → PS} {b : Bd} {h : Hs} {z q a0 a1 a2 a3 : Int} (ha : RA μ ν ρ b) (hh : RH μ ν h) (w : z = towA b q a0 a1 a2 a3 ∧ ((z < 0 ∧ μ' = μ) ∨ (0 ≤ z ∧ StR μ' ν (b.tow q a0 a1 a2 a3) (h.push b) ∧ FrN ν [ν + 3, ν + 4] [2, 5, 6] μ μ'))) : z = towA b q a0 a1 a2 a3 ∧ StR μ' ν (twB b q a0 a1 a2 a3) (twH b h q a0 a1 a2 a3) ∧ FrN ν [ν + 3, ν + 4] [2, 5, 6] μ μ' := by
  obtain ⟨w1, w2⟩ := w
  refine ⟨w1, ?_⟩
  unfold twB twH
  rw [← w1]
  rcases w2 with ⟨q1, q2⟩ | ⟨q1, q2, q3⟩
  · rw [if_neg (by omega), if_neg (by omega), q2]; exact ⟨⟨⟨ρ, ha⟩, hh⟩, FrN.rf⟩
  · rw [if_pos q1, if_pos q1]; exact ⟨q2, q3⟩
