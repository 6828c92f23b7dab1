/-! ===== rows: lcmp, lconst, i2b, i2s, tableswitch ===== -/
def cmpI (a b : Int64) : Int := if a > b then 1 else if a == b then 0 else -1
section LC
variable {p : Program} {l : Launch} {e : Env} {R : Room} {s : State} {m : MethodId} {args : Array Value} {below : List Frame} {meth : Method} {c : Code} {H : Heap} {locs : List Loc} {cells slots : Nat} {Q : State → Prop}
variable {cc : ByteArray} {pc : Nat} {ls : Array Slot} {rest : List Value}
theorem my_lcmp (hexec : p.tables.exec = Jvm.exec) (hb : c.code = cc) {x y : Int64} {v : Int32} (hdg : decode cc pc = .ok (.lcmp, 1)) (hv : (if x > y then 1 else if x == y then 0 else -1) = v)
    (k : W p l e R s m args below meth c H locs cells slots Q (F0 m (pc + 1) ls (.int v :: rest))) : W p l e R s m args below meth c H locs cells slots Q (F0 m pc ls (.long y :: .long x :: rest)) := by
  intro T hT X
  obtain ⟨t, a, b⟩ := k T hT X
  refine ⟨t, ?_, b⟩
  rw [← hv] at a
  jvm_step X.here [X.here.top, hexec, hb, hdg]
  by_cases c1 : y < x
  · rw [if_pos c1]; rw [if_pos (show x > y from c1)] at a; exact a
  · rw [if_neg c1]; rw [if_neg (show ¬ x > y from c1)] at a
    by_cases c2 : x = y
    · rw [if_pos c2]; rw [if_pos (by simp [c2])] at a; exact a
    · rw [if_neg c2]; rw [if_neg (by simp [c2])] at a; exact a
end LC
section Rows6
variable {l : Launch} {G : Gl} {x : Fx} {cc : ByteArray} {own : String} {nL d : Nat} {rc cs : Nat × Nat} {Λ : Lay} {sz : Nat} {μ : Mem} {pc pc' : Nat} {lv lv' : List (Nat × Value)} {st : List Value}
theorem v_lcmp (hx : XOK l G x cc own nL d rc) {a b : Int64} (hd : dk cc pc .lcmp 1 pc') (kk : V G x cs Λ sz μ pc' lv (iv (cmpI a b) :: st)) : V G x cs Λ sz μ pc lv (.long b :: .long a :: st) := by
  intro H locs ls hH hL hl
  obtain ⟨h1, rfl⟩ := hd
  refine my_lcmp hx.1 hx.2.1 h1 (v := Int32.ofInt (cmpI a b)) ?_ (kk H locs ls hH hL hl)
  unfold cmpI
  by_cases c1 : a > b
  · rw [if_pos c1, if_pos c1]; rfl
  · rw [if_neg c1, if_neg c1]
    by_cases c2 : (a == b) = true
    · rw [if_pos c2, if_pos c2]; rfl
    · rw [if_neg c2, if_neg c2]; rfl
theorem v_lconst (hx : XOK l G x cc own nL d rc) {k : Fin 2} {w : Int64} (hd : dk cc pc (.lconst k) 1 pc') (hw : Int64.ofNat (k : Nat) = w) (kk : V G x cs Λ sz μ pc' lv (.long w :: st)) : V G x cs Λ sz μ pc lv st := by
  intro H locs ls hH hL hl
  obtain ⟨h1, rfl⟩ := hd
  exact lv_lconst hx.1 hx.2.1 h1 hw (kk H locs ls hH hL hl)
theorem v_i2b (hx : XOK l G x cc own nL d rc) {a z : Int} (hd : dk cc pc .i2b 1 pc') (hz : (Int32.ofInt a).toInt8.toInt32 = Int32.ofInt z) (kk : V G x cs Λ sz μ pc' lv (iv z :: st)) : V G x cs Λ sz μ pc lv (iv a :: st) := by
  intro H locs ls hH hL hl
  obtain ⟨h1, rfl⟩ := hd
  exact lv_i2b hx.1 hx.2.1 h1 hz (kk H locs ls hH hL hl)
theorem v_i2s (hx : XOK l G x cc own nL d rc) {a z : Int} (hd : dk cc pc .i2s 1 pc') (hz : (Int32.ofInt a).toInt16.toInt32 = Int32.ofInt z) (kk : V G x cs Λ sz μ pc' lv (iv z :: st)) : V G x cs Λ sz μ pc lv (iv a :: st) := by
  intro H locs ls hH hL hl
  obtain ⟨h1, rfl⟩ := hd
  exact lv_i2s hx.1 hx.2.1 h1 hz (kk H locs ls hH hL hl)
theorem v_tabOut (hx : XOK l G x cc own nL d rc) {dflt lo hi : Int} {offs : Array Int} {len : Nat} {a : Int} {tgt : Nat} (hd : dk cc pc (.tableswitch dflt lo hi offs) len pc') (ha : inR a) (h : a < lo ∨ hi < a) (ht : (pc : Int) + dflt = (tgt : Int)) (kk : V G x cs Λ sz μ tgt lv st) : V G x cs Λ sz μ pc lv (iv a :: st) := by
  intro H locs ls hH hL hl
  obtain ⟨h1, -⟩ := hd
  exact lv_tableOut hx.1 hx.2.1 h1 (by rw [ofI_int ha]; exact h) ht (kk H locs ls hH hL hl)
theorem v_tabIn (hx : XOK l G x cc own nL d rc) {dflt lo hi : Int} {offs : Array Int} {len : Nat} {a off : Int} {tgt : Nat} (hd : dk cc pc (.tableswitch dflt lo hi offs) len pc') (ha : inR a) (h : lo ≤ a ∧ a ≤ hi) (ho : offs[(a - lo).toNat]? = some off) (ht : (pc : Int) + off = (tgt : Int)) (kk : V G x cs Λ sz μ tgt lv st) : V G x cs Λ sz μ pc lv (iv a :: st) := by
  intro H locs ls hH hL hl
  obtain ⟨h1, -⟩ := hd
  exact lv_tableIn hx.1 hx.2.1 h1 (by rw [ofI_int ha]; omega) (by rw [ofI_int ha]; omega) (by rw [ofI_int ha]; exact ho) ht (kk H locs ls hH hL hl)
end Rows6
theorem cmpI_rng (a b : Int64) : -1 ≤ cmpI a b ∧ cmpI a b ≤ 1 := by unfold cmpI; split <;> (try split) <;> omega
theorem cmpI_lt {a b : Int64} : cmpI a b < 0 ↔ a.toInt < b.toInt := by
  unfold cmpI
  by_cases c1 : a > b
  · rw [if_pos c1]
    have := Int64.lt_iff_toInt_lt.mp c1
    omega
  · rw [if_neg c1]
    have h1 : ¬ b.toInt < a.toInt := fun q => c1 (Int64.lt_iff_toInt_lt.mpr q)
    by_cases c2 : (a == b) = true
    · rw [if_pos c2]
      have : a = b := eq_of_beq c2
      rw [this]; omega
    · rw [if_neg c2]
      have : a.toInt ≠ b.toInt := fun q => c2 (by rw [Int64.toInt_inj.mp q]; simp)
      omega
theorem cmpI_gt {a b : Int64} : 0 < cmpI a b ↔ b.toInt < a.toInt := by
  unfold cmpI
  by_cases c1 : a > b
  · rw [if_pos c1]
    have := Int64.lt_iff_toInt_lt.mp c1
    omega
  · rw [if_neg c1]
    have h1 : ¬ b.toInt < a.toInt := fun q => c1 (Int64.lt_iff_toInt_lt.mpr q)
    split <;> omega
theorem i2l_int {z : Int} (h : inR z) : ((Int32.ofInt z).toInt64).toInt = z := by rw [Int32.toInt_toInt64, ofI_int h]
theorem ladd_int {z w : Int} (h : inR z) (h' : inR w) : ((Int32.ofInt z).toInt64 + (Int32.ofInt w).toInt64).toInt = z + w := by
  rw [i2l_of h, i2l_of h', ← Int64.ofInt_add, Int64.toInt_ofInt_of_le (by have := h.1; have := h'.1; omega) (by have := h.2; have := h'.2; omega)]
/-! ===== a sheet: items σ + 1 (24 longs), lane, size ===== -/
def sheetK (Λ : Lay) (σ : Nat) : Prop := Λ σ = some (.inl (8, [some (.ref (σ + 1)), none, none])) ∧ Λ (σ + 1) = some (.inr (2, 24, []))
/-- lane, size, items -/
abbrev Sht : Type := Int × Int × (Int → Int64)
def SA (μ : Mem) (σ : Nat) (s : Sht) : Prop := (-1 ≤ s.1 ∧ s.1 ≤ 3) ∧ (0 ≤ s.2.1 ∧ s.2.1 ≤ 24) ∧ μ.1 σ 1 = s.1 ∧ μ.1 σ 2 = s.2.1 ∧ ∀ j, 0 ≤ j → j < 24 → μ.2 (σ + 1) j = s.2.2 j
def isN (w : Int64) : Prop := 0 ≤ w.toInt ∧ w.toInt < 101
/-- what a lane keeps of a number -/
def cut (lane : Int) (w : Int64) : Int64 := if lane = 0 then w.toInt32.toInt8.toInt32.toInt64 else if lane = 1 then w.toInt32.toInt16.toInt32.toInt64 else if lane = 2 then w.toInt32.toInt64 else w
noncomputable def Sht.ref (s : Sht) (lane i k : Int) : Int := if s.1 = -1 then -11 else if s.1 ≠ lane then -12 else if 0 ≤ i ∧ 0 ≤ k ∧ i + k ≤ s.2.1 then 0 else -13
abbrev FrS (σ : Nat) (μ μ' : Mem) : Prop := (∀ a, a ≠ σ → μ'.1 a = μ.1 a) ∧ ∀ a, a ≠ σ + 1 → μ'.2 a = μ.2 a
theorem mL_at {μ : Mem} {a : Nat} {i j : Int} {w : Int64} : (mL μ a i w).2 a j = if j = i then w else μ.2 a j := u2_at
theorem mL_ne {μ : Mem} {a b : Nat} {i : Int} {w : Int64} (h : b ≠ a) : (mL μ a i w).2 b = μ.2 b := u2_ne h
theorem o32 (v : Int32) : Int32.ofInt v.toInt = v := Int32.ofInt_toInt v
theorem SA.set {μ m : Mem} {σ : Nat} {s : Sht} {i : Int} {w v : Int64} (h : SA μ σ s) (hv : v = cut s.1 w) (e : m = mL μ (σ + 1) i v) : SA m σ (s.1, s.2.1, fun j => if j = i then cut s.1 w else s.2.2 j) ∧ FrS σ μ m := by
  refine ⟨⟨h.1, h.2.1, by rw [e]; exact h.2.2.1, by rw [e]; exact h.2.2.2.1, fun j h0 h1 => ?_⟩, fun a _ => by rw [e]; rfl, fun a ha => by rw [e]; exact mL_ne ha⟩
  rw [e, mL_at, hv]
  show _ = if j = i then cut s.1 w else s.2.2 j
  rw [h.2.2.2.2 j h0 h1]
