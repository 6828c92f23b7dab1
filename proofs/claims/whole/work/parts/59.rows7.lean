section Rows7
variable {l : Launch} {G : Gl} {x : Fx} {cc : ByteArray} {own : String} {nL d : Nat} {rc cs : Nat × Nat} {Λ : Lay} {sz : Nat} {μ : Mem} {pc pc' : Nat} {lv lv' : List (Nat × Value)} {st : List Value}
theorem v_iushr (hx : XOK l G x cc own nL d rc) {a b z : Int} (hd : dk cc pc .iushr 1 pc') (hz : ((Int32.ofInt a).toUInt32 >>> ((Int32.ofInt b).toUInt32 &&& Int32.toUInt32 31)).toInt32 = Int32.ofInt z) (kk : V G x cs Λ sz μ pc' lv (iv z :: st)) : V G x cs Λ sz μ pc lv (iv b :: iv a :: st) := by
  intro H locs ls hH hL hl
  obtain ⟨h1, rfl⟩ := hd
  exact lv_iushr hx.1 hx.2.1 h1 hz (kk H locs ls hH hL hl)
theorem v_ldcw (hx : XOK l G x cc own nL d rc) {i : Nat} {v : Int32} {z : Int} (hd : dk cc pc (.ldc_w i) 3 pc') (hC : Cond.constant own i v ∈ lw_tbl) (hz : v = Int32.ofInt z) (kk : V G x cs Λ sz μ pc' lv (iv z :: st)) : V G x cs Λ sz μ pc lv st := by
  intro H locs ls hH hL hl
  obtain ⟨h1, rfl⟩ := hd
  refine lv_ldcw hx.1 hx.2.1 hx.2.2.2.1 (hx.2.2.2.2.1 _ (memtb hC rfl)) h1 ?_
  rw [hz]; exact kk H locs ls hH hL hl
end Rows7
/-- how many bits of five -/
def bcI (v : Int) : Int := v % 2 + v / 2 % 2 + v / 4 % 2 + v / 8 % 2 + v / 16 % 2
theorem i32_rng (v : Int32) : inR v.toInt := ⟨Int32.le_toInt v, by have := Int32.toInt_lt v; omega⟩
theorem xor_sign {a : Int} (h : -16 ≤ a ∧ a < 16) : (Int32.ofInt a ^^^ Int32.ofInt 101).toInt < 0 ↔ a < 0 := by
  have q : ∀ k : Fin 32, ((Int32.ofInt ((k.val : Int) - 16) ^^^ Int32.ofInt 101).toInt < 0 ↔ ((k.val : Int) - 16) < 0) := by decide +kernel
  have := q ⟨(a + 16).toNat, by omega⟩
  dsimp only at this
  rwa [show (((a + 16).toNat : Nat) : Int) - 16 = a by omega] at this
theorem tmod_small {a : Int} (h : -16 ≤ a ∧ a < 16) : a.tmod 101 = a := by
  have q : ∀ k : Fin 32, ((k.val : Int) - 16).tmod 101 = ((k.val : Int) - 16) := by decide +kernel
  have := q ⟨(a + 16).toNat, by omega⟩
  dsimp only at this
  rwa [show (((a + 16).toNat : Nat) : Int) - 16 = a by omega] at this
