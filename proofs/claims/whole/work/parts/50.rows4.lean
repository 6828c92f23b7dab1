/-! ===== rows: bits, longs ===== -/
section Rows4
variable {l : Launch} {G : Gl} {x : Fx} {cc : ByteArray} {own : String} {nL d : Nat} {rc cs : Nat × Nat} {Λ : Lay} {sz : Nat} {μ : Mem} {pc pc' : Nat} {lv lv' : List (Nat × Value)} {st : List Value}
theorem v_iand (hx : XOK l G x cc own nL d rc) {a b z : Int} (hd : dk cc pc .iand 1 pc') (hz : Int32.ofInt a &&& Int32.ofInt b = Int32.ofInt z) (kk : V G x cs Λ sz μ pc' lv (iv z :: st)) : V G x cs Λ sz μ pc lv (iv b :: iv a :: st) := by
  intro H locs ls hH hL hl
  obtain ⟨h1, rfl⟩ := hd
  refine lv_iand hx.1 hx.2.1 h1 ?_
  rw [hz]; exact kk H locs ls hH hL hl
theorem v_ior (hx : XOK l G x cc own nL d rc) {a b z : Int} (hd : dk cc pc .ior 1 pc') (hz : Int32.ofInt a ||| Int32.ofInt b = Int32.ofInt z) (kk : V G x cs Λ sz μ pc' lv (iv z :: st)) : V G x cs Λ sz μ pc lv (iv b :: iv a :: st) := by
  intro H locs ls hH hL hl
  obtain ⟨h1, rfl⟩ := hd
  refine lv_ior hx.1 hx.2.1 h1 ?_
  rw [hz]; exact kk H locs ls hH hL hl
theorem v_ixor (hx : XOK l G x cc own nL d rc) {a b z : Int} (hd : dk cc pc .ixor 1 pc') (hz : Int32.ofInt a ^^^ Int32.ofInt b = Int32.ofInt z) (kk : V G x cs Λ sz μ pc' lv (iv z :: st)) : V G x cs Λ sz μ pc lv (iv b :: iv a :: st) := by
  intro H locs ls hH hL hl
  obtain ⟨h1, rfl⟩ := hd
  refine lv_ixor hx.1 hx.2.1 h1 ?_
  rw [hz]; exact kk H locs ls hH hL hl
theorem v_ishl (hx : XOK l G x cc own nL d rc) {a b z : Int} (hd : dk cc pc .ishl 1 pc') (hz : Int32.ofInt a <<< (Int32.ofInt b &&& 31) = Int32.ofInt z) (kk : V G x cs Λ sz μ pc' lv (iv z :: st)) : V G x cs Λ sz μ pc lv (iv b :: iv a :: st) := by
  intro H locs ls hH hL hl
  obtain ⟨h1, rfl⟩ := hd
  refine lv_ishl hx.1 hx.2.1 h1 ?_
  rw [hz]; exact kk H locs ls hH hL hl
theorem v_i2l (hx : XOK l G x cc own nL d rc) {a : Int} {w : Int64} (hd : dk cc pc .i2l 1 pc') (hz : (Int32.ofInt a).toInt64 = w) (kk : V G x cs Λ sz μ pc' lv (.long w :: st)) : V G x cs Λ sz μ pc lv (iv a :: st) := by
  intro H locs ls hH hL hl
  obtain ⟨h1, rfl⟩ := hd
  exact lv_i2l hx.1 hx.2.1 h1 hz (kk H locs ls hH hL hl)
theorem v_l2i (hx : XOK l G x cc own nL d rc) {a : Int} {w : Int64} (hd : dk cc pc .l2i 1 pc') (hz : w.toInt32 = Int32.ofInt a) (kk : V G x cs Λ sz μ pc' lv (iv a :: st)) : V G x cs Λ sz μ pc lv (.long w :: st) := by
  intro H locs ls hH hL hl
  obtain ⟨h1, rfl⟩ := hd
  exact lv_l2i hx.1 hx.2.1 h1 hz (kk H locs ls hH hL hl)
theorem v_ladd (hx : XOK l G x cc own nL d rc) {a b : Int64} (hd : dk cc pc .ladd 1 pc') (kk : V G x cs Λ sz μ pc' lv (.long (a + b) :: st)) : V G x cs Λ sz μ pc lv (.long b :: .long a :: st) := by
  intro H locs ls hH hL hl
  obtain ⟨h1, rfl⟩ := hd
  exact lv_ladd hx.1 hx.2.1 h1 (kk H locs ls hH hL hl)
theorem v_lmul (hx : XOK l G x cc own nL d rc) {a b : Int64} (hd : dk cc pc .lmul 1 pc') (kk : V G x cs Λ sz μ pc' lv (.long (a * b) :: st)) : V G x cs Λ sz μ pc lv (.long b :: .long a :: st) := by
  intro H locs ls hH hL hl
  obtain ⟨h1, rfl⟩ := hd
  exact lv_lmul hx.1 hx.2.1 h1 (kk H locs ls hH hL hl)
theorem v_land (hx : XOK l G x cc own nL d rc) {a b : Int64} (hd : dk cc pc .land 1 pc') (kk : V G x cs Λ sz μ pc' lv (.long (a &&& b) :: st)) : V G x cs Λ sz μ pc lv (.long b :: .long a :: st) := by
  intro H locs ls hH hL hl
  obtain ⟨h1, rfl⟩ := hd
  exact lv_land hx.1 hx.2.1 h1 (kk H locs ls hH hL hl)
theorem v_ldc (hx : XOK l G x cc own nL d rc) {i : Nat} {v : Int32} {z : Int} (hd : dk cc pc (.ldc i) 2 pc') (hC : Cond.constant own i v ∈ lw_tbl) (hz : v = Int32.ofInt z) (kk : V G x cs Λ sz μ pc' lv (iv z :: st)) : V G x cs Λ sz μ pc lv st := by
  intro H locs ls hH hL hl
  obtain ⟨h1, rfl⟩ := hd
  refine lv_ldc hx.1 hx.2.1 hx.2.2.2.1 (hx.2.2.2.2.1 _ (memtb hC rfl)) h1 ?_
  rw [hz]; exact kk H locs ls hH hL hl
theorem v_ldc2 (hx : XOK l G x cc own nL d rc) {i : Nat} {v : Int64} (hd : dk cc pc (.ldc2_w i) 3 pc') (hC : Cond.constantLong own i v ∈ lw_tbl) (kk : V G x cs Λ sz μ pc' lv (.long v :: st)) : V G x cs Λ sz μ pc lv st := by
  intro H locs ls hH hL hl
  obtain ⟨h1, rfl⟩ := hd
  exact lv_ldc2 hx.1 hx.2.1 hx.2.2.2.1 (hx.2.2.2.2.1 _ (memtb hC rfl)) h1 (kk H locs ls hH hL hl)
end Rows4
/-! ===== the board: cells β + 1 (15 terms of 7 + 5), u at β + 2, kind, random ===== -/
def boardK (Λ : Lay) (β : Nat) : Prop := Λ β = some (.inl (0, [some (.ref (β + 1)), some (.ref (β + 2)), none, none])) ∧ Λ (β + 1) = some (.inr (0, 180, [])) ∧ Λ (β + 2) = some (.inr (0, 4, []))
/-- cells, u, kind, random -/
abbrev Bd : Type := (Int → Int) × (Int → Int) × Int × Int
def Bd.ok (b : Bd) : Prop := (∀ j, 0 ≤ b.1 j ∧ b.1 j ≤ 100) ∧ (∀ j, 0 ≤ b.2.1 j ∧ b.2.1 j ≤ 100) ∧ (0 ≤ b.2.2.1 ∧ b.2.2.1 ≤ 2) ∧ (0 ≤ b.2.2.2 ∧ b.2.2.2 ≤ 2147483647)
def BA (μ : Mem) (β : Nat) (b : Bd) : Prop := b.ok ∧ (∀ j, 0 ≤ j → j < 180 → μ.1 (β + 1) j = b.1 j) ∧ (∀ j, 0 ≤ j → j < 4 → μ.1 (β + 2) j = b.2.1 j) ∧ μ.1 β 2 = b.2.2.1 ∧ μ.1 β 3 = b.2.2.2
def hasC (t k : Int) : Int := if 0 ≤ t ∧ t < 15 ∧ 0 ≤ k ∧ k < 12 then 1 else 0
def Bd.cell (b : Bd) (t k : Int) : Int := if 0 ≤ t ∧ t < 15 ∧ 0 ≤ k ∧ k < 12 then b.1 (t * 12 + k) else 0
theorem Bd.cell_rng {b : Bd} (h : b.ok) (t k : Int) : 0 ≤ b.cell t k ∧ b.cell t k ≤ 100 := by
  unfold Bd.cell
  split
  · exact h.1 _
  · omega
def Bd.num (b : Bd) (t : Int) : PS := fun k => if k < 7 then fi (b.cell t k) else 0
def Bd.den (b : Bd) (t : Int) : PS := fun k => if 0 ≤ t ∧ t < 15 then (if k < 5 then fi (b.cell t (7 + k)) else 0) else PS.one k
theorem Bd.num_lt (b : Bd) (t : Int) : (b.num t).lt 7 := fun k hk => by unfold Bd.num; rw [if_neg (by omega)]
theorem Bd.num_cf {b : Bd} (h : b.ok) {t k : Int} (h0 : 0 ≤ k) (h7 : k < 7) : cf (b.num t) k = b.cell t k := by
  have hr := b.cell_rng h t k
  refine cf_of (by omega) ?_
  unfold Bd.num
  rw [if_pos (by omega), Int.toNat_of_nonneg h0]
theorem Bd.den_cf {b : Bd} (h : b.ok) {t k : Int} (ht : 0 ≤ t ∧ t < 15) (h0 : 0 ≤ k) (h5 : k < 5) : cf (b.den t) k = b.cell t (7 + k) := by
  have hr := b.cell_rng h t (7 + k)
  refine cf_of (by omega) ?_
  unfold Bd.den
  rw [if_pos ht, if_pos (by omega), Int.toNat_of_nonneg h0]
/-- no cell of a board is a polynomial's -/
theorem boardK.off {Λ : Lay} {β : Nat} (h : boardK Λ β) : ¬ polyC Λ β ∧ ¬ polyC Λ (β + 1) ∧ ¬ polyC Λ (β + 2) := by
  refine ⟨?_, ?_, ?_⟩
  · rintro (q | ⟨b, rfl, q⟩)
    · have := h.1.symm.trans q.1; simp at this
    · have := h.1.symm.trans q.2; simp at this
  · rintro (q | ⟨b, e, q⟩)
    · have := h.2.1.symm.trans q.1; simp at this
    · have e2 : β = b := by omega
      subst e2
      have := h.1.symm.trans q.1; simp at this
  · rintro (q | ⟨b, e, q⟩)
    · have := h.2.2.symm.trans q.1; simp at this
    · have e2 : β + 1 = b := by omega
      rw [← e2] at q
      have := h.2.1.symm.trans q.1; simp at this
theorem BA.oth {Λ : Lay} {μ μ' : Mem} {β : Nat} {b : Bd} (h : BA μ β b) (hK : boardK Λ β) (ho : Oth Λ μ μ') : BA μ' β b := by
  have o := hK.off
  exact ⟨h.1, fun j h0 h1 => by rw [ho.1 _ o.2.1]; exact h.2.1 j h0 h1, fun j h0 h1 => by rw [ho.1 _ o.2.2]; exact h.2.2.1 j h0 h1, by rw [ho.1 _ o.1]; exact h.2.2.2.1, by rw [ho.1 _ o.1]; exact h.2.2.2.2⟩
theorem Bd.den_lt (b : Bd) (t : Int) : (b.den t).lt 5 := fun k hk => by
  unfold Bd.den
  split
  · rw [if_neg (by omega)]
  · exact PS.C_lt 1 k (by omega)
/-- a word of yes or no -/
noncomputable def bz (P : Prop) : Int := @ite Int P (Classical.propDecidable P) 1 0
theorem bz_pos {P : Prop} (h : P) : bz P = 1 := if_pos h
theorem bz_neg {P : Prop} (h : ¬ P) : bz P = 0 := if_neg h
theorem bz_rng (P : Prop) : 0 ≤ bz P ∧ bz P ≤ 1 := by
  by_cases h : P
  · rw [bz_pos h]; omega
  · rw [bz_neg h]; omega
theorem bz_one {P : Prop} : bz P = 1 ↔ P := by
  by_cases h : P
  · rw [bz_pos h]; exact ⟨fun _ => h, fun _ => rfl⟩
  · rw [bz_neg h]; exact ⟨fun q => by omega, fun q => absurd q h⟩
theorem bz_zero {P : Prop} : bz P = 0 ↔ ¬ P := by
  by_cases h : P
  · rw [bz_pos h]; exact ⟨fun q => by omega, fun q => absurd h q⟩
  · rw [bz_neg h]; exact ⟨fun _ => h, fun _ => rfl⟩
noncomputable def Bd.fl (b : Bd) (f : Int) : Nat → Int
  | 0 => 0
  | k + 1 => Bd.fl b f k + (if bz (b.num (f * 5 + (k : Int)) = PS.zero) = 1 then 0 else 2 ^ k)
theorem Bd.fl_rng (b : Bd) (f : Int) (k : Nat) : 0 ≤ b.fl f k ∧ b.fl f k < 2 ^ k := by
  induction k with
  | zero => exact ⟨Int.le_refl _, show (0 : Int) < 2 ^ 0 by decide⟩
  | succ k ih =>
    rw [Bd.fl]
    have h : (2 : Int) ^ (k + 1) = 2 ^ k * 2 := Int.pow_succ ..
    have h0 : (0 : Int) < 2 ^ k := Int.pow_pos (by omega)
    split <;> omega
theorem bit_or {s : Int} {k : Nat} (hk : k < 5) (hs : 0 ≤ s ∧ s < 2 ^ k) : Int32.ofInt s ||| Int32.ofInt (2 ^ k) = Int32.ofInt (s + 2 ^ k) := by
  have h : ∀ k : Fin 5, ∀ s : Fin 32, s.val < 2 ^ k.val → Int32.ofInt (s.val : Int) ||| Int32.ofInt (2 ^ k.val) = Int32.ofInt ((s.val : Int) + 2 ^ k.val) := by decide +kernel
  have h2 : (2 : Int) ^ k = ((2 ^ k : Nat) : Int) := by simp
  have h3 : (2 : Nat) ^ k ≤ 32 := Nat.pow_le_pow_right (n := 2) (by omega) (show k ≤ 5 by omega)
  have h4 := h ⟨k, hk⟩ ⟨s.toNat, by omega⟩ (show s.toNat < 2 ^ k by omega)
  dsimp only at h4
  rwa [Int.toNat_of_nonneg hs.1] at h4
theorem bit_or0 (s : Int) : Int32.ofInt s ||| Int32.ofInt 0 = Int32.ofInt s := by
  show _ ||| (0 : Int32) = _
  simp
theorem bit_shl {k : Int} (hk : 0 ≤ k ∧ k < 5) : Int32.ofInt 1 <<< (Int32.ofInt k &&& 31) = Int32.ofInt (2 ^ k.toNat) := by
  have h : ∀ k : Fin 5, Int32.ofInt 1 <<< (Int32.ofInt (k.val : Int) &&& 31) = Int32.ofInt (2 ^ k.val) := by decide +kernel
  have h4 := h ⟨k.toNat, by omega⟩
  dsimp only at h4
  rwa [Int.toNat_of_nonneg hk.1] at h4
theorem bit_and5 {s : Int} (hs : 0 ≤ s ∧ s < 32) : Int32.ofInt s &&& Int32.ofInt (-5) = Int32.ofInt (s - s / 4 % 2 * 4) := by
  have h : ∀ s : Fin 32, Int32.ofInt (s.val : Int) &&& Int32.ofInt (-5) = Int32.ofInt ((s.val : Int) - (s.val : Int) / 4 % 2 * 4) := by decide +kernel
  have h4 := h ⟨s.toNat, by omega⟩
  dsimp only at h4
  rwa [Int.toNat_of_nonneg hs.1] at h4
theorem bit_and3 {s : Int} (hs : 0 ≤ s ∧ s < 32) : Int32.ofInt s &&& Int32.ofInt 3 = Int32.ofInt (s % 4) := by
  have h : ∀ s : Fin 32, Int32.ofInt (s.val : Int) &&& Int32.ofInt 3 = Int32.ofInt ((s.val : Int) % 4) := by decide +kernel
  have h4 := h ⟨s.toNat, by omega⟩
  dsimp only at h4
  rwa [Int.toNat_of_nonneg hs.1] at h4
theorem bz_and (P Q : Prop) : Int32.ofInt (bz P) &&& Int32.ofInt (bz Q) = Int32.ofInt (bz (P ∧ Q)) := by
  by_cases h : P
  · by_cases h2 : Q
    · rw [bz_pos h, bz_pos h2, bz_pos ⟨h, h2⟩]; decide +kernel
    · rw [bz_pos h, bz_neg h2, bz_neg (fun q => h2 q.2)]; decide +kernel
  · by_cases h2 : Q
    · rw [bz_neg h, bz_pos h2, bz_neg (fun q => h q.1)]; decide +kernel
    · rw [bz_neg h, bz_neg h2, bz_neg (fun q => h q.1)]; decide +kernel
def Bd.agP (b : Bd) (t o n : Int) : Prop := ∀ k : Int, n ≤ k → k < 12 → b.cell t k = b.cell o k
def Bd.frs (b : Bd) (f k : Int) (n : Int) : Prop := ∀ j : Int, 0 ≤ j → j < n → ¬ b.agP (f * 5 + j) (f * 5 + k) 7
noncomputable def Bd.dn (b : Bd) (f : Int) : Nat → Int
  | 0 => 0
  | k + 1 => Bd.dn b f k + bz (b.frs f (k : Int) (k : Int))
theorem Bd.dn_rng (b : Bd) (f : Int) (k : Nat) : 0 ≤ b.dn f k ∧ b.dn f k ≤ k := by
  induction k with
  | zero => exact ⟨Int.le_refl _, Int.le_refl _⟩
  | succ k ih =>
    rw [Bd.dn]
    have := bz_rng (b.frs f (k : Int) (k : Int))
    omega
/-- the same function: the first n terms -/
def Bd.twP (b : Bd) (g f : Int) (n : Int) : Prop := ∀ k : Int, 0 ≤ k → k < n → b.agP (g * 5 + k) (f * 5 + k) 0
/-- the tower -/
def Bd.twr (b : Bd) (κ a0 a1 a2 a3 : Int) : Prop := b.2.2.1 = κ ∧ b.2.1 0 = a0 ∧ b.2.1 1 = a1 ∧ b.2.1 2 = a2 ∧ b.2.1 3 = a3
noncomputable def Bd.fit (b : Bd) (f : Int) : Int := if b.2.2.1 = 0 then bz (b.fl f 5 - b.fl f 5 / 4 % 2 * 4 = 0) else bz (b.2.2.1 ≠ 2 ∨ b.fl f 5 % 4 = 0)
noncomputable def Bd.val (b : Bd) (t x : Int) : Int := if evI (b.den t) x 0 = 0 then -4 else evI (b.num t) x 0 * ivI (evI (b.den t) x 0) % 101
