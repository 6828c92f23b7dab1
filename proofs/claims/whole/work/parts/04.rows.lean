def u2 {α : Type} (f : Nat → Int → α) (a : Nat) (i : Int) (v : α) : Nat → Int → α := fun b j => if b = a ∧ j = i then v else f b j
theorem u2_ne {α : Type} {f : Nat → Int → α} {a b : Nat} {i : Int} {v : α} (h : b ≠ a) : u2 f a i v b = f b := by
  funext j
  rw [u2, if_neg (fun q => h q.1)]
theorem u2_at {α : Type} {f : Nat → Int → α} {a : Nat} {i j : Int} {v : α} : u2 f a i v a j = if j = i then v else f a j := by
  rw [u2]
  by_cases h : j = i
  · rw [if_pos ⟨rfl, h⟩, if_pos h]
  · rw [if_neg (fun q => h q.2), if_neg h]
def mI (μ : Mem) (a : Nat) (i z : Int) : Mem := (u2 μ.1 a i z, μ.2)
def mL (μ : Mem) (a : Nat) (i : Int) (w : Int64) : Mem := (μ.1, u2 μ.2 a i w)
theorem cOK.kept {G : Gl} {μ μ' : Mem} {b : Nat} {kd : Kd} {H H' : Heap} (h : cOK G μ b kd H) (hq : H'[b]? = H[b]?) (h1 : μ'.1 b = μ.1 b) (h2 : μ'.2 b = μ.2 b) : cOK G μ' b kd H' := by
  cases kd with
  | inl o =>
    obtain ⟨r, g1, g2⟩ := h
    exact ⟨r, g1, (g2.kept hq).to (fun k _ => by simp [fv, h1])⟩
  | inr q =>
    unfold cOK at h ⊢
    by_cases h9 : q.1 = 9
    · simp only [if_pos h9] at h ⊢
      rw [hq]; exact h
    · simp only [if_neg h9] at h ⊢
      rw [hq, h]
      congr 2
      funext j
      simp [av, h1, h2]
theorem HR.put {G : Gl} {Λ : Lay} {sz : Nat} {μ μ' : Mem} {H H' : Heap} {a : Nat} {kd : Kd} (h : HR G Λ sz μ H) (hsz : H'.size = H.size) (ho : ∀ q, q ≠ a → H'[q]? = H[q]?) (hk : Λ a = some kd) (hc : cOK G μ' a kd H')
    (h1 : ∀ b, b ≠ a → μ'.1 b = μ.1 b) (h2 : ∀ b, b ≠ a → μ'.2 b = μ.2 b) : HR G Λ sz μ' H' := by
  refine ⟨hsz.trans h.1, fun b kb hb => ?_⟩
  by_cases e : b = a
  · subst e
    cases hk.symm.trans hb
    exact ⟨hc, (h.2 _ _ hb).2⟩
  · exact ⟨(h.2 _ _ hb).1.kept (ho b e) (h1 b e) (h2 b e), (h.2 _ _ hb).2⟩
section Rows
variable {l : Launch} {G : Gl} {x : Fx} {cc : ByteArray} {own : String} {nL d : Nat} {rc cs : Nat × Nat} {Λ : Lay} {sz : Nat} {μ : Mem} {pc pc' : Nat} {lv lv' : List (Nat × Value)} {st : List Value}
theorem v_push (hx : XOK l G x cc own nL d rc) {n : Int} (hd : dp cc pc n pc') (kk : V G x cs Λ sz μ pc' lv (iv n :: st)) : V G x cs Λ sz μ pc lv st := by
  intro H locs ls hH hL hl
  have k := kk H locs ls hH hL hl
  rcases hd with ⟨h1, rfl⟩ | ⟨h1, rfl, h2⟩ | ⟨h1, rfl, h2⟩
  · exact lv_iconst hx.1 hx.2.1 h1 rfl k
  · exact lv_bipush hx.1 hx.2.1 h1 h2 k
  · exact lv_sipush hx.1 hx.2.1 h1 h2 k
theorem v_iload (hx : XOK l G x cc own nL d rc) {i : Nat} (hd : dl cc pc i pc') (k : Nat) {z : Int} (hk : lv[k]? = some (i, iv z)) (kk : V G x cs Λ sz μ pc' lv (iv z :: st)) : V G x cs Λ sz μ pc lv st := by
  intro H locs ls hH hL hl
  have kq := kk H locs ls hH hL hl
  rcases hd with ⟨j, h1, h2, rfl⟩ | ⟨h1, rfl⟩
  · exact lv_iload_n hx.1 hx.2.1 h1 h2 (lv_at hl k hk) kq
  · exact lv_iload hx.1 hx.2.1 h1 (lv_at hl k hk) kq
theorem v_aload (hx : XOK l G x cc own nL d rc) {i : Nat} (hd : da cc pc i pc') (k : Nat) {a : Nat} (hk : lv[k]? = some (i, .ref a)) (kk : V G x cs Λ sz μ pc' lv (.ref a :: st)) : V G x cs Λ sz μ pc lv st := by
  intro H locs ls hH hL hl
  have kq := kk H locs ls hH hL hl
  rcases hd with ⟨j, h1, h2, rfl⟩ | ⟨h1, rfl⟩
  · exact lv_aload_n hx.1 hx.2.1 h1 h2 (lv_at hl k hk) kq
  · exact lv_aload hx.1 hx.2.1 h1 (lv_at hl k hk) kq
theorem v_lload (hx : XOK l G x cc own nL d rc) {i : Nat} (hd : dll cc pc i pc') (k : Nat) {w : Int64} (hk : lv[k]? = some (i, .long w)) (kk : V G x cs Λ sz μ pc' lv (.long w :: st)) : V G x cs Λ sz μ pc lv st := by
  intro H locs ls hH hL hl
  have kq := kk H locs ls hH hL hl
  rcases hd with ⟨j, h1, h2, rfl⟩ | ⟨h1, rfl⟩
  · exact lv_lload_n hx.1 hx.2.1 h1 h2 (lv_at hl k hk) kq
  · exact lv_lload hx.1 hx.2.1 h1 (lv_at hl k hk) kq
theorem v_istore (hx : XOK l G x cc own nL d rc) {i : Nat} {z : Int} (hd : ds cc pc i pc') (lv' : List (Nat × Value)) (hl' : (i, iv z) :: lv.filter (fun q => !(q.1 == i) && !(q.1 + 1 == i && q.2.category == 2)) = lv') (hn : i < nL) (kk : V G x cs Λ sz μ pc' lv' st) : V G x cs Λ sz μ pc lv (iv z :: st) := by
  intro H locs ls hH hL hl
  have hn' : i < (xc x).maxLocals := by rw [hx.2.2.1]; exact hn
  rcases hd with ⟨j, h1, h2, rfl⟩ | ⟨h1, rfl⟩
  · exact lv_istore_n hx.1 hx.2.1 h1 h2 hl hn' hl' (fun ls' h' => kk H locs ls' hH hL h')
  · exact lv_istore hx.1 hx.2.1 h1 hl hn' hl' (fun ls' h' => kk H locs ls' hH hL h')
theorem v_astore (hx : XOK l G x cc own nL d rc) {i a : Nat} (hd : dsa cc pc i pc') (lv' : List (Nat × Value)) (hl' : (i, .ref a) :: lv.filter (fun q => !(q.1 == i) && !(q.1 + 1 == i && q.2.category == 2)) = lv') (hn : i < nL) (kk : V G x cs Λ sz μ pc' lv' st) : V G x cs Λ sz μ pc lv (.ref a :: st) := by
  intro H locs ls hH hL hl
  have hn' : i < (xc x).maxLocals := by rw [hx.2.2.1]; exact hn
  rcases hd with ⟨j, h1, h2, rfl⟩ | ⟨h1, rfl⟩
  · exact lv_astore_n hx.1 hx.2.1 h1 h2 hl hn' hl' (fun ls' h' => kk H locs ls' hH hL h')
  · exact lv_astore hx.1 hx.2.1 h1 hl hn' hl' (fun ls' h' => kk H locs ls' hH hL h')
theorem v_iinc (hx : XOK l G x cc own nL d rc) {i : Nat} {z n : Int} (hd : dk cc pc (.iinc i n) 3 pc') (k : Nat) (hk : lv[k]? = some (i, iv z)) (lv' : List (Nat × Value)) (hl' : (i, iv (z + n)) :: lv.filter (fun q => !(q.1 == i) && !(q.1 + 1 == i && q.2.category == 2)) = lv') (hn : i < nL) (kk : V G x cs Λ sz μ pc' lv' st) : V G x cs Λ sz μ pc lv st := by
  intro H locs ls hH hL hl
  have hn' : i < (xc x).maxLocals := by rw [hx.2.2.1]; exact hn
  obtain ⟨h1, rfl⟩ := hd
  exact lv_iinc (v := Int32.ofInt (z + n)) hx.1 hx.2.1 h1 hl hk (Int32.ofInt_add z n).symm hn' hl' (fun ls' h' => kk H locs ls' hH hL h')
theorem v_iadd (hx : XOK l G x cc own nL d rc) {a b : Int} (hd : dk cc pc .iadd 1 pc') (kk : V G x cs Λ sz μ pc' lv (iv (a + b) :: st)) : V G x cs Λ sz μ pc lv (iv b :: iv a :: st) := by
  intro H locs ls hH hL hl
  obtain ⟨h1, rfl⟩ := hd
  refine lv_iadd hx.1 hx.2.1 h1 ?_
  rw [iv_add]
  exact kk H locs ls hH hL hl
theorem v_isub (hx : XOK l G x cc own nL d rc) {a b : Int} (hd : dk cc pc .isub 1 pc') (kk : V G x cs Λ sz μ pc' lv (iv (a - b) :: st)) : V G x cs Λ sz μ pc lv (iv b :: iv a :: st) := by
  intro H locs ls hH hL hl
  obtain ⟨h1, rfl⟩ := hd
  refine lv_isub hx.1 hx.2.1 h1 ?_
  rw [iv_sub]
  exact kk H locs ls hH hL hl
theorem v_imul (hx : XOK l G x cc own nL d rc) {a b : Int} (hd : dk cc pc .imul 1 pc') (kk : V G x cs Λ sz μ pc' lv (iv (a * b) :: st)) : V G x cs Λ sz μ pc lv (iv b :: iv a :: st) := by
  intro H locs ls hH hL hl
  obtain ⟨h1, rfl⟩ := hd
  refine lv_imul hx.1 hx.2.1 h1 ?_
  rw [iv_mul]
  exact kk H locs ls hH hL hl
theorem v_ineg (hx : XOK l G x cc own nL d rc) {a : Int} (hd : dk cc pc .ineg 1 pc') (kk : V G x cs Λ sz μ pc' lv (iv (-a) :: st)) : V G x cs Λ sz μ pc lv (iv a :: st) := by
  intro H locs ls hH hL hl
  obtain ⟨h1, rfl⟩ := hd
  refine lv_ineg hx.1 hx.2.1 h1 ?_
  rw [← Int32.ofInt_neg]
  exact kk H locs ls hH hL hl
theorem ofI_tdiv {a b : Int} (ha : inR a) (hb : inR b) : Int32.ofInt a / Int32.ofInt b = Int32.ofInt (a.tdiv b) := (Int32.ofInt_tdiv ha.1 ha.2 hb.1 hb.2).symm
theorem v_iremT (hx : XOK l G x cc own nL d rc) {a b : Int} (ha : inR a) (hb : inR b) (h0 : b ≠ 0) (hd : dk cc pc .irem 1 pc') (kk : V G x cs Λ sz μ pc' lv (iv (a.tmod b) :: st)) : V G x cs Λ sz μ pc lv (iv b :: iv a :: st) := by
  intro H locs ls hH hL hl
  obtain ⟨h1, rfl⟩ := hd
  refine lv_irem hx.1 hx.2.1 h1 (fun q => h0 ((ofI_eq hb (by decide)).mp q)) ?_
  rw [ofI_tdiv ha hb, ← Int32.ofInt_mul, ← Int32.ofInt_sub, Int.mul_comm, ← Int.tmod_def]
  exact kk H locs ls hH hL hl
theorem v_irem (hx : XOK l G x cc own nL d rc) {a b : Int} (ha : 0 ≤ a ∧ a ≤ 2147483647) (hb : 0 < b ∧ b ≤ 2147483647) (hd : dk cc pc .irem 1 pc') (kk : V G x cs Λ sz μ pc' lv (iv (a % b) :: st)) : V G x cs Λ sz μ pc lv (iv b :: iv a :: st) := by
  refine v_iremT hx ⟨by omega, ha.2⟩ ⟨by omega, hb.2⟩ (by omega) hd ?_
  rw [Int.tmod_eq_emod_of_nonneg ha.1]
  exact kk
theorem v_idivT (hx : XOK l G x cc own nL d rc) {a b : Int} (ha : inR a) (hb : inR b) (h0 : b ≠ 0) (hd : dk cc pc .idiv 1 pc') (kk : V G x cs Λ sz μ pc' lv (iv (a.tdiv b) :: st)) : V G x cs Λ sz μ pc lv (iv b :: iv a :: st) := by
  intro H locs ls hH hL hl
  obtain ⟨h1, rfl⟩ := hd
  refine lv_idiv hx.1 hx.2.1 h1 (fun q => h0 ((ofI_eq hb (by decide)).mp q)) ?_
  rw [ofI_tdiv ha hb]
  exact kk H locs ls hH hL hl
theorem v_idiv (hx : XOK l G x cc own nL d rc) {a b : Int} (ha : 0 ≤ a ∧ a ≤ 2147483647) (hb : 0 < b ∧ b ≤ 2147483647) (hd : dk cc pc .idiv 1 pc') (kk : V G x cs Λ sz μ pc' lv (iv (a / b) :: st)) : V G x cs Λ sz μ pc lv (iv b :: iv a :: st) := by
  refine v_idivT hx ⟨by omega, ha.2⟩ ⟨by omega, hb.2⟩ (by omega) hd ?_
  rw [Int.tdiv_eq_ediv_of_nonneg ha.1]
  exact kk
theorem v_dup (hx : XOK l G x cc own nL d rc) {v : Value} (hd : dk cc pc .dup 1 pc') (hv : v.category = 1) (kk : V G x cs Λ sz μ pc' lv (v :: v :: st)) : V G x cs Λ sz μ pc lv (v :: st) := by
  intro H locs ls hH hL hl
  obtain ⟨h1, rfl⟩ := hd
  exact lv_dup hx.1 hx.2.1 h1 hv (kk H locs ls hH hL hl)
theorem v_pop (hx : XOK l G x cc own nL d rc) {v : Value} (hd : dk cc pc .pop 1 pc') (hv : v.category = 1) (kk : V G x cs Λ sz μ pc' lv st) : V G x cs Λ sz μ pc lv (v :: st) := by
  intro H locs ls hH hL hl
  obtain ⟨h1, rfl⟩ := hd
  exact lv_pop hx.1 hx.2.1 h1 hv (kk H locs ls hH hL hl)
theorem v_goto (hx : XOK l G x cc own nL d rc) {tgt : Nat} (hd : dg cc pc tgt) (kk : V G x cs Λ sz μ tgt lv st) : V G x cs Λ sz μ pc lv st := by
  intro H locs ls hH hL hl
  obtain ⟨off, h1, h2⟩ := hd
  exact lv_goto hx.1 hx.2.1 h1 h2 (kk H locs ls hH hL hl)
theorem v_icmp_eq (hx : XOK l G x cc own nL d rc) {a b : Int} {tgt : Nat} (hd : di cc pc .eq tgt pc') (ha : inR a) (hb : inR b) (kt : a = b → V G x cs Λ sz μ tgt lv st) (kf : ¬ (a = b) → V G x cs Λ sz μ pc' lv st) : V G x cs Λ sz μ pc lv (iv b :: iv a :: st) := by
  intro H locs ls hH hL hl
  obtain ⟨off, h1, h2, rfl⟩ := hd
  have e := ofI_eq ha hb
  exact lv_icmp_eq hx.1 hx.2.1 h1 h2 (fun q => kt (e.mp q) H locs ls hH hL hl) (fun q => kf (fun z => q (e.mpr z)) H locs ls hH hL hl)
theorem v_if_eq (hx : XOK l G x cc own nL d rc) {a : Int} {tgt : Nat} (hd : dc cc pc .eq tgt pc') (ha : inR a) (kt : a = 0 → V G x cs Λ sz μ tgt lv st) (kf : ¬ (a = 0) → V G x cs Λ sz μ pc' lv st) : V G x cs Λ sz μ pc lv (iv a :: st) := by
  intro H locs ls hH hL hl
  obtain ⟨off, h1, h2, rfl⟩ := hd
  have hb : inR 0 := by decide
  have e := ofI_eq ha hb
  exact lv_if_eq hx.1 hx.2.1 h1 h2 (fun q => kt (e.mp q) H locs ls hH hL hl) (fun q => kf (fun z => q (e.mpr z)) H locs ls hH hL hl)
theorem v_icmp_ne (hx : XOK l G x cc own nL d rc) {a b : Int} {tgt : Nat} (hd : di cc pc .ne tgt pc') (ha : inR a) (hb : inR b) (kt : a ≠ b → V G x cs Λ sz μ tgt lv st) (kf : a = b → V G x cs Λ sz μ pc' lv st) : V G x cs Λ sz μ pc lv (iv b :: iv a :: st) := by
  intro H locs ls hH hL hl
  obtain ⟨off, h1, h2, rfl⟩ := hd
  have e := ofI_eq ha hb
  exact lv_icmp_ne hx.1 hx.2.1 h1 h2 (fun q => kt (fun z => q (e.mpr z)) H locs ls hH hL hl) (fun q => kf (e.mp q) H locs ls hH hL hl)
theorem v_if_ne (hx : XOK l G x cc own nL d rc) {a : Int} {tgt : Nat} (hd : dc cc pc .ne tgt pc') (ha : inR a) (kt : a ≠ 0 → V G x cs Λ sz μ tgt lv st) (kf : a = 0 → V G x cs Λ sz μ pc' lv st) : V G x cs Λ sz μ pc lv (iv a :: st) := by
  intro H locs ls hH hL hl
  obtain ⟨off, h1, h2, rfl⟩ := hd
  have hb : inR 0 := by decide
  have e := ofI_eq ha hb
  exact lv_if_ne hx.1 hx.2.1 h1 h2 (fun q => kt (fun z => q (e.mpr z)) H locs ls hH hL hl) (fun q => kf (e.mp q) H locs ls hH hL hl)
theorem v_icmp_lt (hx : XOK l G x cc own nL d rc) {a b : Int} {tgt : Nat} (hd : di cc pc .lt tgt pc') (ha : inR a) (hb : inR b) (kt : a < b → V G x cs Λ sz μ tgt lv st) (kf : ¬ (a < b) → V G x cs Λ sz μ pc' lv st) : V G x cs Λ sz μ pc lv (iv b :: iv a :: st) := by
  intro H locs ls hH hL hl
  obtain ⟨off, h1, h2, rfl⟩ := hd
  have e := ofI_lt ha hb
  exact lv_icmp_lt hx.1 hx.2.1 h1 h2 (fun q => kt (e.mp q) H locs ls hH hL hl) (fun q => kf (fun z => q (e.mpr z)) H locs ls hH hL hl)
theorem v_if_lt (hx : XOK l G x cc own nL d rc) {a : Int} {tgt : Nat} (hd : dc cc pc .lt tgt pc') (ha : inR a) (kt : a < 0 → V G x cs Λ sz μ tgt lv st) (kf : ¬ (a < 0) → V G x cs Λ sz μ pc' lv st) : V G x cs Λ sz μ pc lv (iv a :: st) := by
  intro H locs ls hH hL hl
  obtain ⟨off, h1, h2, rfl⟩ := hd
  have hb : inR 0 := by decide
  have e := ofI_lt ha hb
  exact lv_if_lt hx.1 hx.2.1 h1 h2 (fun q => kt (e.mp q) H locs ls hH hL hl) (fun q => kf (fun z => q (e.mpr z)) H locs ls hH hL hl)
theorem v_icmp_ge (hx : XOK l G x cc own nL d rc) {a b : Int} {tgt : Nat} (hd : di cc pc .ge tgt pc') (ha : inR a) (hb : inR b) (kt : b ≤ a → V G x cs Λ sz μ tgt lv st) (kf : ¬ (b ≤ a) → V G x cs Λ sz μ pc' lv st) : V G x cs Λ sz μ pc lv (iv b :: iv a :: st) := by
  intro H locs ls hH hL hl
  obtain ⟨off, h1, h2, rfl⟩ := hd
  have e := ofI_le hb ha
  exact lv_icmp_ge hx.1 hx.2.1 h1 h2 (fun q => kt (e.mp q) H locs ls hH hL hl) (fun q => kf (fun z => q (e.mpr z)) H locs ls hH hL hl)
theorem v_if_ge (hx : XOK l G x cc own nL d rc) {a : Int} {tgt : Nat} (hd : dc cc pc .ge tgt pc') (ha : inR a) (kt : 0 ≤ a → V G x cs Λ sz μ tgt lv st) (kf : ¬ (0 ≤ a) → V G x cs Λ sz μ pc' lv st) : V G x cs Λ sz μ pc lv (iv a :: st) := by
  intro H locs ls hH hL hl
  obtain ⟨off, h1, h2, rfl⟩ := hd
  have hb : inR 0 := by decide
  have e := ofI_le hb ha
  exact lv_if_ge hx.1 hx.2.1 h1 h2 (fun q => kt (e.mp q) H locs ls hH hL hl) (fun q => kf (fun z => q (e.mpr z)) H locs ls hH hL hl)
theorem v_icmp_gt (hx : XOK l G x cc own nL d rc) {a b : Int} {tgt : Nat} (hd : di cc pc .gt tgt pc') (ha : inR a) (hb : inR b) (kt : b < a → V G x cs Λ sz μ tgt lv st) (kf : ¬ (b < a) → V G x cs Λ sz μ pc' lv st) : V G x cs Λ sz μ pc lv (iv b :: iv a :: st) := by
  intro H locs ls hH hL hl
  obtain ⟨off, h1, h2, rfl⟩ := hd
  have e := ofI_lt hb ha
  exact lv_icmp_gt hx.1 hx.2.1 h1 h2 (fun q => kt (e.mp q) H locs ls hH hL hl) (fun q => kf (fun z => q (e.mpr z)) H locs ls hH hL hl)
theorem v_if_gt (hx : XOK l G x cc own nL d rc) {a : Int} {tgt : Nat} (hd : dc cc pc .gt tgt pc') (ha : inR a) (kt : 0 < a → V G x cs Λ sz μ tgt lv st) (kf : ¬ (0 < a) → V G x cs Λ sz μ pc' lv st) : V G x cs Λ sz μ pc lv (iv a :: st) := by
  intro H locs ls hH hL hl
  obtain ⟨off, h1, h2, rfl⟩ := hd
  have hb : inR 0 := by decide
  have e := ofI_lt hb ha
  exact lv_if_gt hx.1 hx.2.1 h1 h2 (fun q => kt (e.mp q) H locs ls hH hL hl) (fun q => kf (fun z => q (e.mpr z)) H locs ls hH hL hl)
theorem v_icmp_le (hx : XOK l G x cc own nL d rc) {a b : Int} {tgt : Nat} (hd : di cc pc .le tgt pc') (ha : inR a) (hb : inR b) (kt : a ≤ b → V G x cs Λ sz μ tgt lv st) (kf : ¬ (a ≤ b) → V G x cs Λ sz μ pc' lv st) : V G x cs Λ sz μ pc lv (iv b :: iv a :: st) := by
  intro H locs ls hH hL hl
  obtain ⟨off, h1, h2, rfl⟩ := hd
  have e := ofI_le ha hb
  exact lv_icmp_le hx.1 hx.2.1 h1 h2 (fun q => kt (e.mp q) H locs ls hH hL hl) (fun q => kf (fun z => q (e.mpr z)) H locs ls hH hL hl)
theorem v_if_le (hx : XOK l G x cc own nL d rc) {a : Int} {tgt : Nat} (hd : dc cc pc .le tgt pc') (ha : inR a) (kt : a ≤ 0 → V G x cs Λ sz μ tgt lv st) (kf : ¬ (a ≤ 0) → V G x cs Λ sz μ pc' lv st) : V G x cs Λ sz μ pc lv (iv a :: st) := by
  intro H locs ls hH hL hl
  obtain ⟨off, h1, h2, rfl⟩ := hd
  have hb : inR 0 := by decide
  have e := ofI_le ha hb
  exact lv_if_le hx.1 hx.2.1 h1 h2 (fun q => kt (e.mp q) H locs ls hH hL hl) (fun q => kf (fun z => q (e.mpr z)) H locs ls hH hL hl)
/-- another name for a number on the stack, or for any part of the state -/
theorem v_as (st' : List Value) (h : st = st') (kk : V G x cs Λ sz μ pc lv st') : V G x cs Λ sz μ pc lv st := h ▸ kk
theorem v_lv (lv' : List (Nat × Value)) (h : lv = lv') (kk : V G x cs Λ sz μ pc lv' st) : V G x cs Λ sz μ pc lv st := h ▸ kk
/-- fewer locals, in another order -/
theorem v_sub (ks : List Nat) (lv' : List (Nat × Value)) (h : lv_pick lv ks = lv') (kk : V G x cs Λ sz μ pc lv' st) : V G x cs Λ sz μ pc lv st := fun H locs ls hH hL hl => kk H locs ls hH hL (lv_sub hl ks h)
end Rows
