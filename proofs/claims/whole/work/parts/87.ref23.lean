/-! ===== the reference's sheets ===== -/
def RSh (μ : Mem) (ν : Nat) (S : Int → Sht) : Prop := ∀ k : Int, 0 ≤ k → k < 4 → ((S k).1 = -1 ∧ μ.1 (ν + 16) k = -1) ∨ ((0 ≤ (S k).1 ∧ (S k).1 ≤ 3) ∧ (0 ≤ (S k).2.1 ∧ (S k).2.1 ≤ 24) ∧ μ.1 (ν + 15) k = (S k).1 ∧ μ.1 (ν + 16) k = (S k).2.1 ∧ ∀ j : Int, 0 ≤ j → j < 24 → μ.2 (ν + 17) (24 * k + j) = (S k).2.2 j)
def FrSh (ν : Nat) (μ μ' : Mem) : Prop := (∀ a, a ≠ ν + 15 → a ≠ ν + 16 → μ'.1 a = μ.1 a) ∧ ∀ a, a ≠ ν + 17 → μ'.2 a = μ.2 a
theorem FrSh.rf {ν : Nat} {μ : Mem} : FrSh ν μ μ := ⟨fun _ _ _ => rfl, fun _ _ => rfl⟩
theorem FrSh.trans {ν : Nat} {μ m m1 : Mem} (h : FrSh ν μ m) (h1 : FrSh ν m m1) : FrSh ν μ m1 := ⟨fun a q1 q2 => (h1.1 a q1 q2).trans (h.1 a q1 q2), fun a q => (h1.2 a q).trans (h.2 a q)⟩
theorem FrSh.wL {ν : Nat} {μ : Mem} {i : Int} {w : Int64} : FrSh ν μ (mL μ (ν + 17) i w) := ⟨fun _ _ _ => rfl, fun a h => mL_ne h⟩
theorem FrSh.w15 {ν : Nat} {μ : Mem} {i z : Int} : FrSh ν μ (mI μ (ν + 15) i z) := ⟨fun a h1 _ => mI_ne h1, fun _ _ => rfl⟩
theorem FrSh.w16 {ν : Nat} {μ : Mem} {i z : Int} : FrSh ν μ (mI μ (ν + 16) i z) := ⟨fun a _ h2 => mI_ne h2, fun _ _ => rfl⟩
theorem RSh.fr {μ μ' : Mem} {ν : Nat} {S : Int → Sht} (h : RSh μ ν S) (e1 : μ'.1 (ν + 15) = μ.1 (ν + 15)) (e2 : μ'.1 (ν + 16) = μ.1 (ν + 16)) (e3 : μ'.2 (ν + 17) = μ.2 (ν + 17)) : RSh μ' ν S := fun k h0 h1 => by rw [e1, e2, e3]; exact h k h0 h1
theorem RSh.has {μ : Mem} {ν : Nat} {S : Int → Sht} (h : RSh μ ν S) {k lane i c : Int} (hk : 0 ≤ k ∧ k < 4) (e : (S k).ref lane i c = 0) : (S k).1 = lane ∧ (0 ≤ i ∧ 0 ≤ c ∧ i + c ≤ (S k).2.1) ∧ (0 ≤ (S k).1 ∧ (S k).1 ≤ 3) ∧ (0 ≤ (S k).2.1 ∧ (S k).2.1 ≤ 24) ∧ μ.1 (ν + 15) k = (S k).1 ∧ μ.1 (ν + 16) k = (S k).2.1 ∧ ∀ j : Int, 0 ≤ j → j < 24 → μ.2 (ν + 17) (24 * k + j) = (S k).2.2 j := by
  unfold Sht.ref at e
  by_cases c1 : (S k).1 = -1
  · rw [if_pos c1] at e; omega
  rw [if_neg c1] at e
  by_cases c2 : (S k).1 ≠ lane
  · rw [if_pos c2] at e; omega
  rw [if_neg c2] at e
  by_cases c3 : 0 ≤ i ∧ 0 ≤ c ∧ i + c ≤ (S k).2.1
  · rcases h k hk.1 hk.2 with q | q
    · exact absurd q.1 c1
    · exact ⟨by omega, c3, q⟩
  · rw [if_neg c3] at e; omega
/-- one item more -/
def Sht.put (s : Sht) (i : Int) (w : Int64) : Sht := (s.1, s.2.1, fun j => if j = i then w else s.2.2 j)
def upS (S : Int → Sht) (k : Int) (s : Sht) : Int → Sht := fun j => if j = k then s else S j
theorem RSh.put {μ m : Mem} {ν : Nat} {S : Int → Sht} {k i : Int} {w : Int64} (h : RSh μ ν S) (hk : 0 ≤ k ∧ k < 4) (hi : 0 ≤ i ∧ i < 24) (e : m = mL μ (ν + 17) (24 * k + i) w) : RSh m ν (upS S k ((S k).put i w)) := by
  intro j h0 h1
  have q := h j h0 h1
  unfold upS
  by_cases c : j = k
  · subst c
    rw [if_pos rfl]
    rcases q with q | q
    · exact Or.inl ⟨q.1, by rw [e]; exact q.2⟩
    · refine Or.inr ⟨q.1, q.2.1, by rw [e]; exact q.2.2.1, by rw [e]; exact q.2.2.2.1, fun l g0 g1 => ?_⟩
      rw [e, mL_at]
      show _ = if l = i then w else (S j).2.2 l
      by_cases d : l = i
      · rw [if_pos d, if_pos (by omega)]
      · rw [if_neg d, if_neg (by omega)]; exact q.2.2.2.2 l g0 g1
  · rw [if_neg c]
    rcases q with q | q
    · exact Or.inl ⟨q.1, by rw [e]; exact q.2⟩
    · refine Or.inr ⟨q.1, q.2.1, by rw [e]; exact q.2.2.1, by rw [e]; exact q.2.2.2.1, fun l g0 g1 => ?_⟩
      rw [e, mL_at, if_neg (by omega)]
      exact q.2.2.2.2 l g0 g1
theorem upS_at {S : Int → Sht} {k : Int} {s : Sht} : upS S k s k = s := if_pos rfl
theorem upS_up {S : Int → Sht} {k : Int} {s t : Sht} : upS (upS S k s) k t = upS S k t := funext fun j => by
  unfold upS
  by_cases c : j = k
  · rw [if_pos c, if_pos c]
  · rw [if_neg c, if_neg c, if_neg c]
theorem upS_self {S : Int → Sht} {k : Int} : upS S k (S k) = S := funext fun j => by
  unfold upS
  by_cases c : j = k
  · rw [if_pos c, c]
  · rw [if_neg c]
def isSh (k : Int) : Prop := 0 ≤ k ∧ k ≤ 3
noncomputable def shtA (k lane c : Int) : Int := if bz (isSh k ∧ (0 ≤ lane ∧ lane ≤ 3) ∧ c ≤ 24) = 1 then (if c < 0 then -14 else c) else -1
noncomputable def shtS (S : Int → Sht) (k lane c : Int) : Int → Sht := @ite (Int → Sht) (isSh k ∧ (0 ≤ lane ∧ lane ≤ 3) ∧ 0 ≤ c ∧ c ≤ 24) (Classical.propDecidable _) (upS S k (lane, c, fun _ => 0)) S
noncomputable def drpA (S : Int → Sht) (k : Int) : Int := if bz (isSh k) = 1 then (if (S k).1 = -1 then -11 else (S k).2.1) else -1
noncomputable def drpS (S : Int → Sht) (k : Int) : Int → Sht := @ite (Int → Sht) (isSh k) (Classical.propDecidable _) (upS S k (-1, (S k).2.1, (S k).2.2)) S
noncomputable def itmA (S : Int → Sht) (k lane i : Int) : Int := if bz (isSh k ∧ 0 ≤ lane ∧ lane ≤ 3) = 1 then (if (S k).ref lane i 1 ≠ 0 then (S k).ref lane i 1 else 1) else -1
noncomputable def itmS (S : Int → Sht) (k lane i : Int) (w : Int64) : Int → Sht := @ite (Int → Sht) ((isSh k ∧ 0 ≤ lane ∧ lane ≤ 3) ∧ (S k).ref lane i 1 = 0) (Classical.propDecidable _) (upS S k ((S k).put i (cut lane w))) S
def cpy (s t : Sht) (i j c : Int) : Sht := (t.1, t.2.1, fun l => if j ≤ l ∧ l < j + c then s.2.2 (i + (l - j)) else t.2.2 l)
def cpyOK (S : Int → Sht) (k i l j c : Int) : Prop := 0 ≤ i ∧ 0 ≤ j ∧ 0 ≤ c ∧ i + c ≤ (S k).2.1 ∧ j + c ≤ (S l).2.1
noncomputable def cpyA (S : Int → Sht) (k i l j c : Int) : Int := if bz (isSh k ∧ isSh l) = 1 then (if (S k).1 = -1 ∨ (S l).1 = -1 then -11 else if (S k).1 ≠ (S l).1 then -12 else if bz (cpyOK S k i l j c) = 1 then c else -13) else -1
noncomputable def cpyS (S : Int → Sht) (k i l j c : Int) : Int → Sht := @ite (Int → Sht) ((isSh k ∧ isSh l) ∧ (S k).1 ≠ -1 ∧ (S l).1 ≠ -1 ∧ (S k).1 = (S l).1 ∧ cpyOK S k i l j c) (Classical.propDecidable _) (upS S l (cpy (S k) (S l) i j c)) S
theorem sheet_done {μ m : Mem} {ν : Nat} {S : Int → Sht} {k lane c : Int} (hS : RSh μ ν S) (ok : isSh k ∧ (0 ≤ lane ∧ lane ≤ 3) ∧ 0 ≤ c ∧ c ≤ 24) (h15 : m.1 (ν + 15) k = lane ∧ m.1 (ν + 16) k = c) (hz : ∀ l : Int, 0 ≤ l → l < 24 → m.2 (ν + 17) (24 * k + l) = 0) (ho : ∀ q : Int, q ≠ k → m.1 (ν + 15) q = μ.1 (ν + 15) q ∧ m.1 (ν + 16) q = μ.1 (ν + 16) q) (hp : ∀ l : Int, l < 24 * k ∨ 24 * k + 24 ≤ l → m.2 (ν + 17) l = μ.2 (ν + 17) l) : RSh m ν (shtS S k lane c) := by
  unfold shtS
  rw [if_pos ok]
  intro q h0 h1
  unfold upS
  by_cases e : q = k
  · subst e
    rw [if_pos rfl]
    exact Or.inr ⟨ok.2.1, ok.2.2, h15.1, h15.2, hz⟩
  · rw [if_neg e, (ho q e).1, (ho q e).2]
    rcases hS q h0 h1 with w | w
    · exact Or.inl w
    · exact Or.inr ⟨w.1, w.2.1, w.2.2.1, w.2.2.2.1, fun l g0 g1 => by rw [hp _ (by omega)]; exact w.2.2.2.2 l g0 g1⟩
theorem drop_done {μ m : Mem} {ν : Nat} {S : Int → Sht} {k : Int} (hS : RSh μ ν S) (hk : isSh k) (e : m = mI μ (ν + 16) k (-1)) : RSh m ν (drpS S k) := by
  unfold drpS
  rw [if_pos hk]
  intro q h0 h1
  unfold upS
  by_cases c : q = k
  · rw [if_pos c]
    exact Or.inl ⟨rfl, by rw [e, mI_at, if_pos c]⟩
  · rw [if_neg c, e, mI_at, if_neg c, mI_ne (show ν + 15 ≠ ν + 16 by omega)]
    exact hS q h0 h1
theorem drop_miss {μ : Mem} {ν : Nat} {S : Int → Sht} {k mm : Int} (hS : RSh μ ν S) (hk : isSh k) (e : (S k).1 = -1) (em : μ.1 (ν + 16) k = mm) (h : mm = -1) : RSh μ ν (drpS S k) := by
  unfold drpS
  rw [if_pos hk]
  intro q h0 h1
  unfold upS
  by_cases c : q = k
  · rw [if_pos c]
    exact Or.inl ⟨rfl, by rw [c, em, h]⟩
  · rw [if_neg c]
    exact hS q h0 h1
theorem Sht.ref_rng (s : Sht) (lane i c : Int) : -13 ≤ s.ref lane i c ∧ s.ref lane i c ≤ 0 := by
  unfold Sht.ref
  split <;> (try split) <;> (try split) <;> omega
theorem r_isSheet (l : Launch) (G : Gl) (Λ : Lay) (sz : Nat) (μ : Mem) {k : Int} (hk : inR k) : Sp l G yX12_isSheet cX12_isSheet 1 (some FieldType.boolean) 1 [iv k] Λ sz μ (pP μ (bz (isSh k))) := by
  refine Sp.intro (by decide) (Nat.le_of_ble_eq_true rfl) (fun x hx hBD => ?_)
  refine v_lv [(0, iv k)] rfl ?_
  refine v_iload hx DX12_isSheet_0 0 rfl ?_
  refine v_push hx DX12_isSheet_1 ?_
  refine v_push hx DX12_isSheet_2 ?_
  refine v_cSp hx DX12_isSheet_3 CSRX12_121 [iv k, iv 0, iv 3] (r_in l G Λ sz μ (by omega) (by omega) (by omega)) rfl rfl (Nat.le_of_ble_eq_true rfl) (by decide) ⟨Nat.le_refl _, Nat.le_refl _⟩ ?_
  have br3 := bz_rng (0 ≤ k ∧ k ≤ 3)
  exact v_rz hx hBD (by omega) DX12_isSheet_6 (⟨rfl, rfl⟩)
theorem r_cut (l : Launch) (G : Gl) (Λ : Lay) (sz : Nat) (μ : Mem) {lane : Int} {w : Int64} (hl : inR lane) : Sp l G yX12_cut cX12_cut 3 (some FieldType.long) 0 [iv lane, .long w] Λ sz μ (pL (fun z μ' => μ' = μ ∧ z = cut lane w)) := by
  refine Sp.intro (by decide) (Nat.le_of_ble_eq_true rfl) (fun x hx hBD => ?_)
  refine v_lv [(0, iv lane), (1, .long w)] rfl ?_
  refine v_iload hx DX12_cut_0 0 rfl ?_
  refine v_if_ne hx DX12_cut_1 (by omega) (fun c1 => ?_) (fun c1 => ?_)
  · skip
    refine v_iload hx DX12_cut_11 0 rfl ?_
    refine v_push hx DX12_cut_12 ?_
    refine v_icmp_ne hx DX12_cut_13 (by omega) (by decide) (fun c13 => ?_) (fun c13 => ?_)
    · skip
      refine v_iload hx DX12_cut_23 0 rfl ?_
      refine v_push hx DX12_cut_24 ?_
      refine v_icmp_ne hx DX12_cut_25 (by omega) (by decide) (fun c25 => ?_) (fun c25 => ?_)
      · skip
        have e0 : w = cut lane w := by unfold cut; rw [if_neg (by omega), if_neg (by omega), if_neg (by omega)]
        refine v_lload hx DX12_cut_34 1 rfl ?_
        exact v_rl hx hBD DX12_cut_35 (⟨rfl, e0⟩)
      · skip
        refine v_lload hx DX12_cut_28 1 rfl ?_
        refine v_l2i hx DX12_cut_29 (a := w.toInt32.toInt) ((o32 _).symm) ?_
        refine v_i2l hx DX12_cut_30 (w := w.toInt32.toInt64) (by rw [o32]) ?_
        have e0 : w.toInt32.toInt64 = cut lane w := by unfold cut; rw [if_neg (by omega), if_neg (by omega), if_pos (by omega)]
        refine v_goto hx DX12_cut_31 ?_
        exact v_rl hx hBD DX12_cut_35 (⟨rfl, e0⟩)
    · skip
      refine v_lload hx DX12_cut_16 1 rfl ?_
      refine v_l2i hx DX12_cut_17 (a := w.toInt32.toInt) ((o32 _).symm) ?_
      refine v_i2s hx DX12_cut_18 (z := w.toInt32.toInt16.toInt32.toInt) (by rw [o32, o32]) ?_
      refine v_i2l hx DX12_cut_19 (w := w.toInt32.toInt16.toInt32.toInt64) (by rw [o32]) ?_
      have e0 : w.toInt32.toInt16.toInt32.toInt64 = cut lane w := by unfold cut; rw [if_neg (by omega), if_pos (by omega)]
      refine v_goto hx DX12_cut_20 ?_
      exact v_rl hx hBD DX12_cut_35 (⟨rfl, e0⟩)
  · skip
    refine v_lload hx DX12_cut_4 1 rfl ?_
    refine v_l2i hx DX12_cut_5 (a := w.toInt32.toInt) ((o32 _).symm) ?_
    refine v_i2b hx DX12_cut_6 (z := w.toInt32.toInt8.toInt32.toInt) (by rw [o32, o32]) ?_
    refine v_i2l hx DX12_cut_7 (w := w.toInt32.toInt8.toInt32.toInt64) (by rw [o32]) ?_
    have e0 : w.toInt32.toInt8.toInt32.toInt64 = cut lane w := by unfold cut; rw [if_pos (by omega)]
    refine v_goto hx DX12_cut_8 ?_
    exact v_rl hx hBD DX12_cut_35 (⟨rfl, e0⟩)
theorem r_why (l : Launch) (G : Gl) (Λ : Lay) (sz : Nat) (μ : Mem) {ν : Nat} {S : Int → Sht} {k lane i c : Int} (hR : refK Λ ν) (hS : RSh μ ν S) (hk : 0 ≤ k ∧ k < 4) (hl : inR lane) (hi : inR i) (hc : 0 ≤ c ∧ c ≤ 2147483647) : Sp l G yX12_why cX12_why 5 (some FieldType.int) 0 [.ref ν, iv k, iv lane, iv i, iv c] Λ sz μ (pP μ ((S k).ref lane i c)) := by
  refine Sp.intro (by decide) (Nat.le_of_ble_eq_true rfl) (fun x hx hBD => ?_)
  refine v_lv [(0, .ref ν), (1, iv k), (2, iv lane), (3, iv i), (4, iv c)] rfl ?_
  have q := hS k hk.1 hk.2
  obtain ⟨mm, em, hm⟩ : ∃ mm : Int, μ.1 (ν + 16) k = mm ∧ (((S k).1 = -1 ∧ mm = -1) ∨ ((0 ≤ (S k).1 ∧ (S k).1 ≤ 3) ∧ (0 ≤ (S k).2.1 ∧ (S k).2.1 ≤ 24) ∧ μ.1 (ν + 15) k = (S k).1 ∧ mm = (S k).2.1)) := ⟨_, rfl, q.elim Or.inl (fun w => Or.inr ⟨w.1, w.2.1, w.2.2.1, w.2.2.2.1⟩)⟩
  refine v_aload hx DX12_why_0 0 rfl ?_
  refine v_get hx DX12_why_1 FLRX12_111 hR.o (v := .ref (ν + 16)) rfl ?_
  refine v_iload hx DX12_why_4 1 rfl ?_
  refine v_iald hx DX12_why_5 hR.sheetMany (by omega) (by decide) (z := mm) em ?_
  refine v_if_ge hx DX12_why_6 (by omega) (fun c6 => ?_) (fun c6 => ?_)
  · skip
    have hm2 := hm.elim (fun w => absurd w.2 (by omega)) id
    have n1 : ¬ (S k).1 = -1 := by omega
    refine v_aload hx DX12_why_12 0 rfl ?_
    refine v_get hx DX12_why_13 FLRX12_108 hR.o (v := .ref (ν + 15)) rfl ?_
    refine v_iload hx DX12_why_16 1 rfl ?_
    refine v_iald hx DX12_why_17 hR.sheetLane (by omega) (by decide) (z := (S k).1) hm2.2.2.1 ?_
    refine v_iload hx DX12_why_18 2 rfl ?_
    refine v_icmp_eq hx DX12_why_19 (by omega) (by omega) (fun c19 => ?_) (fun c19 => ?_)
    · skip
      refine v_iload hx DX12_why_25 3 rfl ?_
      refine v_if_lt hx DX12_why_26 (by omega) (fun c26 => ?_) (fun c26 => ?_)
      · skip
        have e0 : (-13 : Int) = (S k).ref lane i c := by unfold Sht.ref; rw [if_neg n1, if_neg (by omega), if_neg (by omega)]
        refine v_push hx DX12_why_46 ?_
        exact v_ri hx hBD DX12_why_48 (⟨rfl, e0⟩)
      · skip
        refine v_iload hx DX12_why_29 3 rfl ?_
        refine v_aload hx DX12_why_30 0 rfl ?_
        refine v_get hx DX12_why_31 FLRX12_111 hR.o (v := .ref (ν + 16)) rfl ?_
        refine v_iload hx DX12_why_34 1 rfl ?_
        refine v_iald hx DX12_why_35 hR.sheetMany (by omega) (by decide) (z := mm) em ?_
        refine v_iload hx DX12_why_36 4 rfl ?_
        refine v_isub hx DX12_why_38 ?_
        refine v_icmp_gt hx DX12_why_39 (by omega) (by omega) (fun c39 => ?_) (fun c39 => ?_)
        · skip
          have e0 : (-13 : Int) = (S k).ref lane i c := by unfold Sht.ref; rw [if_neg n1, if_neg (by omega), if_neg (by omega)]
          refine v_push hx DX12_why_46 ?_
          exact v_ri hx hBD DX12_why_48 (⟨rfl, e0⟩)
        · skip
          have e0 : (0 : Int) = (S k).ref lane i c := by unfold Sht.ref; rw [if_neg n1, if_neg (by omega), if_pos (by omega)]
          refine v_push hx DX12_why_42 ?_
          refine v_goto hx DX12_why_43 ?_
          exact v_ri hx hBD DX12_why_48 (⟨rfl, e0⟩)
    · skip
      have e0 : (-12 : Int) = (S k).ref lane i c := by unfold Sht.ref; rw [if_neg n1, if_pos (by omega)]
      refine v_push hx DX12_why_22 ?_
      exact v_ri hx hBD DX12_why_24 (⟨rfl, e0⟩)
  · skip
    have e0 : (-11 : Int) = (S k).ref lane i c := by unfold Sht.ref; rw [if_pos (by omega)]
    refine v_push hx DX12_why_9 ?_
    exact v_ri hx hBD DX12_why_11 (⟨rfl, e0⟩)
theorem r_areNumbers (l : Launch) (G : Gl) (Λ : Lay) (sz : Nat) (μ : Mem) {ν : Nat} {f : Int → Int64} {k i c : Int} (hR : refK Λ ν) (hk : 0 ≤ k ∧ k < 4) (hi : 0 ≤ i ∧ 0 ≤ c ∧ i + c ≤ 24) (hf : ∀ j : Int, 0 ≤ j → j < 24 → μ.2 (ν + 17) (24 * k + j) = f j) : Sp l G yX12_areNumbers cX12_areNumbers 6 (some FieldType.boolean) 0 [.ref ν, iv k, iv i, iv c] Λ sz μ (pP μ (bz (∀ j : Int, i ≤ j → j < i + c → isN (f j)))) := by
  refine Sp.intro (by decide) (Nat.le_of_ble_eq_true rfl) (fun x hx hBD => ?_)
  refine v_lv [(0, .ref ν), (1, iv k), (2, iv i), (3, iv c)] rfl ?_
  have L6 : ∀ (nf : Nat) (j z : Int), (i + c - j < (nf : Int)) → (i ≤ j ∧ j ≤ i + c) → (z = bz (∀ l : Nat, (l : Int) < j - i → (fun j : Nat => isN (f (i + (j : Int)))) l)) → V G x (0, 0) Λ sz μ 6 [(5, iv j), (4, iv z), (0, .ref ν), (1, iv k), (2, iv i), (3, iv c)] [] := by
    intro nf
    induction nf with
    | zero => intro j z hm hj hz; exact absurd hm (by omega)
    | succ nf ih =>
      intro j z hm hj hz
      have zr := hz.symm ▸ bz_rng _
      refine v_iload hx DX12_areNumbers_6 0 rfl ?_
      refine v_iload hx DX12_areNumbers_8 4 rfl ?_
      refine v_iload hx DX12_areNumbers_9 5 rfl ?_
      refine v_iadd hx DX12_areNumbers_10 ?_
      refine v_icmp_ge hx DX12_areNumbers_11 (by omega) (by omega) (fun c11 => ?_) (fun c11 => ?_)
      · skip
        refine v_iload hx DX12_areNumbers_68 1 rfl ?_
        exact v_rz hx hBD (by omega) DX12_areNumbers_70 (⟨rfl, hz.trans (bz_congr ⟨fun q l h0 h1 => by have := q (l - i).toNat (by omega); simp only [show i + ((l - i).toNat : Int) = l by omega] at this; exact this, fun q l hl => q (i + (l : Int)) (by omega) (by omega)⟩)⟩)
      · skip
        have ej : i + ((j - i).toNat : Int) = j := by omega
        refine v_iload hx DX12_areNumbers_14 1 rfl ?_
        refine v_if_eq hx DX12_areNumbers_16 (by omega) (fun c16 => ?_) (fun c16 => ?_)
        · skip
          refine v_push hx DX12_areNumbers_59 ?_
          refine v_istore hx DX12_areNumbers_60 [(4, iv 0), (5, iv j), (0, .ref ν), (1, iv k), (2, iv i), (3, iv c)] rfl (by decide) ?_
          refine v_iinc hx DX12_areNumbers_62 1 rfl [(5, iv (j + 1)), (4, iv 0), (0, .ref ν), (1, iv k), (2, iv i), (3, iv c)] rfl (by decide) ?_
          refine v_goto hx DX12_areNumbers_65 ?_
          exact v_sub [0, 1, 2, 3, 4, 5] _ rfl (ih (j + 1) 0 (by omega) (by omega) (by rw [show j + 1 - i = j - i + 1 by omega]; exact bz_all0 hz c16))
        · skip
          refine v_aload hx DX12_areNumbers_19 2 rfl ?_
          refine v_get hx DX12_areNumbers_20 FLRX12_114 hR.o (v := .ref (ν + 17)) rfl ?_
          refine v_push hx DX12_areNumbers_23 ?_
          refine v_iload hx DX12_areNumbers_25 3 rfl ?_
          refine v_imul hx DX12_areNumbers_26 ?_
          refine v_iload hx DX12_areNumbers_27 0 rfl ?_
          refine v_iadd hx DX12_areNumbers_29 ?_
          refine v_lald hx DX12_areNumbers_30 hR.items (by omega) (by decide) (w := f j) (hf j (by omega) (by omega)) ?_
          refine v_lconst hx DX12_areNumbers_31 (w := 0) rfl ?_
          refine v_lcmp hx DX12_areNumbers_32 ?_
          have cr32 := cmpI_rng (f j) 0
          refine v_if_lt hx DX12_areNumbers_33 (by omega) (fun c33 => ?_) (fun c33 => ?_)
          · skip
            have hx0 : ¬ (fun j : Nat => isN (f (i + (j : Int)))) (j - i).toNat := fun q => by have w : isN (f (i + ((j - i).toNat : Int))) := q; rw [ej] at w; have h2 := cmpI_lt.mp c33; have h3 := w.1; have h4 : (0 : Int64).toInt = 0 := (by decide); omega
            refine v_push hx DX12_areNumbers_59 ?_
            refine v_istore hx DX12_areNumbers_60 [(4, iv 0), (5, iv j), (0, .ref ν), (1, iv k), (2, iv i), (3, iv c)] rfl (by decide) ?_
            refine v_iinc hx DX12_areNumbers_62 1 rfl [(5, iv (j + 1)), (4, iv 0), (0, .ref ν), (1, iv k), (2, iv i), (3, iv c)] rfl (by decide) ?_
            refine v_goto hx DX12_areNumbers_65 ?_
            exact v_sub [0, 1, 2, 3, 4, 5] _ rfl (ih (j + 1) 0 (by omega) (by omega) (by rw [show j + 1 - i = j - i + 1 by omega]; exact bz_all1 (by omega) hx0))
          · skip
            refine v_aload hx DX12_areNumbers_36 2 rfl ?_
            refine v_get hx DX12_areNumbers_37 FLRX12_114 hR.o (v := .ref (ν + 17)) rfl ?_
            refine v_push hx DX12_areNumbers_40 ?_
            refine v_iload hx DX12_areNumbers_42 3 rfl ?_
            refine v_imul hx DX12_areNumbers_43 ?_
            refine v_iload hx DX12_areNumbers_44 0 rfl ?_
            refine v_iadd hx DX12_areNumbers_46 ?_
            refine v_lald hx DX12_areNumbers_47 hR.items (by omega) (by decide) (w := f j) (hf j (by omega) (by omega)) ?_
            refine v_ldc2 hx DX12_areNumbers_48 cnRX12_342 ?_
            refine v_lcmp hx DX12_areNumbers_51 ?_
            have cr51 := cmpI_rng (f j) 100
            refine v_if_gt hx DX12_areNumbers_52 (by omega) (fun c52 => ?_) (fun c52 => ?_)
            · skip
              have hx0 : ¬ (fun j : Nat => isN (f (i + (j : Int)))) (j - i).toNat := fun q => by have w : isN (f (i + ((j - i).toNat : Int))) := q; rw [ej] at w; have h2 := cmpI_gt.mp c52; have h3 := w.2; have h4 : (100 : Int64).toInt = 100 := (by decide); omega
              refine v_push hx DX12_areNumbers_59 ?_
              refine v_istore hx DX12_areNumbers_60 [(4, iv 0), (5, iv j), (0, .ref ν), (1, iv k), (2, iv i), (3, iv c)] rfl (by decide) ?_
              refine v_iinc hx DX12_areNumbers_62 1 rfl [(5, iv (j + 1)), (4, iv 0), (0, .ref ν), (1, iv k), (2, iv i), (3, iv c)] rfl (by decide) ?_
              refine v_goto hx DX12_areNumbers_65 ?_
              exact v_sub [0, 1, 2, 3, 4, 5] _ rfl (ih (j + 1) 0 (by omega) (by omega) (by rw [show j + 1 - i = j - i + 1 by omega]; exact bz_all1 (by omega) hx0))
            · skip
              have hx1 : (fun j : Nat => isN (f (i + (j : Int)))) (j - i).toNat := by
                show isN (f (i + ((j - i).toNat : Int)))
                rw [ej]
                have h1 : ¬ (f j).toInt < (0 : Int64).toInt := fun q => c33 (cmpI_lt.mpr q)
                have h2 : ¬ (100 : Int64).toInt < (f j).toInt := fun q => c52 (cmpI_gt.mpr q)
                have h4 : (100 : Int64).toInt = 100 := by decide
                have h5 : (0 : Int64).toInt = 0 := by decide
                exact ⟨by omega, by omega⟩
              refine v_push hx DX12_areNumbers_55 ?_
              refine v_goto hx DX12_areNumbers_56 ?_
              refine v_istore hx DX12_areNumbers_60 [(4, iv 1), (5, iv j), (0, .ref ν), (1, iv k), (2, iv i), (3, iv c)] rfl (by decide) ?_
              refine v_iinc hx DX12_areNumbers_62 1 rfl [(5, iv (j + 1)), (4, iv 1), (0, .ref ν), (1, iv k), (2, iv i), (3, iv c)] rfl (by decide) ?_
              refine v_goto hx DX12_areNumbers_65 ?_
              exact v_sub [0, 1, 2, 3, 4, 5] _ rfl (ih (j + 1) 1 (by omega) (by omega) (by rw [show j + 1 - i = j - i + 1 by omega]; exact bz_all2 (by omega) hz c16 hx1))
  refine v_push hx DX12_areNumbers_0 ?_
  refine v_istore hx DX12_areNumbers_1 [(4, iv 1), (0, .ref ν), (1, iv k), (2, iv i), (3, iv c)] rfl (by decide) ?_
  refine v_iload hx DX12_areNumbers_3 3 rfl ?_
  refine v_istore hx DX12_areNumbers_4 [(5, iv i), (4, iv 1), (0, .ref ν), (1, iv k), (2, iv i), (3, iv c)] rfl (by decide) ?_
  exact v_sub [0, 1, 2, 3, 4, 5] _ rfl (L6 100 i 1 (by omega) (by omega) (bz_pos (fun l hl => by omega)).symm)
theorem r_sheet (l : Launch) (G : Gl) (Λ : Lay) (sz : Nat) (μ : Mem) {ν : Nat} {S : Int → Sht} {k lane c : Int} (hR : refK Λ ν) (hS : RSh μ ν S) (hk : inR k) (hl : inR lane) (hc : inR c) : Sp l G yX12_sheet cX12_sheet 5 (some FieldType.int) 2 [.ref ν, iv k, iv lane, iv c] Λ sz μ (pI (fun z μ' => z = shtA k lane c ∧ RSh μ' ν (shtS S k lane c) ∧ FrSh ν μ μ')) := by
  refine Sp.intro (by decide) (Nat.le_of_ble_eq_true rfl) (fun x hx hBD => ?_)
  refine v_lv [(0, .ref ν), (1, iv k), (2, iv lane), (3, iv c)] rfl ?_
  have L48 : ∀ (nf : Nat) (j : Int) (m : Mem), (24 - j < (nf : Int)) → (isSh k ∧ (0 ≤ lane ∧ lane ≤ 3) ∧ 0 ≤ c ∧ c ≤ 24) → (0 ≤ j ∧ j ≤ 24) → (m.1 (ν + 15) k = lane ∧ m.1 (ν + 16) k = c) → (∀ l : Int, 0 ≤ l → l < j → m.2 (ν + 17) (24 * k + l) = 0) → (∀ q : Int, q ≠ k → m.1 (ν + 15) q = μ.1 (ν + 15) q ∧ m.1 (ν + 16) q = μ.1 (ν + 16) q) → (∀ l : Int, l < 24 * k ∨ 24 * k + 24 ≤ l → m.2 (ν + 17) l = μ.2 (ν + 17) l) → (FrSh ν μ m) → V G x (0, 0) Λ sz m 48 [(4, iv j), (0, .ref ν), (1, iv k), (2, iv lane), (3, iv c)] [] := by
    intro nf
    induction nf with
    | zero => intro j m hm ok hj h15 hz ho hp hf; exact absurd hm (by omega)
    | succ nf ih =>
      intro j m hm ok hj h15 hz ho hp hf
      have ok1 := ok.1
      unfold isSh at ok1
      refine v_iload hx DX12_sheet_48 0 rfl ?_
      refine v_push hx DX12_sheet_50 ?_
      refine v_icmp_ge hx DX12_sheet_52 (by omega) (by decide) (fun c52 => ?_) (fun c52 => ?_)
      · skip
        refine v_iload hx DX12_sheet_74 4 rfl ?_
        exact v_ri hx hBD DX12_sheet_75 (⟨by unfold shtA; rw [if1 ⟨ok.1, ok.2.1, by omega⟩, if_neg (by omega)], sheet_done hS ok h15 (fun l g0 g1 => hz l g0 (by omega)) ho hp, hf⟩)
      · skip
        refine v_aload hx DX12_sheet_55 1 rfl ?_
        refine v_get hx DX12_sheet_56 FLRX12_114 hR.o (v := .ref (ν + 17)) rfl ?_
        refine v_push hx DX12_sheet_59 ?_
        refine v_iload hx DX12_sheet_61 2 rfl ?_
        refine v_imul hx DX12_sheet_62 ?_
        refine v_iload hx DX12_sheet_63 0 rfl ?_
        refine v_iadd hx DX12_sheet_65 ?_
        refine v_lconst hx DX12_sheet_66 (w := 0) rfl ?_
        refine v_last hx DX12_sheet_67 hR.items (by omega) (by decide) (v_mem (fun μ1 eμ1 => ?_))
        refine v_iinc hx DX12_sheet_68 0 rfl [(4, iv (j + 1)), (0, .ref ν), (1, iv k), (2, iv lane), (3, iv c)] rfl (by decide) ?_
        refine v_goto hx DX12_sheet_71 ?_
        exact v_sub [0, 1, 2, 3, 4] _ rfl (ih (j + 1) μ1 (by omega) ok (by omega) (by rw [eμ1]; exact h15) (fun l g0 g1 => by rw [eμ1, mL_at]; exact (Classical.em (l = j)).elim (fun q => by rw [if_pos (by omega)]) (fun q => by rw [if_neg (by omega)]; exact hz l g0 (by omega))) (fun q hq => by rw [eμ1]; exact ho q hq) (fun l hl => by rw [eμ1, mL_at, if_neg (by omega)]; exact hp l hl) (hf.trans (by rw [eμ1]; exact FrSh.wL)))
  refine v_iload hx DX12_sheet_0 1 rfl ?_
  refine v_cSp hx DX12_sheet_1 CSRX12_344 [iv k] (r_isSheet l G Λ sz μ (by omega)) rfl rfl (Nat.le_of_ble_eq_true rfl) (by decide) ⟨Nat.le_refl _, Nat.le_refl _⟩ ?_
  have br1 := bz_rng (isSh k)
  refine v_if_eq hx DX12_sheet_4 (by omega) (fun c4 => ?_) (fun c4 => ?_)
  · skip
    have d4 := bzf c4
    have nk : ¬ (isSh k ∧ (0 ≤ lane ∧ lane ≤ 3) ∧ c ≤ 24) := fun q => d4 q.1
    refine v_push hx DX12_sheet_22 ?_
    exact v_ri hx hBD DX12_sheet_23 (⟨by unfold shtA; rw [if0 nk], by unfold shtS; rw [if_neg (fun q => nk ⟨q.1, q.2.1, q.2.2.2⟩)]; exact hS, FrSh.rf⟩)
  · skip
    have d4 := bzt c4
    have d4n := d4
    unfold isSh at d4n
    refine v_iload hx DX12_sheet_7 2 rfl ?_
    refine v_push hx DX12_sheet_8 ?_
    refine v_push hx DX12_sheet_9 ?_
    refine v_cSp hx DX12_sheet_10 CSRX12_121 [iv lane, iv 0, iv 3] (r_in l G Λ sz μ (by omega) (by omega) (by omega)) rfl rfl (Nat.le_of_ble_eq_true rfl) (by decide) ⟨Nat.le_refl _, Nat.le_refl _⟩ ?_
    have br10 := bz_rng (0 ≤ lane ∧ lane ≤ 3)
    refine v_if_eq hx DX12_sheet_13 (by omega) (fun c13 => ?_) (fun c13 => ?_)
    · skip
      have d13 := bzf c13
      have nk : ¬ (isSh k ∧ (0 ≤ lane ∧ lane ≤ 3) ∧ c ≤ 24) := fun q => d13 q.2.1
      refine v_push hx DX12_sheet_22 ?_
      exact v_ri hx hBD DX12_sheet_23 (⟨by unfold shtA; rw [if0 nk], by unfold shtS; rw [if_neg (fun q => nk ⟨q.1, q.2.1, q.2.2.2⟩)]; exact hS, FrSh.rf⟩)
    · skip
      have d13 := bzt c13
      refine v_iload hx DX12_sheet_16 3 rfl ?_
      refine v_push hx DX12_sheet_17 ?_
      refine v_icmp_le hx DX12_sheet_19 (by omega) (by decide) (fun c19 => ?_) (fun c19 => ?_)
      · skip
        refine v_iload hx DX12_sheet_24 3 rfl ?_
        refine v_if_ge hx DX12_sheet_25 (by omega) (fun c25 => ?_) (fun c25 => ?_)
        · skip
          refine v_aload hx DX12_sheet_31 0 rfl ?_
          refine v_get hx DX12_sheet_32 FLRX12_108 hR.o (v := .ref (ν + 15)) rfl ?_
          refine v_iload hx DX12_sheet_35 1 rfl ?_
          refine v_iload hx DX12_sheet_36 2 rfl ?_
          refine v_iastm hx DX12_sheet_37 hR.sheetLane (by omega) (by decide) (fun μ6 eμ6 => ?_)
          refine v_aload hx DX12_sheet_38 0 rfl ?_
          refine v_get hx DX12_sheet_39 FLRX12_111 hR.o (v := .ref (ν + 16)) rfl ?_
          refine v_iload hx DX12_sheet_42 1 rfl ?_
          refine v_iload hx DX12_sheet_43 3 rfl ?_
          refine v_iastm hx DX12_sheet_44 hR.sheetMany (by omega) (by decide) (fun μ7 eμ7 => ?_)
          refine v_push hx DX12_sheet_45 ?_
          refine v_istore hx DX12_sheet_46 [(4, iv 0), (0, .ref ν), (1, iv k), (2, iv lane), (3, iv c)] rfl (by decide) ?_
          exact v_sub [0, 1, 2, 3, 4] _ rfl (L48 100 0 μ7 (by omega) ⟨d4, by omega, by omega, by omega⟩ (by omega) ⟨by rw [eμ7, mI_ne (by omega), eμ6, mI_at, if_pos rfl], by rw [eμ7, mI_at, if_pos rfl]⟩ (fun l g0 g1 => by omega) (fun q hq => ⟨by rw [eμ7, mI_ne (by omega), eμ6, mI_at, if_neg hq], by rw [eμ7, mI_at, if_neg hq, eμ6, mI_ne (by omega)]⟩) (fun l hl => by rw [eμ7, eμ6]; rfl) (by rw [eμ7, eμ6]; exact FrSh.w15.trans FrSh.w16))
        · skip
          refine v_push hx DX12_sheet_28 ?_
          exact v_ri hx hBD DX12_sheet_30 (⟨by unfold shtA; rw [if1 ⟨d4, d13, by omega⟩, if_pos (by omega)], by unfold shtS; rw [if_neg (fun q => by have := q.2.2.1; omega)]; exact hS, FrSh.rf⟩)
      · skip
        have nk : ¬ (isSh k ∧ (0 ≤ lane ∧ lane ≤ 3) ∧ c ≤ 24) := fun q => by have := q.2.2; omega
        refine v_push hx DX12_sheet_22 ?_
        exact v_ri hx hBD DX12_sheet_23 (⟨by unfold shtA; rw [if0 nk], by unfold shtS; rw [if_neg (fun q => nk ⟨q.1, q.2.1, q.2.2.2⟩)]; exact hS, FrSh.rf⟩)
theorem r_drop (l : Launch) (G : Gl) (Λ : Lay) (sz : Nat) (μ : Mem) {ν : Nat} {S : Int → Sht} {k : Int} (hR : refK Λ ν) (hS : RSh μ ν S) (hk : inR k) : Sp l G yX12_drop cX12_drop 3 (some FieldType.int) 2 [.ref ν, iv k] Λ sz μ (pI (fun z μ' => z = drpA S k ∧ RSh μ' ν (drpS S k) ∧ FrSh ν μ μ')) := by
  refine Sp.intro (by decide) (Nat.le_of_ble_eq_true rfl) (fun x hx hBD => ?_)
  refine v_lv [(0, .ref ν), (1, iv k)] rfl ?_
  refine v_iload hx DX12_drop_0 1 rfl ?_
  refine v_cSp hx DX12_drop_1 CSRX12_344 [iv k] (r_isSheet l G Λ sz μ (by omega)) rfl rfl (Nat.le_of_ble_eq_true rfl) (by decide) ⟨Nat.le_refl _, Nat.le_refl _⟩ ?_
  have br1 := bz_rng (isSh k)
  refine v_if_ne hx DX12_drop_4 (by omega) (fun c4 => ?_) (fun c4 => ?_)
  · skip
    have d4 := bzt c4
    have d4n := d4
    unfold isSh at d4n
    have q := hS k (by omega) (by omega)
    obtain ⟨mm, em, hm⟩ : ∃ mm : Int, μ.1 (ν + 16) k = mm ∧ (((S k).1 = -1 ∧ mm = -1) ∨ ((0 ≤ (S k).1 ∧ (S k).1 ≤ 3) ∧ (0 ≤ (S k).2.1 ∧ (S k).2.1 ≤ 24) ∧ mm = (S k).2.1)) := ⟨_, rfl, q.elim Or.inl (fun w => Or.inr ⟨w.1, w.2.1, w.2.2.2.1⟩)⟩
    refine v_aload hx DX12_drop_9 0 rfl ?_
    refine v_get hx DX12_drop_10 FLRX12_111 hR.o (v := .ref (ν + 16)) rfl ?_
    refine v_iload hx DX12_drop_13 1 rfl ?_
    refine v_iald hx DX12_drop_14 hR.sheetMany (by omega) (by decide) (z := mm) em ?_
    refine v_istore hx DX12_drop_15 [(2, iv mm), (0, .ref ν), (1, iv k)] rfl (by decide) ?_
    refine v_iload hx DX12_drop_16 0 rfl ?_
    refine v_if_ge hx DX12_drop_17 (by omega) (fun c17 => ?_) (fun c17 => ?_)
    · skip
      refine v_aload hx DX12_drop_23 1 rfl ?_
      refine v_get hx DX12_drop_24 FLRX12_111 hR.o (v := .ref (ν + 16)) rfl ?_
      refine v_iload hx DX12_drop_27 2 rfl ?_
      refine v_push hx DX12_drop_28 ?_
      refine v_iastm hx DX12_drop_29 hR.sheetMany (by omega) (by decide) (fun μ3 eμ3 => ?_)
      refine v_iload hx DX12_drop_30 0 rfl ?_
      exact v_ri hx hBD DX12_drop_31 (⟨by unfold drpA; rw [if1 d4, if_neg (by omega)]; omega, drop_done hS d4 eμ3, by rw [eμ3]; exact FrSh.w16⟩)
    · skip
      refine v_push hx DX12_drop_20 ?_
      exact v_ri hx hBD DX12_drop_22 (⟨by unfold drpA; rw [if1 d4, if_pos (by omega)], drop_miss hS d4 (by omega) em (by omega), FrSh.rf⟩)
  · skip
    have d4 := bzf c4
    refine v_push hx DX12_drop_7 ?_
    exact v_ri hx hBD DX12_drop_8 (⟨by unfold drpA; rw [if0 d4], by unfold drpS; rw [if_neg d4]; exact hS, FrSh.rf⟩)
theorem r_item (l : Launch) (G : Gl) (Λ : Lay) (sz : Nat) (μ : Mem) {ν : Nat} {S : Int → Sht} {k lane i : Int} {w : Int64} (hR : refK Λ ν) (hS : RSh μ ν S) (hk : inR k) (hl : inR lane) (hi : inR i) : Sp l G yX12_item cX12_item 7 (some FieldType.int) 2 [.ref ν, iv k, iv lane, iv i, .long w] Λ sz μ (pI (fun z μ' => z = itmA S k lane i ∧ RSh μ' ν (itmS S k lane i w) ∧ FrSh ν μ μ')) := by
  refine Sp.intro (by decide) (Nat.le_of_ble_eq_true rfl) (fun x hx hBD => ?_)
  refine v_lv [(0, .ref ν), (1, iv k), (2, iv lane), (3, iv i), (4, .long w)] rfl ?_
  refine v_iload hx DX12_item_0 1 rfl ?_
  refine v_cSp hx DX12_item_1 CSRX12_344 [iv k] (r_isSheet l G Λ sz μ (by omega)) rfl rfl (Nat.le_of_ble_eq_true rfl) (by decide) ⟨Nat.le_refl _, Nat.le_refl _⟩ ?_
  have br1 := bz_rng (isSh k)
  refine v_if_eq hx DX12_item_4 (by omega) (fun c4 => ?_) (fun c4 => ?_)
  · skip
    have d4 := bzf c4
    have nk : ¬ (isSh k ∧ 0 ≤ lane ∧ lane ≤ 3) := fun q => d4 q.1
    refine v_push hx DX12_item_16 ?_
    exact v_ri hx hBD DX12_item_17 (⟨by unfold itmA; rw [if0 nk], by unfold itmS; rw [if_neg (fun q => nk q.1)]; exact hS, FrSh.rf⟩)
  · skip
    have d4 := bzt c4
    have d4n := d4
    unfold isSh at d4n
    refine v_iload hx DX12_item_7 2 rfl ?_
    refine v_push hx DX12_item_8 ?_
    refine v_push hx DX12_item_9 ?_
    refine v_cSp hx DX12_item_10 CSRX12_121 [iv lane, iv 0, iv 3] (r_in l G Λ sz μ (by omega) (by omega) (by omega)) rfl rfl (Nat.le_of_ble_eq_true rfl) (by decide) ⟨Nat.le_refl _, Nat.le_refl _⟩ ?_
    have br10 := bz_rng (0 ≤ lane ∧ lane ≤ 3)
    refine v_if_ne hx DX12_item_13 (by omega) (fun c13 => ?_) (fun c13 => ?_)
    · skip
      have d13 := bzt c13
      refine v_aload hx DX12_item_18 0 rfl ?_
      refine v_iload hx DX12_item_19 1 rfl ?_
      refine v_iload hx DX12_item_20 2 rfl ?_
      refine v_iload hx DX12_item_21 3 rfl ?_
      refine v_push hx DX12_item_22 ?_
      refine v_cVp hx DX12_item_23 CVRX12_347 [iv k, iv lane, iv i, iv 1] (r_why l G Λ sz μ hR hS (by omega) (by omega) (by omega) (by omega)) hR.o rfl rfl (Nat.le_of_ble_eq_true rfl) (by decide) ⟨Nat.le_refl _, Nat.le_refl _⟩ ?_
      have rr := (S k).ref_rng lane i 1
      refine v_istore hx DX12_item_26 [(6, iv ((S k).ref lane i 1)), (0, .ref ν), (1, iv k), (2, iv lane), (3, iv i), (4, .long w)] rfl (by decide) ?_
      refine v_iload hx DX12_item_28 0 rfl ?_
      refine v_if_eq hx DX12_item_30 (by omega) (fun c30 => ?_) (fun c30 => ?_)
      · skip
        have hh := hS.has (by omega) c30
        refine v_aload hx DX12_item_36 1 rfl ?_
        refine v_get hx DX12_item_37 FLRX12_114 hR.o (v := .ref (ν + 17)) rfl ?_
        refine v_push hx DX12_item_40 ?_
        refine v_iload hx DX12_item_42 2 rfl ?_
        refine v_imul hx DX12_item_43 ?_
        refine v_iload hx DX12_item_44 4 rfl ?_
        refine v_iadd hx DX12_item_45 ?_
        refine v_iload hx DX12_item_46 3 rfl ?_
        refine v_lload hx DX12_item_47 5 rfl ?_
        refine v_cSl hx DX12_item_49 CSRX12_354 [iv lane, .long w] (r_cut l G Λ sz μ (by omega)) rfl rfl (Nat.le_of_ble_eq_true rfl) (by decide) ⟨Nat.le_refl _, Nat.le_refl _⟩ (fun z8 μ7 hμ7 => ?_)
        obtain ⟨e1, e2⟩ := hμ7
        subst e1 e2
        refine v_last hx DX12_item_52 hR.items (by omega) (by decide) (v_mem (fun μ9 eμ9 => ?_))
        refine v_push hx DX12_item_53 ?_
        exact v_ri hx hBD DX12_item_54 (⟨by unfold itmA; rw [if1 ⟨d4, d13⟩, if_neg (by omega)], by unfold itmS; rw [if_pos ⟨⟨d4, d13⟩, c30⟩]; exact hS.put (by omega) (by omega) eμ9, by rw [eμ9]; exact FrSh.wL⟩)
      · skip
        refine v_iload hx DX12_item_33 0 rfl ?_
        exact v_ri hx hBD DX12_item_35 (⟨by unfold itmA; rw [if1 ⟨d4, d13⟩, if_pos c30], by unfold itmS; rw [if_neg (fun q => c30 q.2)]; exact hS, FrSh.rf⟩)
    · skip
      have d13 := bzf c13
      have nk : ¬ (isSh k ∧ 0 ≤ lane ∧ lane ≤ 3) := fun q => d13 q.2
      refine v_push hx DX12_item_16 ?_
      exact v_ri hx hBD DX12_item_17 (⟨by unfold itmA; rw [if0 nk], by unfold itmS; rw [if_neg (fun q => nk q.1)]; exact hS, FrSh.rf⟩)
