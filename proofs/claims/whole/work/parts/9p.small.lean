theorem gcd_comm {a b : PS} (ha : a.fin) (hb : b.fin) (ha0 : a ≠ PS.zero) (sa : a.size < 200) (sb : b.size < 200) : a.gcd b = b.gcd a := by
  by_cases c : b = PS.zero
  · obtain ⟨n, -, zn⟩ := PS.fne_isz ha ha0
    rw [c, gcd_zero zn]
    unfold PS.gcd
    rw [PS.eu_zero]
  · have g1 := PS.gcd_spec ha hb ha0 sb
    have g2 := PS.gcd_spec hb ha c sa
    obtain ⟨u, v, hu, hv, e1⟩ := g1.2.2.2.2
    obtain ⟨x, y, hx, hy, e2⟩ := g2.2.2.2.2
    refine PS.eq_mnc g1.1 g2.1 g1.2.1 g2.2.1 (PS.mnc_gcd ha hb ha0) (PS.mnc_gcd hb ha c) ?_ ?_
    · rw [e2]; exact PS.dvd_add (PS.dvd_mul_left x hx g1.2.2.2.1) (PS.dvd_mul_left y hy g1.2.2.1)
    · rw [e1]; exact PS.dvd_add (PS.dvd_mul_left u hu g2.2.2.2.1) (PS.dvd_mul_left v hv g2.2.2.1)
theorem numT_ge (v : Int) : ∀ z ∈ numT v, 40 ≤ z := by
  intro z hz
  unfold numT at hz
  rcases List.mem_append.mp hz with h | h
  · rcases List.mem_append.mp h with h | h
    · split at h
      · rw [List.mem_singleton.mp h]; omega
      · exact absurd h (by simp)
    · split at h
      · rw [List.mem_singleton.mp h]; omega
      · exact absurd h (by simp)
  · rw [List.mem_singleton.mp h]; omega
theorem termT_ge (c k : Int) : ∀ z ∈ termT c k, 40 ≤ z := by
  intro z hz
  unfold termT at hz
  rcases List.mem_append.mp hz with h | h
  · rcases List.mem_append.mp h with h | h
    · split at h
      · rcases List.mem_append.mp h with h | h
        · exact numT_ge c z h
        · split at h
          · rw [List.mem_singleton.mp h]; omega
          · exact absurd h (by simp)
      · exact absurd h (by simp)
    · split at h
      · rw [List.mem_singleton.mp h]; omega
      · exact absurd h (by simp)
  · split at h
    · rcases List.mem_cons.mp h with h | h
      · omega
      · exact numT_ge k z h
    · exact absurd h (by simp)
theorem polyT_ge (p : PS) (d : Int) : ∀ (n : Nat), ∀ z ∈ polyT p d n, 40 ≤ z := by
  intro n
  induction n with
  | zero => intro z hz; exact absurd hz (by simp [polyT])
  | succ n ih =>
    intro z hz
    rw [polyT] at hz
    rcases List.mem_append.mp hz with h | h
    · split at h
      · exact absurd h (by simp)
      · rcases List.mem_append.mp h with h | h
        · split at h
          · rw [List.mem_singleton.mp h]; omega
          · exact absurd h (by simp)
        · exact termT_ge _ _ z h
    · exact ih z h
theorem ptxt_ge (p : PS) : ∀ z ∈ ptxt p, 40 ≤ z := by
  intro z hz
  unfold ptxt at hz
  split at hz
  · rw [List.mem_singleton.mp hz]; omega
  · exact polyT_ge _ _ _ z hz
theorem ftxt_ge (N D : PS) : ∀ z ∈ ftxt N D, 40 ≤ z := by
  intro z hz
  unfold ftxt at hz
  split at hz
  · exact ptxt_ge N z hz
  · simp only [List.mem_append, List.mem_cons, List.not_mem_nil, or_false] at hz
    rcases hz with (((h | h) | h) | h) | h
    · omega
    · exact ptxt_ge N z h
    · omega
    · exact ptxt_ge D z h
    · omega
theorem ftxt_at {N D : PS} {k : Nat} (h : k < (ftxt N D).length) : 40 ≤ (ftxt N D).getD k 0 := by
  refine ftxt_ge N D _ ?_
  rw [List.getD_eq_getElem?_getD, List.getElem?_eq_getElem h]
  exact List.getElem_mem _
theorem cut_small {lane z : Int} (hl : 0 ≤ lane ∧ lane ≤ 3) (hz : 0 ≤ z ∧ z ≤ 100) : cut lane (Int64.ofInt z) = Int64.ofInt z := by
  have h : ∀ z : Fin 101, ∀ lane : Fin 4, cut (lane.val : Int) (Int64.ofInt (z.val : Int)) = Int64.ofInt (z.val : Int) := by decide +kernel
  have q := h ⟨z.toNat, by omega⟩ ⟨lane.toNat, by omega⟩
  simp only [Int.toNat_of_nonneg hz.1, Int.toNat_of_nonneg hl.1] at q
  exact q
