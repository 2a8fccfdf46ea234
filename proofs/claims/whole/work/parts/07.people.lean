/-! ===== order of ints, in all its forms, and through longs ===== -/
theorem fa_lt (a b : Int32) : a < b ↔ a.toInt < b.toInt := Int32.lt_iff_toInt_lt
theorem fa_le (a b : Int32) : a ≤ b ↔ a.toInt ≤ b.toInt := Int32.le_iff_toInt_le
theorem fa_eq (a b : Int32) : a = b ↔ a.toInt = b.toInt := Int32.toInt_inj.symm
theorem fa_lt64 (a b : Int64) : a < b ↔ a.toInt < b.toInt := Int64.lt_iff_toInt_lt
theorem fa_le64 (a b : Int64) : a ≤ b ↔ a.toInt ≤ b.toInt := Int64.le_iff_toInt_le
theorem fa_eq64 (a b : Int64) : a = b ↔ a.toInt = b.toInt := Int64.toInt_inj.symm
/-- a comparison of two ints taken as longs -/
theorem fa_wide_lt (a b : Int32) : a.toInt64 < b.toInt64 ↔ a < b := by rw [fa_lt64, fa_lt, Int32.toInt_toInt64, Int32.toInt_toInt64]
theorem fa_wide_le (a b : Int32) : a.toInt64 ≤ b.toInt64 ↔ a ≤ b := by rw [fa_le64, fa_le, Int32.toInt_toInt64, Int32.toInt_toInt64]
theorem fa_wide_eq (a b : Int32) : a.toInt64 = b.toInt64 ↔ a = b := by rw [fa_eq64, fa_eq, Int32.toInt_toInt64, Int32.toInt_toInt64]
/-- one strict comparison gives all the others -/
theorem fa_of_lt {a b : Int32} (h : a < b) : a ≤ b ∧ ¬ b ≤ a ∧ ¬ b < a ∧ a ≠ b ∧ b ≠ a := by
  rw [fa_lt] at h
  refine ⟨?_, ?_, ?_, ?_, ?_⟩
  · rw [fa_le]; omega
  · rw [fa_le]; omega
  · rw [fa_lt]; omega
  · intro e; rw [fa_eq] at e; omega
  · intro e; rw [fa_eq] at e; omega
theorem fa_of_nlt {a b : Int32} (h : ¬ a < b) : b ≤ a := by
  rw [fa_lt] at h
  rw [fa_le]
  omega
theorem fa_of_nle {a b : Int32} (h : ¬ a ≤ b) : b < a := by
  rw [fa_le] at h
  rw [fa_lt]
  omega
theorem fa_le_ne {a b : Int32} (h : a ≤ b) (h2 : a ≠ b) : a < b := by
  rw [fa_le] at h
  rw [fa_lt]
  have h3 : a.toInt ≠ b.toInt := fun e => h2 ((fa_eq a b).mpr e)
  omega
theorem fa_three (a b : Int32) : a < b ∨ a = b ∨ b < a := by
  rw [fa_lt, fa_lt, fa_eq]
  omega
theorem fa_trans {a b c : Int32} (h : a < b) (h2 : b ≤ c) : a < c := by
  rw [fa_lt] at *
  rw [fa_le] at h2
  omega
/-! ===== small literals as numbers ===== -/
theorem fa_lit (n : Nat) : (OfNat.ofNat n : Int32) = nI n := rfl
theorem fa_litL (n : Nat) : (OfNat.ofNat n : Int64) = lN n := rfl
/-! ===== is there such a person ===== -/
theorem hp_in {p n : Nat} (hp : p < n) (hn : n ≤ 7) : f_X4_hasPerson (nI p) (nI n) = 1 := by
  unfold f_X4_hasPerson
  rw [qs_f (nI_pos (by omega)), qs_f (fun h => nI_ge hp (by omega) h)]
theorem hp_out {x : Int32} {n : Nat} (hn : n ≤ 7) (h : ∀ p, p < n → x ≠ nI p) : f_X4_hasPerson x (nI n) = 0 := by
  unfold f_X4_hasPerson
  by_cases h1 : x < 0
  · rw [qs_t h1]
  · rw [qs_f h1]
    by_cases h2 : nI n ≤ x
    · rw [qs_t h2]
    · rcases pk_ix x (n := n) (by omega) with h3 | h3 | ⟨j, hj, e⟩
      · exact absurd h3 h1
      · exact absurd h3 h2
      · exact absurd e (h j hj)
theorem hp_cases (x : Int32) {n : Nat} (hn : n ≤ 7) : (∃ p, p < n ∧ x = nI p) ∨ ∀ p, p < n → x ≠ nI p := by
  by_cases h : ∃ p, p < n ∧ x = nI p
  · exact Or.inl h
  · exact Or.inr (fun p hp e => h ⟨p, hp, e⟩)
theorem lg_lt (a b : Int64) : lg_cmp a b < 0 ↔ a < b := by
  unfold lg_cmp
  by_cases h1 : a > b
  · rw [if_pos h1]
    constructor
    · intro h; exact absurd h (by decide)
    · intro h; rw [fa_lt64] at h; rw [gt_iff_lt, fa_lt64] at h1; omega
  · rw [if_neg h1]
    by_cases h2 : a = b
    · rw [if_pos h2, h2]
      constructor
      · intro h; exact absurd h (by decide)
      · intro h; rw [fa_lt64] at h; omega
    · rw [if_neg h2]
      constructor
      · intro _
        rw [gt_iff_lt, fa_lt64] at h1
        rw [fa_eq64] at h2
        rw [fa_lt64]; omega
      · intro _; decide
theorem lg_gt (a b : Int64) : 0 < lg_cmp a b ↔ b < a := by
  unfold lg_cmp
  by_cases h1 : a > b
  · rw [if_pos h1]
    constructor
    · intro _; exact h1
    · intro _; decide
  · rw [if_neg h1]
    constructor
    · intro h
      by_cases h2 : a = b
      · rw [if_pos h2] at h; exact absurd h (by decide)
      · rw [if_neg h2] at h; exact absurd h (by decide)
    · intro h; exact absurd h h1
theorem in_ii (x a b : Int32) : f_X11_in (Int32.toInt64 x) (Int32.toInt64 a) (Int32.toInt64 b) = if a ≤ x ∧ x ≤ b then 1 else 0 := by
  unfold f_X11_in
  by_cases h1 : x < a
  · rw [qs_t ((lg_lt _ _).mpr ((fa_wide_lt x a).mpr h1)), if_neg]
    intro h; exact (fa_of_lt h1).2.1 h.1
  · rw [qs_f (fun h => h1 ((fa_wide_lt x a).mp ((lg_lt _ _).mp h)))]
    by_cases h2 : b < x
    · rw [qs_t ((lg_gt _ _).mpr ((fa_wide_lt b x).mpr h2)), if_neg]
      intro h; exact (fa_of_lt h2).2.1 h.2
    · rw [qs_f (fun h => h2 ((fa_wide_lt b x).mp ((lg_gt _ _).mp h))), if_pos ⟨fa_of_nlt h1, fa_of_nlt h2⟩]
theorem isP_eq (x : Int32) {n : Nat} (hn : n ≤ 7) : f_X11_isPerson x (nI n) = some (f_X4_hasPerson x (nI n)) := by
  unfold f_X11_isPerson
  rw [qs_lt]
  have e0 : f_X11_in (Int32.toInt64 x) 0 (Int32.toInt64 (nI n - 1)) = f_X11_in (Int32.toInt64 x) (Int32.toInt64 0) (Int32.toInt64 (nI n - 1)) := rfl
  rw [e0, in_ii]
  have eN : (nI n - 1).toInt = (n : Int) - 1 := pk_sub_toInt (a := n) (b := 1) (by omega) (by omega)
  rcases hp_cases x hn with ⟨p, hp, rfl⟩ | h
  · rw [hp_in hp hn, if_pos]
    · rw [qs_g (Or.inr rfl)]
    · refine ⟨nI_pos' (by omega), ?_⟩
      rw [fa_le, eN, nI_toInt (by omega)]; omega
  · rw [hp_out hn h, if_neg]
    · rw [qs_g (Or.inl rfl)]
    · intro ⟨h1, h2⟩
      rw [fa_le, eN] at h2
      rw [fa_le] at h1
      have h1 : (0 : Int) ≤ x.toInt := h1
      refine h x.toInt.toNat (by omega) ?_
      rw [fa_eq, nI_toInt (by omega)]; omega
theorem hb_eq (x y : Int32) (n : Int32) : f_X4_hasBoth x y n = if f_X4_hasPerson x n = 0 then 0 else if f_X4_hasPerson y n = 0 then 0 else 1 := by
  unfold f_X4_hasBoth
  rw [qs_lt]
  by_cases h1 : f_X4_hasPerson x n = 0
  · rw [qs_t h1, if_pos h1]
  · rw [qs_f h1, if_neg h1, qs_lt]
    by_cases h2 : f_X4_hasPerson y n = 0
    · rw [qs_t h2, if_pos h2]
    · rw [qs_f h2, if_neg h2]
/-! ===== cells ===== -/
theorem cell_nI {p q : Nat} (hp : p < 8) (hq : q < 8) : f_X3_cell (nI p) (nI q) = nI (8 * p + q) := by
  have := (by decide +kernel : ∀ p, p < 8 → ∀ q, q < 8 → f_X3_cell (nI p) (nI q) = nI (8 * p + q))
  exact this p hp q hq
theorem cell2_nI {p q : Nat} (hp : p < 8) (hq : q < 8) : f_X3_cellOfTwo (nI p) (nI q) = nI (if p < q then 8 * p + q else 8 * q + p) := by
  unfold f_X3_cellOfTwo
  by_cases h : p < q
  · rw [qs_f (fun h2 => nI_ge h (by omega) h2), qs_lt, cell_nI hp hq, if_pos h]
  · rw [qs_t (nI_le (by omega) (by omega)), qs_lt, cell_nI hq hp, if_neg h]
theorem ST_lt8 {d : PD} {σ : Nat → Nat} (hn : pdn d ≤ 7) (h : ST d σ) : Dg σ := by
  intro c
  rcases Nat.lt_or_ge c (pdn d) with h1 | h1
  · have := h.2.1 c h1; omega
  · rw [h.1 c h1]; omega
/-! ===== the first simulations ===== -/
theorem Sim_chair_ok : Sim_chair Inv := by
  intro s t hI x1
  obtain ⟨h1, h2, h3, h4, d, σ, f, hw, hx, hm, hst, hdn, hse, hdx, hsm, hrest⟩ := id hI
  have hn := hw.1
  have ep : sx_guests_people s = nI (pdn d) := hx.2.2.2.1
  have em : sm_people t = nI (pdn d) := hm.1
  refine ⟨f_X10_chair x1 (sx_table_seating s) (sx_guests_people s), rfl, ?_, hI⟩
  unfold f_X10_chair f_X11_chair
  rw [em, ep, isP_eq x1 hn, qs_bd, qs_lt]
  rcases hp_cases x1 hn with ⟨p, hp, rfl⟩ | h
  · rw [hp_in hp hn]
    rw [qs_u1]
    rw [qs_f (by decide), qs_t (by decide)]
    rw [qs_g (qs_in (by omega) (by omega)), qs_cl (by omega), qs_lt, hse, on_pk (ST_lt8 hn hst) (by omega)]
    have := hsm p hp
    rw [Nat.zero_add] at this
    rw [this]
  · rw [hp_out hn h]
    rw [qs_u1]
    rw [qs_t rfl, qs_f (fun q => q rfl)]
