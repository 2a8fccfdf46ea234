/-! ===== loops that copy (written by wip/whole/tools/copies.py) ===== -/
theorem qs_56 {z k : Nat} : (56 : Int32) * nI z + nI k = nI (56 * z + k) := by
  show nI 56 * nI z + nI k = _
  rw [pk_mul, nI_add]
theorem qs_567 {z k : Nat} : (56 : Int32) * nI z + 7 + nI k = nI (56 * z + 7 + k) := by
  show nI 56 * nI z + nI 7 + nI k = _
  rw [pk_mul, nI_add, nI_add]
theorem cp_X8_copy_10 {a : Nat → Int32} : ∀ (m k : Nat) (dst : Nat → Int32), k ≤ 64 → 64 - k < m → ∃ r, lf_X8_copy_10 a m (nI k) dst = some r ∧ (∀ j, k ≤ j → j < 64 → r j = a j) ∧ ∀ i, (i < k ∨ 64 ≤ i) → r i = dst i := by
  intro m
  induction m with
  | zero => intro k dst h1 h2; omega
  | succ m ih =>
    intro k dst h1 h2
    rw [lf_X8_copy_10]
    simp only [qs_lt]
    by_cases hk : 64 ≤ k
    · rw [qs_t (c := (64 : Int32) ≤ nI k) (nI_le (a := 64) hk (by omega))]
      exact ⟨dst, rfl, fun j a b => by omega, fun i _ => rfl⟩
    · have hk' : k < 64 := by omega
      rw [qs_f (c := (64 : Int32) ≤ nI k) (nI_ge (b := 64) hk' (by omega))]
      rw [qs_f (c := (64 : Int32) ≤ nI k) (nI_ge (b := 64) hk' (by omega))]
      simp (disch := omega) only [qs_56, qs_567, qs_cl, qg_in2, qs_lt, nI_1]
      obtain ⟨r, e, g1, g2⟩ := ih (k + 1) (upd dst k (a k)) (by omega) (by omega)
      refine ⟨r, e, fun j a b => ?_, fun i hi => ?_⟩
      · by_cases hj : j = k
        · subst hj; rw [g2 _ (by omega), pk_us]
        · exact g1 j (by omega) b
      · rw [g2 i (by omega), pk_un (by omega)]
theorem cp_X8_begin_10  : ∀ (m k : Nat) (dst : Nat → Int32), k ≤ 64 → 64 - k < m → ∃ r, lf_X8_begin_10  m (nI k) dst = some r ∧ (∀ j, k ≤ j → j < 64 → r j = 0) ∧ ∀ i, (i < k ∨ 64 ≤ i) → r i = dst i := by
  intro m
  induction m with
  | zero => intro k dst h1 h2; omega
  | succ m ih =>
    intro k dst h1 h2
    rw [lf_X8_begin_10]
    simp only [qs_lt]
    by_cases hk : 64 ≤ k
    · rw [qs_t (c := (64 : Int32) ≤ nI k) (nI_le (a := 64) hk (by omega))]
      exact ⟨dst, rfl, fun j a b => by omega, fun i _ => rfl⟩
    · have hk' : k < 64 := by omega
      rw [qs_f (c := (64 : Int32) ≤ nI k) (nI_ge (b := 64) hk' (by omega))]
      simp (disch := omega) only [qs_56, qs_567, qs_cl, qg_in2, qs_lt, nI_1]
      obtain ⟨r, e, g1, g2⟩ := ih (k + 1) (upd dst k (0)) (by omega) (by omega)
      refine ⟨r, e, fun j a b => ?_, fun i hi => ?_⟩
      · by_cases hj : j = k
        · subst hj; rw [g2 _ (by omega), pk_us]
        · exact g1 j (by omega) b
      · rw [g2 i (by omega), pk_un (by omega)]
theorem cp_X4_clear_47  : ∀ (m k : Nat) (dst : Nat → Int32), k ≤ 64 → 64 - k < m → ∃ r, lf_X4_clear_47  m (nI k) dst = some r ∧ (∀ j, k ≤ j → j < 64 → r j = 0) ∧ ∀ i, (i < k ∨ 64 ≤ i) → r i = dst i := by
  intro m
  induction m with
  | zero => intro k dst h1 h2; omega
  | succ m ih =>
    intro k dst h1 h2
    rw [lf_X4_clear_47]
    simp only [qs_lt]
    by_cases hk : 64 ≤ k
    · rw [qs_t (c := (64 : Int32) ≤ nI k) (nI_le (a := 64) hk (by omega))]
      exact ⟨dst, rfl, fun j a b => by omega, fun i _ => rfl⟩
    · have hk' : k < 64 := by omega
      rw [qs_f (c := (64 : Int32) ≤ nI k) (nI_ge (b := 64) hk' (by omega))]
      simp (disch := omega) only [qs_56, qs_567, qs_cl, qg_in2, qs_lt, nI_1]
      obtain ⟨r, e, g1, g2⟩ := ih (k + 1) (upd dst k (0)) (by omega) (by omega)
      refine ⟨r, e, fun j a b => ?_, fun i hi => ?_⟩
      · by_cases hj : j = k
        · subst hj; rw [g2 _ (by omega), pk_us]
        · exact g1 j (by omega) b
      · rw [g2 i (by omega), pk_un (by omega)]
theorem cp_X11_keepAct_2 {a : Nat → Int32} {z : Nat} (hz : z < 16) : ∀ (m k : Nat) (dst : Nat → Int32), k ≤ 7 → 7 - k < m → ∃ r, lf_X11_keepAct_2 (nI z) a m (nI k) dst = some r ∧ (∀ j, k ≤ j → j < 7 → r (56 * z + j) = a j) ∧ ∀ i, (i < 56 * z + k ∨ 56 * z + 7 ≤ i) → r i = dst i := by
  intro m
  induction m with
  | zero => intro k dst h1 h2; omega
  | succ m ih =>
    intro k dst h1 h2
    rw [lf_X11_keepAct_2]
    by_cases hk : 7 ≤ k
    · rw [qs_t (c := (7 : Int32) ≤ nI k) (nI_le (a := 7) hk (by omega))]
      exact ⟨dst, rfl, fun j a b => by omega, fun i _ => rfl⟩
    · have hk' : k < 7 := by omega
      rw [qs_f (c := (7 : Int32) ≤ nI k) (nI_ge (b := 7) hk' (by omega))]
      simp (disch := omega) only [qs_56, qs_567, qs_cl, qg_in2, qs_lt, nI_1]
      obtain ⟨r, e, g1, g2⟩ := ih (k + 1) (upd dst (56 * z + k) (a k)) (by omega) (by omega)
      refine ⟨r, e, fun j a b => ?_, fun i hi => ?_⟩
      · by_cases hj : j = k
        · subst hj; rw [g2 _ (by omega), pk_us]
        · exact g1 j (by omega) b
      · rw [g2 i (by omega), pk_un (by omega)]
theorem cp_X11_keepAct_36 {a : Nat → Int32} {z : Nat} (hz : z < 16) : ∀ (m k : Nat) (dst : Nat → Int32), k ≤ 49 → 49 - k < m → ∃ r, lf_X11_keepAct_36 (nI z) a m (nI k) dst = some r ∧ (∀ j, k ≤ j → j < 49 → r (56 * z + 7 + j) = a j) ∧ ∀ i, (i < 56 * z + 7 + k ∨ 56 * z + 7 + 49 ≤ i) → r i = dst i := by
  intro m
  induction m with
  | zero => intro k dst h1 h2; omega
  | succ m ih =>
    intro k dst h1 h2
    rw [lf_X11_keepAct_36]
    by_cases hk : 49 ≤ k
    · rw [qs_t (c := (49 : Int32) ≤ nI k) (nI_le (a := 49) hk (by omega))]
      exact ⟨dst, rfl, fun j a b => by omega, fun i _ => rfl⟩
    · have hk' : k < 49 := by omega
      rw [qs_f (c := (49 : Int32) ≤ nI k) (nI_ge (b := 49) hk' (by omega))]
      simp (disch := omega) only [qs_56, qs_567, qs_cl, qg_in2, qs_lt, nI_1]
      obtain ⟨r, e, g1, g2⟩ := ih (k + 1) (upd dst (56 * z + 7 + k) (a k)) (by omega) (by omega)
      refine ⟨r, e, fun j a b => ?_, fun i hi => ?_⟩
      · by_cases hj : j = k
        · subst hj; rw [g2 _ (by omega), pk_us]
        · exact g1 j (by omega) b
      · rw [g2 i (by omega), pk_un (by omega)]
theorem cp_X11_keep_21 {a : Nat → Int32} {z : Nat} (hz : z < 2) : ∀ (m k : Nat) (dst : Nat → Int32), k ≤ 7 → 7 - k < m → ∃ r, lf_X11_keep_21 (nI z) a m (nI k) dst = some r ∧ (∀ j, k ≤ j → j < 7 → r (56 * z + j) = a j) ∧ ∀ i, (i < 56 * z + k ∨ 56 * z + 7 ≤ i) → r i = dst i := by
  intro m
  induction m with
  | zero => intro k dst h1 h2; omega
  | succ m ih =>
    intro k dst h1 h2
    rw [lf_X11_keep_21]
    by_cases hk : 7 ≤ k
    · rw [qs_t (c := (7 : Int32) ≤ nI k) (nI_le (a := 7) hk (by omega))]
      exact ⟨dst, rfl, fun j a b => by omega, fun i _ => rfl⟩
    · have hk' : k < 7 := by omega
      rw [qs_f (c := (7 : Int32) ≤ nI k) (nI_ge (b := 7) hk' (by omega))]
      simp (disch := omega) only [qs_56, qs_567, qs_cl, qg_in2, qs_lt, nI_1]
      obtain ⟨r, e, g1, g2⟩ := ih (k + 1) (upd dst (56 * z + k) (a k)) (by omega) (by omega)
      refine ⟨r, e, fun j a b => ?_, fun i hi => ?_⟩
      · by_cases hj : j = k
        · subst hj; rw [g2 _ (by omega), pk_us]
        · exact g1 j (by omega) b
      · rw [g2 i (by omega), pk_un (by omega)]
theorem cp_X11_keep_52 {a : Nat → Int32} {z : Nat} (hz : z < 2) : ∀ (m k : Nat) (dst : Nat → Int32), k ≤ 49 → 49 - k < m → ∃ r, lf_X11_keep_52 (nI z) a m (nI k) dst = some r ∧ (∀ j, k ≤ j → j < 49 → r (56 * z + 7 + j) = a j) ∧ ∀ i, (i < 56 * z + 7 + k ∨ 56 * z + 7 + 49 ≤ i) → r i = dst i := by
  intro m
  induction m with
  | zero => intro k dst h1 h2; omega
  | succ m ih =>
    intro k dst h1 h2
    rw [lf_X11_keep_52]
    by_cases hk : 49 ≤ k
    · rw [qs_t (c := (49 : Int32) ≤ nI k) (nI_le (a := 49) hk (by omega))]
      exact ⟨dst, rfl, fun j a b => by omega, fun i _ => rfl⟩
    · have hk' : k < 49 := by omega
      rw [qs_f (c := (49 : Int32) ≤ nI k) (nI_ge (b := 49) hk' (by omega))]
      simp (disch := omega) only [qs_56, qs_567, qs_cl, qg_in2, qs_lt, nI_1]
      obtain ⟨r, e, g1, g2⟩ := ih (k + 1) (upd dst (56 * z + 7 + k) (a k)) (by omega) (by omega)
      refine ⟨r, e, fun j a b => ?_, fun i hi => ?_⟩
      · by_cases hj : j = k
        · subst hj; rw [g2 _ (by omega), pk_us]
        · exact g1 j (by omega) b
      · rw [g2 i (by omega), pk_un (by omega)]
theorem cp_X11_again_26 {a : Nat → Int32} {z : Nat} (hz : z < 2) : ∀ (m k : Nat) (dst : Nat → Int32), k ≤ 7 → 7 - k < m → ∃ r, lf_X11_again_26 (nI z) a m (nI k) dst = some r ∧ (∀ j, k ≤ j → j < 7 → r j = a (56 * z + j)) ∧ ∀ i, (i < k ∨ 7 ≤ i) → r i = dst i := by
  intro m
  induction m with
  | zero => intro k dst h1 h2; omega
  | succ m ih =>
    intro k dst h1 h2
    rw [lf_X11_again_26]
    by_cases hk : 7 ≤ k
    · rw [qs_t (c := (7 : Int32) ≤ nI k) (nI_le (a := 7) hk (by omega))]
      exact ⟨dst, rfl, fun j a b => by omega, fun i _ => rfl⟩
    · have hk' : k < 7 := by omega
      rw [qs_f (c := (7 : Int32) ≤ nI k) (nI_ge (b := 7) hk' (by omega))]
      simp (disch := omega) only [qs_56, qs_567, qs_cl, qg_in2, qs_lt, nI_1]
      obtain ⟨r, e, g1, g2⟩ := ih (k + 1) (upd dst k (a (56 * z + k))) (by omega) (by omega)
      refine ⟨r, e, fun j a b => ?_, fun i hi => ?_⟩
      · by_cases hj : j = k
        · subst hj; rw [g2 _ (by omega), pk_us]
        · exact g1 j (by omega) b
      · rw [g2 i (by omega), pk_un (by omega)]
theorem cp_X11_again_57 {a : Nat → Int32} {z : Nat} (hz : z < 2) : ∀ (m k : Nat) (dst : Nat → Int32), k ≤ 49 → 49 - k < m → ∃ r, lf_X11_again_57 (nI z) a m (nI k) dst = some r ∧ (∀ j, k ≤ j → j < 49 → r j = a (56 * z + 7 + j)) ∧ ∀ i, (i < k ∨ 49 ≤ i) → r i = dst i := by
  intro m
  induction m with
  | zero => intro k dst h1 h2; omega
  | succ m ih =>
    intro k dst h1 h2
    rw [lf_X11_again_57]
    by_cases hk : 49 ≤ k
    · rw [qs_t (c := (49 : Int32) ≤ nI k) (nI_le (a := 49) hk (by omega))]
      exact ⟨dst, rfl, fun j a b => by omega, fun i _ => rfl⟩
    · have hk' : k < 49 := by omega
      rw [qs_f (c := (49 : Int32) ≤ nI k) (nI_ge (b := 49) hk' (by omega))]
      simp (disch := omega) only [qs_56, qs_567, qs_cl, qg_in2, qs_lt, nI_1]
      obtain ⟨r, e, g1, g2⟩ := ih (k + 1) (upd dst k (a (56 * z + 7 + k))) (by omega) (by omega)
      refine ⟨r, e, fun j a b => ?_, fun i hi => ?_⟩
      · by_cases hj : j = k
        · subst hj; rw [g2 _ (by omega), pk_us]
        · exact g1 j (by omega) b
      · rw [g2 i (by omega), pk_un (by omega)]
theorem cp_X11_undo_36 {a : Nat → Int32} {z : Nat} (hz : z < 16) : ∀ (m k : Nat) (dst : Nat → Int32), k ≤ 7 → 7 - k < m → ∃ r, lf_X11_undo_36 (nI z) a m (nI k) dst = some r ∧ (∀ j, k ≤ j → j < 7 → r j = a (56 * z + j)) ∧ ∀ i, (i < k ∨ 7 ≤ i) → r i = dst i := by
  intro m
  induction m with
  | zero => intro k dst h1 h2; omega
  | succ m ih =>
    intro k dst h1 h2
    rw [lf_X11_undo_36]
    by_cases hk : 7 ≤ k
    · rw [qs_t (c := (7 : Int32) ≤ nI k) (nI_le (a := 7) hk (by omega))]
      exact ⟨dst, rfl, fun j a b => by omega, fun i _ => rfl⟩
    · have hk' : k < 7 := by omega
      rw [qs_f (c := (7 : Int32) ≤ nI k) (nI_ge (b := 7) hk' (by omega))]
      simp (disch := omega) only [qs_56, qs_567, qs_cl, qg_in2, qs_lt, nI_1]
      obtain ⟨r, e, g1, g2⟩ := ih (k + 1) (upd dst k (a (56 * z + k))) (by omega) (by omega)
      refine ⟨r, e, fun j a b => ?_, fun i hi => ?_⟩
      · by_cases hj : j = k
        · subst hj; rw [g2 _ (by omega), pk_us]
        · exact g1 j (by omega) b
      · rw [g2 i (by omega), pk_un (by omega)]
theorem cp_X11_undo_70 {a : Nat → Int32} {z : Nat} (hz : z < 16) : ∀ (m k : Nat) (dst : Nat → Int32), k ≤ 49 → 49 - k < m → ∃ r, lf_X11_undo_70 (nI z) a m (nI k) dst = some r ∧ (∀ j, k ≤ j → j < 49 → r j = a (56 * z + 7 + j)) ∧ ∀ i, (i < k ∨ 49 ≤ i) → r i = dst i := by
  intro m
  induction m with
  | zero => intro k dst h1 h2; omega
  | succ m ih =>
    intro k dst h1 h2
    rw [lf_X11_undo_70]
    by_cases hk : 49 ≤ k
    · rw [qs_t (c := (49 : Int32) ≤ nI k) (nI_le (a := 49) hk (by omega))]
      exact ⟨dst, rfl, fun j a b => by omega, fun i _ => rfl⟩
    · have hk' : k < 49 := by omega
      rw [qs_f (c := (49 : Int32) ≤ nI k) (nI_ge (b := 49) hk' (by omega))]
      simp (disch := omega) only [qs_56, qs_567, qs_cl, qg_in2, qs_lt, nI_1]
      obtain ⟨r, e, g1, g2⟩ := ih (k + 1) (upd dst k (a (56 * z + 7 + k))) (by omega) (by omega)
      refine ⟨r, e, fun j a b => ?_, fun i hi => ?_⟩
      · by_cases hj : j = k
        · subst hj; rw [g2 _ (by omega), pk_us]
        · exact g1 j (by omega) b
      · rw [g2 i (by omega), pk_un (by omega)]
