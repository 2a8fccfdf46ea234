/-! ===== signs are written ===== -/
theorem l_sl : ∀ n, n < 64 → ((Int32.toInt64 (nI n) &&& 63).toBitVec.smod 64).toNat = n := by decide +kernel
theorem l_sshr (n : Nat) (hn : n < 64) (x : Int64) {i : Nat} (hi : n + i < 64) : bl (x >>> (Int32.toInt64 (nI n) &&& 63)) i = bl x (n + i) := by
  show (x >>> (Int32.toInt64 (nI n) &&& 63)).toBitVec.getLsbD i = x.toBitVec.getLsbD (n + i)
  rw [Int64.toBitVec_shiftRight]
  show (x.toBitVec.sshiftRight ((Int32.toInt64 (nI n) &&& 63).toBitVec.smod 64).toNat).getLsbD i = _
  rw [l_sl n hn, BitVec.getLsbD_sshiftRight]
  have h1 : ¬ 64 ≤ i := by omega
  simp [h1, hi]
theorem l_255 : ∀ i, i < 64 → bl 255 i = decide (i < 8) := by decide +kernel
theorem sign_eq (x : Int64) {a : Nat} (ha : a < 8) : ∃ v, v < 256 ∧ ((Int64.toInt32 ((Int64.toUInt64 x >>> (Int64.toUInt64 (Int32.toInt64 (8 * nI a)) &&& Int64.toUInt64 63)).toInt64)) &&& 255) = nI v ∧ Int64.toInt32 ((x >>> (Int32.toInt64 (8 * nI a) &&& 63)) &&& 255) = nI v := by
  have e8 : (8 : Int32) * nI a = nI (8 * a) := by show nI 8 * nI a = _; rw [pk_mul]
  rw [e8]
  have e : ((Int64.toInt32 ((Int64.toUInt64 x >>> (Int64.toUInt64 (Int32.toInt64 (nI (8 * a))) &&& Int64.toUInt64 63)).toInt64)) &&& 255) = Int64.toInt32 ((x >>> (Int32.toInt64 (nI (8 * a)) &&& 63)) &&& 255) := b_ext (fun i hi => by
    rw [b_and, b_255, l_toI _ hi, l_toI _ hi, l_ushr _ (by omega), l_and, l_255 i (by omega)]
    by_cases h8 : i < 8
    · rw [l_sshr _ (by omega) _ (by omega)]
    · simp [h8])
  rw [← e]
  generalize Int64.toInt32 ((Int64.toUInt64 x >>> (Int64.toUInt64 (Int32.toInt64 (nI (8 * a))) &&& Int64.toUInt64 63)).toInt64) = y
  have e2 : y &&& 255 = nI (y.toBitVec.toNat % 256) := by
    have h : nI y.toBitVec.toNat &&& 255 = nI (y.toBitVec.toNat % 256) := pk_andN y.toBitVec.isLt 8 (by decide)
    rw [← nI_bv y] at h
    exact h
  exact ⟨_, Nat.mod_lt _ (by omega), e2, e2⟩
theorem nI_dn (a : Nat) : nI (a + 1) - 1 + (-1) = nI a - 1 := by
  rw [nI_pred, ← Int32.sub_eq_add_neg]
theorem write_loop (x : Int64) : ∀ (m j k : Nat) (sg tx : Nat → Int32), j ≤ 8 → k + j ≤ 64 → j < m → (∀ i, i < k → ∃ v, v < 256 ∧ sg i = nI v ∧ tx i = nI v) → ∃ sg' tx', lf_X9_add_5 x m (nI j - 1) (nI k) sg = some (nI (k + j), sg') ∧ lf_X11_write_34 x m (nI j - 1) (nI k) tx = some (nI (k + j), tx') ∧ ∀ i, i < k + j → ∃ v, v < 256 ∧ sg' i = nI v ∧ tx' i = nI v := by
  intro m
  induction m with
  | zero => intro j k sg tx h1 h2 h3; omega
  | succ m ih =>
    intro j k sg tx h1 h2 h3 h
    rw [lf_X9_add_5, lf_X11_write_34]
    cases j with
    | zero =>
      have : nI 0 - 1 < 0 := by decide
      rw [qs_t this, qs_t this]
      exact ⟨_, _, rfl, rfl, h⟩
    | succ j =>
      obtain ⟨v, hv, ev, ew⟩ := sign_eq x (a := j) (by omega)
      rw [nI_dn, nI_pred, qs_f (nI_pos (by omega)), qs_f (nI_pos (by omega)), qs_lt, qs_f (c := (64 : Int32) ≤ nI k) (nI_ge (b := 64) (by omega) (by omega)), ev, ew]
      simp (disch := omega) only [qs_cl, qg_in2, qs_lt, nI_1]
      obtain ⟨sg', tx', e1, e2, e3⟩ := ih j (k + 1) (upd sg k (nI v)) (upd tx k (nI v)) (by omega) (by omega) (by omega) (fun i hi => by
        unfold upd
        by_cases hk : i = k
        · rw [if_pos hk, if_pos hk]; exact ⟨v, hv, rfl, rfl⟩
        · rw [if_neg hk, if_neg hk]; exact h i (by omega))
      have ek : k + 1 + j = k + (j + 1) := by omega
      rw [ek] at e1 e2 e3
      exact ⟨sg', tx', e1, e2, e3⟩
theorem Sim_write_ok : Sim_write Inv := by
  intro s t hI x1 x2
  obtain ⟨h1, h2, h3, h4, h5⟩ := id hI
  obtain ⟨k, k1, k2, k3, k4⟩ := id h2
  unfold f_X10_write f_X11_write
  have ein : f_X11_in (Int32.toInt64 x1) 1 8 = if (1 : Int32) ≤ x1 ∧ x1 ≤ 8 then 1 else 0 := in_ii x1 1 8
  rw [ein, qs_lt, k2, k3]
  by_cases ha : x1 < 1
  · have : ¬ ((1 : Int32) ≤ x1 ∧ x1 ≤ 8) := fun g => (fa_of_lt ha).2.1 g.1
    rw [qs_t ha, if_neg this, qs_f (c := ¬ (0 : Int32) = 0) (fun g => g rfl)]
    exact ⟨-2, _, _, _, _, rfl, rfl, h1, ⟨k, k1, rfl, rfl, k4⟩, h3, h4, h5⟩
  · rw [qs_f ha]
    by_cases hb : x1 ≤ 8
    · have : (1 : Int32) ≤ x1 ∧ x1 ≤ 8 := ⟨fa_of_nlt ha, hb⟩
      rw [qs_t hb, if_pos this, qs_t (c := ¬ (1 : Int32) = 0) (by decide)]
      obtain ⟨j, hj, rfl⟩ := nI_of2 (M := 8) (n := 8) (by decide) (fun g => ha (fa_trans g (by decide))) hb
      rw [nI_add]
      by_cases hc : k + j ≤ 64
      · rw [qs_t (c := nI (k + j) ≤ 64) (nI_le (b := 64) hc (by omega)), qs_t (c := nI (k + j) ≤ 64) (nI_le (b := 64) hc (by omega))]
        obtain ⟨sg', tx', e1, e2, e3⟩ := write_loop x2 pw_FU j k (sx_text_signs_v s) (sm_text_v t) hj hc (by unfold pw_FU; omega) k4
        unfold f_X9_add
        rw [qs_lt, qs_lt, e1, e2, qs_bd, qs_u2, qs_bd, qs_u2, qs_bd, qs_u2]
        exact ⟨_, _, _, _, _, rfl, rfl, h1, ⟨k + j, hc, rfl, rfl, e3⟩, h3, h4, h5⟩
      · rw [qs_f (c := nI (k + j) ≤ 64) (nI_ge (a := 64) (by omega) (by omega)), qs_f (c := nI (k + j) ≤ 64) (nI_ge (a := 64) (by omega) (by omega))]
        exact ⟨-4, _, _, _, _, rfl, rfl, h1, ⟨k, k1, rfl, rfl, k4⟩, h3, h4, h5⟩
    · have : ¬ ((1 : Int32) ≤ x1 ∧ x1 ≤ 8) := fun g => hb g.2
      rw [qs_f hb, if_neg this, qs_f (c := ¬ (0 : Int32) = 0) (fun g => g rfl)]
      exact ⟨-2, _, _, _, _, rfl, rfl, h1, ⟨k, k1, rfl, rfl, k4⟩, h3, h4, h5⟩
