/-! ===== undo ===== -/
theorem Sim_undo_ok : Sim_undo Inv := by
  intro s t hI
  obtain ⟨h1, h2, h3, h4, d, σ, f, hw, hx, hm, hst, hdn, hse, hdx, hsm, hdm, hac, hs0, hs1, hla⟩ := id hI
  have hn := hw.1
  obtain ⟨k, x, σs, ds, fl, hk, hx16, e1, e2, e3, eσ, ed, hA, hB⟩ := id hac
  have er : sx_guests_round s = b2i (pdr d) := hx.1
  have ep : sx_guests_people s = nI (pdn d) := hx.2.2.2.1
  unfold f_X10_undo f_X11_undo
  rw [e1, e2, e3]
  by_cases hk0 : k = 0
  · subst hk0
    rw [qs_f (c := (1 : Int32) ≤ nI 0) (by decide), qs_f (c := ¬ nI 0 = 0) (fun g => g rfl)]
    refine ⟨-3, _, _, _, _, _, _, _, rfl, rfl, ?_⟩
    refine ⟨h1, h2, h3, h4, d, σ, f, hw, hx, hm, hst, hdn, hse, hdx, hsm, hdm, ?_, hs0, hs1, hla⟩
    rw [e1, e2, e3] at hac; exact hac
  · obtain ⟨j, rfl⟩ : ∃ j, k = j + 1 := ⟨k - 1, by omega⟩
    obtain ⟨g1, g2, g3, g4, g5, g6⟩ := hA j (by omega)
    obtain ⟨b1, b2⟩ := hB j (by omega)
    have ej : nI (j + 1) - 1 = nI j := nI_pred j
    have ix : (x + 16 - (j + 1) + j) % 16 = (x + 15) % 16 := by omega
    rw [ix] at g5 g6
    have hx15 : (x + 15) % 16 < 16 := by omega
    have e15 : nI x + 15 = nI (x + 15) := by show nI x + nI 15 = _; rw [nI_add]
    obtain ⟨r1, er1, a1, a2⟩ := cp_X11_undo_36 (a := sm_row_v t) hx15 pw_FU 0 (sm_seat_v t) (by omega) (by unfold pw_FU; omega)
    obtain ⟨r2, er2, c1, c2⟩ := cp_X11_undo_70 (a := sm_row_v t) hx15 pw_FU 0 (sm_dines_v t) (by omega) (by unfold pw_FU; omega)
    have er1' : lf_X11_undo_36 (nI ((x + 15) % 16)) (sm_row_v t) pw_FU 0 (sm_seat_v t) = some r1 := er1
    have er2' : lf_X11_undo_70 (nI ((x + 15) % 16)) (sm_row_v t) pw_FU 0 (sm_dines_v t) = some r2 := er2
    have hsm2 : SMs d (σs j) r1 0 := fun c hc => by rw [Nat.zero_add, a1 c (by omega) (by omega)]; exact g5 c hc
    have hdm2 : DMs d (ds j) r2 0 := fun p q hp hq => by
      have hlt : 7 * p + q < 49 := by omega
      rw [Nat.zero_add, c1 _ (by omega) hlt]; exact g6 p q hp hq
    have hac2 : RActs d (σs j) (ds j) (nI j) (sx_acts_before_v s) (sx_acts_dinners_v s) (nI j) (nI ((x + 15) % 16)) (sm_row_v t) := by
      refine ⟨j, (x + 15) % 16, σs, ds, fl, by omega, hx15, rfl, rfl, rfl, rfl, rfl, fun i hi => ?_, fun i hi => hB i (by omega)⟩
      have ii : ((x + 15) % 16 + 16 - j + i) % 16 = (x + 16 - (j + 1) + i) % 16 := by omega
      rw [ii]; exact hA i (by omega)
    have esb : f_X0_seatingBefore (nI j) (sx_acts_before_v s) = some (nI (pk (σs j))) := by
      unfold f_X0_seatingBefore
      rw [qs_f (nI_pos (by omega)), qs_f (c := (16 : Int32) ≤ nI j) (nI_ge (b := 16) (by omega) (by omega))]
      simp (disch := omega) only [qs_cl, qg_in2, g3]
    have ewd : f_X0_wasDinner (nI j) (sx_acts_dinners_v s) = some (b2i (fl j)) := by
      unfold f_X0_wasDinner
      rw [qs_f (nI_pos (by omega)), qs_f (c := (16 : Int32) ≤ nI j) (nI_ge (b := 16) (by omega) (by omega))]
      simp (disch := omega) only [qs_cl, qg_in2, g4]
      rw [b2i_cd]
      cases fl j <;> rfl
    rw [qs_t (c := (1 : Int32) ≤ nI (j + 1)) (nI_le (a := 1) (by omega) (by omega)), qs_t (c := ¬ nI (j + 1) = 0) (nI_ne0 (by omega) (by omega))]
    simp only [qs_lt, ej, e15, rem16 (show x + 15 < 1000 by omega), esb, ewd, qs_bd, qs_u1, er1', er2', qs_jn, er, ep]
    cases hfl : fl j
    · rw [qs_t (c := b2i false = 0) rfl]
      have ef : f = ds j := by rw [← ed]; exact b1 hfl
      refine ⟨_, _, _, _, _, _, _, _, rfl, rfl, h1, h2, h3, h4, d, σs j, ds j, hw, hx, hm, g1, g2, rfl, ?_, hsm2, hdm2, hac2, hs0, hs1, hla⟩
      rw [ef] at hdx; exact hdx
    · rw [qs_f (c := b2i true = 0) (by decide)]
      obtain ⟨b3, b4⟩ := b2 hfl
      have ef : f = dnp d (σs j) (ds j) := by
        rw [← ed]; funext p q; exact b4 p q
      rw [ef] at hdx
      obtain ⟨r, e5, hr⟩ := undineX hn g1 g2.1 hdx
      rw [e5, qs_bd, qs_u1]
      exact ⟨_, _, _, _, _, _, _, _, rfl, rfl, h1, h2, h3, h4, d, σs j, ds j, hw, hx, hm, g1, g2, rfl, hr, hsm2, hdm2, hac2, hs0, hs1, hla⟩
/-! ===== sums over neighbours ===== -/
def sm (f : Nat → Nat) : Nat → Nat
  | 0 => 0
  | n + 1 => sm f n + f n
theorem sm_cong {f g : Nat → Nat} : ∀ {n : Nat}, (∀ k, k < n → f k = g k) → sm f n = sm g n := by
  intro n
  induction n with
  | zero => intro _; rfl
  | succ n ih => intro h; rw [sm, sm, ih (fun k hk => h k (by omega)), h n (by omega)]
/-- each two neighbours once: by chairs, and by pairs -/
theorem nb_sum {d : PD} (hn : pdn d ≤ 7) {g : Nat → Nat → Nat} (hs : ∀ a b, g a b = g b a) : sm (fun c => sm (fun e => if nx d c e = true then g c e else 0) c) (pdn d) = sm (fun j => g j (bhd d j)) (npr d) := by
  obtain ⟨n, rd, rest⟩ := d
  have hn' : n ≤ 7 := hn
  have q1 := hs 1 0; have q2 := hs 2 1; have q3 := hs 3 2; have q4 := hs 4 3; have q5 := hs 5 4; have q6 := hs 6 5
  have w2 := hs 2 0; have w3 := hs 3 0; have w4 := hs 4 0; have w5 := hs 5 0; have w6 := hs 6 0
  rcases (show n = 0 ∨ n = 1 ∨ n = 2 ∨ n = 3 ∨ n = 4 ∨ n = 5 ∨ n = 6 ∨ n = 7 by omega) with rfl | rfl | rfl | rfl | rfl | rfl | rfl | rfl <;> cases rd <;> simp [sm, nx, npr, bhd, pdn, pdr] <;> omega
theorem nb_sum2 {d : PD} (hn : pdn d ≤ 7) {g : Nat → Nat → Nat} : sm (fun c => sm (fun e => if nx d c e = true then g c e else 0) (pdn d)) (pdn d) = sm (fun j => g j (bhd d j) + g (bhd d j) j) (npr d) := by
  obtain ⟨n, rd, rest⟩ := d
  have hn' : n ≤ 7 := hn
  rcases (show n = 0 ∨ n = 1 ∨ n = 2 ∨ n = 3 ∨ n = 4 ∨ n = 5 ∨ n = 6 ∨ n = 7 by omega) with rfl | rfl | rfl | rfl | rfl | rfl | rfl | rfl <;> cases rd <;> simp [sm, nx, npr, bhd, pdn, pdr] <;> omega
