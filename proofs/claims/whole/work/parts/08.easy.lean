theorem qs_7 {p q : Nat} : (7 : Int32) * nI p + nI q = nI (7 * p + q) := by
  show nI 7 * nI p + nI q = _
  rw [pk_mul, nI_add]
theorem Sim_worth_ok : Sim_worth Inv := by
  intro s t hI x1 x2
  obtain ⟨h1, h2, h3, h4, d, σ, f, hw, hx, hm, hrest⟩ := id hI
  have hn := hw.1
  have ep : sx_guests_people s = nI (pdn d) := hx.2.2.2.1
  have em : sm_people t = nI (pdn d) := hm.1
  have hxw := hx.2.2.2.2.2.2.2.2.2
  have hmw := hm.2.2.2.2.2.2.2.2
  unfold f_X10_worth f_X11_worth
  rw [em, ep, isP_eq x1 hn, qs_bd, qs_u1, isP_eq x2 hn, qs_bd, qs_u1, qs_lt, hb_eq]
  rcases hp_cases x1 hn with ⟨p, hp, rfl⟩ | h
  · rw [hp_in hp hn, if_neg (by decide), qs_f (c := (1 : Int32) = 0) (by decide)]
    rcases hp_cases x2 hn with ⟨q, hq, rfl⟩ | h
    · rw [hp_in hq hn, if_neg (by decide), qs_f (c := (1 : Int32) = 0) (by decide), qs_t (c := ¬ (1 : Int32) = 0) (by decide), qs_lt, cell_nI (by omega) (by omega), qs_7, qs_g (qs_in (by omega) (by omega)), qs_g (qs_in (by omega) (by omega)), qs_cl (by omega), qs_cl (by omega), hxw p q (by omega) (by omega), hmw p q hp hq]
      exact ⟨_, rfl, rfl, hI⟩
    · rw [hp_out hn h, if_pos rfl, qs_f (fun q => q rfl), qs_t rfl]
      exact ⟨_, rfl, rfl, hI⟩
  · rw [hp_out hn h, if_pos rfl, qs_f (fun q => q rfl), qs_t rfl]
    exact ⟨_, rfl, rfl, hI⟩
theorem Sim_dined_ok : Sim_dined Inv := by
  intro s t hI x1 x2
  obtain ⟨h1, h2, h3, h4, d, σ, f, hw, hx, hm, hst, hdn, hse, hdx, hsm, hdm, hrest⟩ := id hI
  have hn := hw.1
  have ep : sx_guests_people s = nI (pdn d) := hx.2.2.2.1
  have em : sm_people t = nI (pdn d) := hm.1
  unfold f_X10_dined f_X11_dined
  rw [em, ep, isP_eq x1 hn, qs_bd, qs_u1, isP_eq x2 hn, qs_bd, qs_u1, qs_lt, hb_eq]
  rcases hp_cases x1 hn with ⟨p, hp, rfl⟩ | h
  · rw [hp_in hp hn, if_neg (by decide), qs_f (c := (1 : Int32) = 0) (by decide)]
    rcases hp_cases x2 hn with ⟨q, hq, rfl⟩ | h
    · have e1 : sm_dines_v t (7 * p + q) = nI (f p q) := by have := hdm p q hp hq; rw [Nat.zero_add] at this; exact this
      have e2 : sx_table_dined_v s (if p < q then 8 * p + q else 8 * q + p) = nI (f p q) := by
        by_cases hl : p < q
        · rw [if_pos hl, hdx p q (by omega) (by omega), if_pos hl]
        · rw [if_neg hl, hdx q p (by omega) (by omega)]
          by_cases hl2 : q < p
          · rw [if_pos hl2, hdn.1 q p]
          · rw [if_neg hl2, hdn.2.2 p q (by omega)]; rfl
      have e3 : (if p < q then 8 * p + q else 8 * q + p) < 64 := by split <;> omega
      rw [hp_in hq hn, if_neg (by decide), qs_f (c := (1 : Int32) = 0) (by decide), qs_t (c := ¬ (1 : Int32) = 0) (by decide), qs_lt, cell2_nI (by omega) (by omega), qs_7, qs_g (qs_in e3 (by omega)), qs_g (qs_in (by omega) (by omega)), qs_cl (by omega), qs_cl (by omega), e1, e2]
      exact ⟨_, rfl, rfl, hI⟩
    · rw [hp_out hn h, if_pos rfl, qs_f (fun q => q rfl), qs_t rfl]
      exact ⟨_, rfl, rfl, hI⟩
  · rw [hp_out hn h, if_pos rfl, qs_f (fun q => q rfl), qs_t rfl]
    exact ⟨_, rfl, rfl, hI⟩
theorem nar_b {x : Int32} (h : x = 0 ∨ x = 1) : vp_nar .boolean x = x := by rcases h with rfl | rfl <;> decide
theorem b2i_01 {x : Int32} (h : x = 0 ∨ x = 1) : ∃ b : Bool, x = b2i b := by
  rcases h with rfl | rfl
  · exact ⟨false, rfl⟩
  · exact ⟨true, rfl⟩
theorem gos_add {ones others besides : Nat → Int32} {size told : Int32} {one other beside : Nat → Int32} {k a e : Nat} {b : Bool} (hk : k < 8) (ha : a < 7) (he : e < 7) (hne : a ≠ e) (es : size = nI k) (et : told = nI k) (h : RGos ones others besides size told one other beside) : RGos (upd ones k (nI a)) (upd others k (nI e)) (upd besides k (b2i b)) (nI (k + 1)) (nI (k + 1)) (upd one k (nI a)) (upd other k (nI e)) (upd beside k (b2i b)) := by
  obtain ⟨k', h1, h2, h3, h4⟩ := h
  have ek : k' = k := (nI_eq (by omega) (by omega)).mp (h2.symm.trans es)
  subst ek
  refine ⟨k' + 1, by omega, rfl, rfl, fun j hj => ?_⟩
  by_cases hjk : j = k'
  · subst hjk
    exact ⟨a, e, b, ha, he, hne, pk_us, pk_us, pk_us, pk_us, pk_us, pk_us⟩
  · obtain ⟨a', e', b', g⟩ := h4 j (by omega)
    rw [pk_un hjk, pk_un hjk, pk_un hjk, pk_un hjk, pk_un hjk, pk_un hjk]
    exact ⟨a', e', b', g⟩
theorem Sim_gossip_ok : Sim_gossip Inv := by
  intro s t hI x1 x2 x3 h01
  obtain ⟨h1, h2, h3, h4, h5⟩ := id hI
  obtain ⟨d, σ, f, hw, hx, hm, hrest⟩ := id h5
  have hn := hw.1
  have ep : sx_guests_people s = nI (pdn d) := hx.2.2.2.1
  have em : sm_people t = nI (pdn d) := hm.1
  obtain ⟨k, hk, es, et, hg⟩ := id h3
  unfold f_X10_gossip f_X11_gossip f_X1_add
  rw [em, ep, isP_eq x1 hn, qs_bd, qs_u1, isP_eq x2 hn, qs_bd, qs_u1, qs_lt, hb_eq]
  rcases hp_cases x1 hn with ⟨p, hp, rfl⟩ | h
  · rw [hp_in hp hn, if_neg (by decide), qs_f (c := (1 : Int32) = 0) (by decide)]
    rcases hp_cases x2 hn with ⟨q, hq, rfl⟩ | h
    · rw [hp_in hq hn, if_neg (by decide), qs_t (c := ¬ (1 : Int32) = 0) (by decide), qs_t (c := ¬ (1 : Int32) = 0) (by decide)]
      by_cases hpq : p = q
      · subst hpq
        rw [qs_f (fun g => g rfl), qs_f (fun g => g rfl)]
        exact ⟨_, _, _, _, _, _, _, _, _, rfl, rfl, hI⟩
      · have hne : ¬ nI p = nI q := fun g => hpq ((nI_eq (by omega) (by omega)).mp g)
        rw [qs_t hne, qs_t hne]
        obtain ⟨b, eb⟩ := b2i_01 h01
        by_cases h8 : k = 8
        · subst h8
          rw [es, et, qs_f (c := nI 8 < 8) (by decide), qs_f (c := ¬ nI 8 = 8) (fun g => g rfl)]
          exact ⟨-4, nI 8, _, _, _, nI 8, _, _, _, rfl, rfl, h1, h2, by rw [es, et] at h3; exact h3, h4, h5⟩
        · have hk8 : k < 8 := by omega
          rw [es, et, qs_t (c := nI k < 8) (nI_lt (b := 8) hk8 (by omega)), qs_t (c := ¬ nI k = 8) (fun g => h8 ((nI_eq (b := 8) (by omega) (by omega)).mp g)), qs_f (c := nI k < 0) (nI_pos (by omega)), qs_f (c := (8 : Int32) ≤ nI k) (nI_ge (b := 8) hk8 (by omega)), qs_g (qs_in hk8 (by omega)), qs_g (qs_in hk8 (by omega))]
          simp only [qs_lt, qs_bd, qs_u4]
          rw [qs_g (qs_in hk8 (by omega)), qs_g (qs_in hk8 (by omega)), qs_g (qs_in hk8 (by omega)), qs_g (qs_in hk8 (by omega))]
          simp only [qs_lt, qs_bd, qs_u4, qs_cl (show k < 2147483648 by omega), nar_b h01, nI_1]
          refine ⟨_, _, _, _, _, _, _, _, _, rfl, rfl, h1, h2, ?_, h4, h5⟩
          rw [eb]
          exact gos_add hk8 (by omega) (by omega) hpq es et h3
    · rw [hp_out hn h, if_pos rfl, qs_f (fun q => q rfl), qs_f (fun q => q rfl)]
      exact ⟨_, _, _, _, _, _, _, _, _, rfl, rfl, hI⟩
  · rw [hp_out hn h, if_pos rfl, qs_f (fun q => q rfl), qs_t rfl]
    exact ⟨_, _, _, _, _, _, _, _, _, rfl, rfl, hI⟩
