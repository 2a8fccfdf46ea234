/-! ===== slots ===== -/
theorem isSlot_0 : f_X10_isSlot 0 = 1 := by decide
theorem isSlot_1 : f_X10_isSlot 1 = 1 := by decide
theorem isSlot_n {x : Int32} (h0 : x ≠ 0) (h1 : x ≠ 1) : f_X10_isSlot x = 0 := by
  unfold f_X10_isSlot
  rw [qs_f h0, qs_t h1]
theorem inSlot (x : Int32) : f_X11_in (Int32.toInt64 x) 0 1 = f_X10_isSlot x := by
  have e0 : f_X11_in (Int32.toInt64 x) 0 1 = f_X11_in (Int32.toInt64 x) (Int32.toInt64 0) (Int32.toInt64 1) := rfl
  rw [e0, in_ii]
  by_cases h0 : x = 0
  · rw [h0]; decide
  · by_cases h1 : x = 1
    · rw [h1]; decide
    · rw [isSlot_n h0 h1, if_neg]
      intro ⟨g1, g2⟩
      rw [fa_le] at g1 g2
      rw [fa_eq] at h0 h1
      have a1 : (0 : Int32).toInt = 0 := by decide
      have a2 : (1 : Int32).toInt = 1 := by decide
      omega
theorem copyX {a b : Nat → Int32} {s : Int32} {f : Nat → Nat → Nat} (h : DX f a) : ∃ r, f_X8_copy b s a = some (s, r) ∧ DX f r := by
  obtain ⟨r, e, g1, g2⟩ := cp_X8_copy_10 (a := a) pw_FU 0 b (by omega) (by unfold pw_FU; omega)
  have e' : lf_X8_copy_10 a pw_FU 0 b = some r := e
  unfold f_X8_copy
  rw [e', qs_bd, qs_u1]
  exact ⟨r, rfl, fun p q hp hq => by rw [g1 _ (by omega) (by omega)]; exact h p q hp hq⟩
theorem lawM1 {d : PD} (hw : PWf d) {σ : Nat → Nat} (hst : ST d σ) {pe ro tu ap : Int32} {woman mate quarrel joined worths row : Nat → Int32} (hm : PM d pe ro tu ap woman mate quarrel joined worths) (hrow : RowM d σ row) : ∃ r, f_X11_isLawful pe ro tu ap woman mate quarrel joined row = some r ∧ IsB r (lawS d σ) := by
  obtain ⟨m1, m2, m3, m4, m5, m6, m7, m8, m9⟩ := hm
  rw [m1, m2]
  exact lawM hw hst m3 m4 m5 m6 m7 m8 hrow
theorem lawX1 {d : PD} (hw : PWf d) {σ : Nat → Nat} (hst : ST d σ) {ro tu ap pe wo : Int32} {co qu to ba : Int64} {worths : Nat → Int32} (hx : PX d ro tu ap pe wo co qu to ba worths) : ∃ r, f_X10_lawfulNow (nI (pk σ)) ro pe to ba = some r ∧ IsB r (lawS d σ) := by
  obtain ⟨x1, x2, x3, x4, x5, x6, x7, x8, x9, x10⟩ := hx
  rw [x1, x4]
  exact lawNow hw hst x8 x9
/-- what keep does in the model -/
theorem keepM {d : PD} {σ : Nat → Nat} {f : Nat → Nat → Nat} {seat dines kept : Nat → Int32} {z : Nat} (hz : z < 2) (hn : pdn d ≤ 7) (h1 : SMs d σ seat 0) (h2 : DMs d f dines 0) : ∃ r1 r2, lf_X11_keep_21 (nI z) seat pw_FU 0 kept = some r1 ∧ lf_X11_keep_52 (nI z) dines pw_FU 0 r1 = some r2 ∧ SMs d σ r2 (56 * z) ∧ DMs d f r2 (56 * z + 7) ∧ ∀ i, (i < 56 * z ∨ 56 * z + 56 ≤ i) → r2 i = kept i := by
  obtain ⟨r1, e1, a1, a2⟩ := cp_X11_keep_21 (a := seat) hz pw_FU 0 kept (by omega) (by unfold pw_FU; omega)
  obtain ⟨r2, e2, b1, b2⟩ := cp_X11_keep_52 (a := dines) hz pw_FU 0 r1 (by omega) (by unfold pw_FU; omega)
  refine ⟨r1, r2, e1, e2, fun c hc => ?_, fun p q hp hq => ?_, fun i hi => ?_⟩
  · rw [b2 _ (by omega), a1 c (by omega) (by omega)]
    have := h1 c hc
    rw [Nat.zero_add] at this; exact this
  · have hlt : 7 * p + q < 49 := by omega
    rw [b1 _ (by omega) hlt]
    have := h2 p q hp hq
    rw [Nat.zero_add] at this; exact this
  · rw [b2 _ (by omega), a2 _ (by omega)]
theorem slot_other {d : PD} (hn : pdn d ≤ 7) {z y : Nat} {dined : Nat → Int32} {seating kept : Int32} {isKept keptA isKept' keptA' : Nat → Int32} (h : RSlot d y dined seating kept isKept keptA) (h1 : isKept' y = isKept y) (h2 : ∀ i, (i < 56 * z ∨ 56 * z + 56 ≤ i) → keptA' i = keptA i) (hzy : z ≠ y) : RSlot d y dined seating kept isKept' keptA' := by
  rcases h with ⟨g1, g2⟩ | ⟨g1, g2, τ, g, g3, g4, g5, g6, g7, g8⟩
  · exact Or.inl ⟨g1, h1.trans g2⟩
  · refine Or.inr ⟨g1, h1.trans g2, τ, g, g3, g4, g5, g6, fun c hc => ?_, fun p q hp hq => ?_⟩
    · rw [h2 _ (by omega)]; exact g7 c hc
    · rw [h2 _ (by omega)]; exact g8 p q hp hq
theorem Sim_keep_ok : Sim_keep Inv := by
  intro s t hI x1
  obtain ⟨h1, h2, h3, h4, d, σ, f, hw, hx, hm, hst, hdn, hse, hdx, hsm, hdm, hac, hs0, hs1, hla⟩ := id hI
  have hn := hw.1
  obtain ⟨r, er, hr⟩ := lawX1 hw hst hx
  obtain ⟨r', er', hr'⟩ := lawM1 hw hst hm (SMs_row hsm)
  have e := IsB_eq hr' hr
  subst e
  have e01 : pw_cd (r' = 0) (0 : Int32) 1 = r' := by
    rcases hr with ⟨rfl, _⟩ | ⟨rfl, _⟩
    · decide
    · decide
  unfold f_X10_keep f_X11_keep
  rw [qs_lt, qs_lt, inSlot]
  by_cases c0 : x1 = 0
  · subst c0
    obtain ⟨rd, ed, hd⟩ := copyX (b := sx_slot0_dined_v s) (s := sx_table_seating s) hdx
    obtain ⟨k1, k2, ek1, ek2, ks, kd, ko⟩ := keepM (kept := sm_kept_v t) (z := 0) (by omega) hn hsm hdm
    have ek1' : lf_X11_keep_21 0 (sm_seat_v t) pw_FU 0 (sm_kept_v t) = some k1 := ek1
    have ek2' : lf_X11_keep_52 0 (sm_dines_v t) pw_FU 0 k1 = some k2 := ek2
    rw [isSlot_0, qs_t (c := ¬ (1 : Int32) = 0) (by decide), qs_t (c := ¬ (1 : Int32) = 0) (by decide), qs_t (c := (0 : Int32) = 0) rfl, ed, qs_bd, qs_u2, hse, er, qs_bd, qs_u1, qs_g (by decide), qs_lt, ek1', qs_bd, qs_u1, ek2', qs_bd, qs_u1, er', qs_bd, qs_u1]
    refine ⟨r', nI (pk σ), 1, rd, _, _, _, upd (sm_isKept_v t) 0 1, k2, rfl, ?_, h1, h2, h3, h4, d, σ, f, hw, hx, hm, hst, hdn, hse, hdx, hsm, hdm, hac, Or.inr ⟨rfl, pk_us (f := sm_isKept_v t) (k := 0) (x := 1), σ, f, hst, hdn, rfl, hd, ks, kd⟩, ?_, hla⟩
    · rcases hr with ⟨rfl, _⟩ | ⟨rfl, _⟩
      · rw [qs_f (c := (1 : Int32) = 0) (by decide)]; rfl
      · rw [qs_t (c := (0 : Int32) = 0) rfl]; rfl
    · exact slot_other hn (z := 0) hs1 (pk_un (f := sm_isKept_v t) (k := 0) (j := 1) (x := 1) (by omega)) ko (by omega)
  · by_cases c1 : x1 = 1
    · subst c1
      obtain ⟨rd, ed, hd⟩ := copyX (b := sx_slot1_dined_v s) (s := sx_table_seating s) hdx
      obtain ⟨k1, k2, ek1, ek2, ks, kd, ko⟩ := keepM (kept := sm_kept_v t) (z := 1) (by omega) hn hsm hdm
      have ek1' : lf_X11_keep_21 1 (sm_seat_v t) pw_FU 0 (sm_kept_v t) = some k1 := ek1
      have ek2' : lf_X11_keep_52 1 (sm_dines_v t) pw_FU 0 k1 = some k2 := ek2
      rw [isSlot_1, qs_t (c := ¬ (1 : Int32) = 0) (by decide), qs_t (c := ¬ (1 : Int32) = 0) (by decide), qs_f (c := (1 : Int32) = 0) (by decide), ed, qs_bd, qs_u2, hse, er, qs_bd, qs_u1, qs_g (by decide), qs_lt, ek1', qs_bd, qs_u1, ek2', qs_bd, qs_u1, er', qs_bd, qs_u1]
      refine ⟨r', _, _, _, nI (pk σ), 1, rd, upd (sm_isKept_v t) 1 1, k2, rfl, ?_, h1, h2, h3, h4, d, σ, f, hw, hx, hm, hst, hdn, hse, hdx, hsm, hdm, hac, ?_, Or.inr ⟨rfl, pk_us (f := sm_isKept_v t) (k := 1) (x := 1), σ, f, hst, hdn, rfl, hd, ks, kd⟩, hla⟩
      · rcases hr with ⟨rfl, _⟩ | ⟨rfl, _⟩
        · rw [qs_f (c := (1 : Int32) = 0) (by decide)]; rfl
        · rw [qs_t (c := (0 : Int32) = 0) rfl]; rfl
      · exact slot_other hn (z := 1) hs0 (pk_un (f := sm_isKept_v t) (k := 1) (j := 0) (x := 1) (by omega)) ko (by omega)
    · rw [isSlot_n c0 c1, qs_f (fun g => g rfl), qs_f (fun g => g rfl)]
      exact ⟨_, _, _, _, _, _, _, _, _, rfl, rfl, hI⟩
/-- what again does in the model -/
theorem againM {d : PD} {σ : Nat → Nat} {f : Nat → Nat → Nat} {seat dines kept : Nat → Int32} {z : Nat} (hz : z < 2) (hn : pdn d ≤ 7) (h1 : SMs d σ kept (56 * z)) (h2 : DMs d f kept (56 * z + 7)) : ∃ r1 r2, lf_X11_again_26 (nI z) kept pw_FU 0 seat = some r1 ∧ lf_X11_again_57 (nI z) kept pw_FU 0 dines = some r2 ∧ SMs d σ r1 0 ∧ DMs d f r2 0 := by
  obtain ⟨r1, e1, a1, a2⟩ := cp_X11_again_26 (a := kept) hz pw_FU 0 seat (by omega) (by unfold pw_FU; omega)
  obtain ⟨r2, e2, b1, b2⟩ := cp_X11_again_57 (a := kept) hz pw_FU 0 dines (by omega) (by unfold pw_FU; omega)
  refine ⟨r1, r2, e1, e2, fun c hc => ?_, fun p q hp hq => ?_⟩
  · rw [Nat.zero_add, a1 c (by omega) (by omega)]; exact h1 c hc
  · have hlt : 7 * p + q < 49 := by omega
    rw [Nat.zero_add, b1 _ (by omega) hlt]; exact h2 p q hp hq
theorem acts_none {d : PD} {σ : Nat → Nat} {f : Nat → Nat → Nat} {before dinners : Nat → Int32} {next : Int32} {row : Nat → Int32} (h : ∃ x, x < 16 ∧ next = nI x) : RActs d σ f 0 before dinners 0 next row := by
  obtain ⟨x, hx, e⟩ := h
  exact ⟨0, x, fun _ => σ, fun _ => f, fun _ => false, by omega, hx, rfl, rfl, e, rfl, rfl, fun j hj => by omega, fun j hj => by omega⟩
theorem acts_next {d : PD} {σ : Nat → Nat} {f : Nat → Nat → Nat} {size acts : Int32} {before dinners : Nat → Int32} {next : Int32} {row : Nat → Int32} (h : RActs d σ f size before dinners acts next row) : ∃ x, x < 16 ∧ next = nI x := by
  obtain ⟨k, x, σs, ds, fl, h1, h2, h3, h4, h5, _⟩ := h
  exact ⟨x, h2, h5⟩
theorem IsB_cd {r : Int32} {P : Prop} {α : Type} (h : IsB r P) (g : Int32 → α) : pw_cd (r = 0) (g 0) (g 1) = g r := by
  rcases h with ⟨rfl, _⟩ | ⟨rfl, _⟩
  · rw [qs_f (by decide)]
  · rw [qs_t rfl]
theorem Sim_again_ok : Sim_again Inv := by
  intro s t hI x1
  obtain ⟨h1, h2, h3, h4, d, σ, f, hw, hx, hm, hst, hdn, hse, hdx, hsm, hdm, hac, hs0, hs1, hla⟩ := id hI
  have hn := hw.1
  unfold f_X10_again f_X11_again
  rw [qs_lt, qs_lt, inSlot]
  by_cases c0 : x1 = 0
  · subst c0
    rw [isSlot_0, qs_t (c := ¬ (1 : Int32) = 0) (by decide), qs_t (c := ¬ (1 : Int32) = 0) (by decide), qs_t (c := (0 : Int32) = 0) rfl, qs_g (by decide)]
    have ec : Int32.toNatClampNeg 0 = 0 := by decide
    rw [ec]
    rcases hs0 with ⟨g1, g2⟩ | ⟨g1, g2, τ, g, g3, g4, g5, g6, g7, g8⟩
    · rw [g1, g2, qs_f (fun g => g rfl), qs_f (fun g => g rfl)]
      exact ⟨_, _, _, _, _, _, _, rfl, rfl, hI⟩
    · obtain ⟨rd, ed, hd⟩ := copyX (b := sx_table_dined_v s) (s := sx_slot0_seating s) g6
      obtain ⟨k1, k2, ek1, ek2, ks, kd⟩ := againM (seat := sm_seat_v t) (dines := sm_dines_v t) (z := 0) (by omega) hn g7 g8
      have ek1' : lf_X11_again_26 0 (sm_kept_v t) pw_FU 0 (sm_seat_v t) = some k1 := ek1
      have ek2' : lf_X11_again_57 0 (sm_kept_v t) pw_FU 0 (sm_dines_v t) = some k2 := ek2
      obtain ⟨r, er, hr⟩ := lawX1 hw g3 hx
      obtain ⟨r', er', hr'⟩ := lawM1 hw g3 hm (SMs_row ks)
      have e := IsB_eq hr' hr
      subst e
      rw [g1, g2, qs_t (c := ¬ (1 : Int32) = 0) (by decide), qs_t (c := ¬ (1 : Int32) = 0) (by decide), ed, qs_bd, qs_u2, g5, er, qs_bd, qs_u1, ek1', qs_bd, qs_u1, ek2', qs_bd, qs_u1, er', qs_bd, qs_u1, IsB_cd hr' (fun z => some (z, (0 : Int32), k1, k2))]
      exact ⟨r', nI (pk τ), rd, 0, 0, k1, k2, rfl, rfl, h1, h2, h3, h4, d, τ, g, hw, hx, hm, g3, g4, rfl, hd, ks, kd, acts_none (acts_next hac), Or.inr ⟨g1, g2, τ, g, g3, g4, g5, g6, g7, g8⟩, hs1, hla⟩
  · by_cases c1 : x1 = 1
    · subst c1
      rw [isSlot_1, qs_t (c := ¬ (1 : Int32) = 0) (by decide), qs_t (c := ¬ (1 : Int32) = 0) (by decide), qs_f (c := (1 : Int32) = 0) (by decide), qs_g (by decide)]
      have ec : Int32.toNatClampNeg 1 = 1 := by decide
      rw [ec]
      rcases hs1 with ⟨g1, g2⟩ | ⟨g1, g2, τ, g, g3, g4, g5, g6, g7, g8⟩
      · rw [g1, g2, qs_f (fun g => g rfl), qs_f (fun g => g rfl)]
        exact ⟨_, _, _, _, _, _, _, rfl, rfl, hI⟩
      · obtain ⟨rd, ed, hd⟩ := copyX (b := sx_table_dined_v s) (s := sx_slot1_seating s) g6
        obtain ⟨k1, k2, ek1, ek2, ks, kd⟩ := againM (seat := sm_seat_v t) (dines := sm_dines_v t) (z := 1) (by omega) hn g7 g8
        have ek1' : lf_X11_again_26 1 (sm_kept_v t) pw_FU 0 (sm_seat_v t) = some k1 := ek1
        have ek2' : lf_X11_again_57 1 (sm_kept_v t) pw_FU 0 (sm_dines_v t) = some k2 := ek2
        obtain ⟨r, er, hr⟩ := lawX1 hw g3 hx
        obtain ⟨r', er', hr'⟩ := lawM1 hw g3 hm (SMs_row ks)
        have e := IsB_eq hr' hr
        subst e
        rw [g1, g2, qs_t (c := ¬ (1 : Int32) = 0) (by decide), qs_t (c := ¬ (1 : Int32) = 0) (by decide), ed, qs_bd, qs_u2, g5, er, qs_bd, qs_u1, ek1', qs_bd, qs_u1, ek2', qs_bd, qs_u1, er', qs_bd, qs_u1, IsB_cd hr' (fun z => some (z, (0 : Int32), k1, k2))]
        exact ⟨r', nI (pk τ), rd, 0, 0, k1, k2, rfl, rfl, h1, h2, h3, h4, d, τ, g, hw, hx, hm, g3, g4, rfl, hd, ks, kd, acts_none (acts_next hac), hs0, Or.inr ⟨g1, g2, τ, g, g3, g4, g5, g6, g7, g8⟩, hla⟩
    · rw [isSlot_n c0 c1, qs_f (fun g => g rfl), qs_f (fun g => g rfl)]
      exact ⟨_, _, _, _, _, _, _, rfl, rfl, hI⟩
