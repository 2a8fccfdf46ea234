/-! X4_hasPerson -/
theorem li_X4_hasPerson_X4 : ∀ w ∈ u_ws RX4 TX4 10, w ∈ wsX4_hasPerson := fun w h => List.mem_cons_of_mem _ (List.mem_append_right _ h)
theorem lk_X4_hasPerson_21 : Cond.fieldLink RX4 21 "NoWifeBeside$Party" "people" "I" ∈ wsX4_hasPerson := by decide +kernel
abbrev rm_X4_hasPerson : Room := { frames := 0, cells := 0, slots := 0, locals := 0 }
set_option maxRecDepth 100000 in
set_option maxHeartbeats 4000000 in
theorem c_X4_hasPerson (l : Launch) (dC : Nat → ClassId) (dI : Nat → Nat → Nat) (cI cZ : ClassId) (sz : Nat) (a_p0 : Nat) (a_p0_worths : Nat) (p0_round : Int32) (p0_byTurns : Int32) (p0_apart : Int32) (p0_people : Int32) (p0_women : Int32) (p0_couples : Int64) (p0_quarrels : Int64) (p0_togethers : Int64) (p0_barred : Int64) (x1 : Int32) : Met l yX4_hasPerson wsX4_hasPerson rm_X4_hasPerson (va_Pc [.ref a_p0, .int x1] (pw_pre (dC, dI) cI cZ [(a_p0, .inr (3, [.int p0_round, .int p0_byTurns, .int p0_apart, .int p0_people, .int p0_women, .long p0_couples, .long p0_quarrels, .long p0_togethers, .long p0_barred, .ref a_p0_worths]))] sz)) (va_Qi (fun (r : Int32) (u : Unit) => r = f_X4_hasPerson x1 p0_people) (fun u t => pw_post (dC, dI) cI cZ (va_A [(a_p0, .inr (3, [.int p0_round, .int p0_byTurns, .int p0_apart, .int p0_people, .int p0_women, .long p0_couples, .long p0_quarrels, .long p0_togethers, .long p0_barred, .ref a_p0_worths]))] sz) [(a_p0, .inr (3, [.int p0_round, .int p0_byTurns, .int p0_apart, .int p0_people, .int p0_women, .long p0_couples, .long p0_quarrels, .long p0_togethers, .long p0_barred, .ref a_p0_worths]))] t) (va_A [(a_p0, .inr (3, [.int p0_round, .int p0_byTurns, .int p0_apart, .int p0_people, .int p0_women, .long p0_couples, .long p0_quarrels, .long p0_togethers, .long p0_barred, .ref a_p0_worths]))] sz)) 0 0 (va_A [(a_p0, .inr (3, [.int p0_round, .int p0_byTurns, .int p0_apart, .int p0_people, .int p0_women, .long p0_couples, .long p0_quarrels, .long p0_togethers, .long p0_barred, .ref a_p0_worths]))] sz) := by
  refine Met.ofW (cc := cX4_hasPerson) (maxL := 2) (ret := (some .boolean)) (by decide) rfl ?_
  intro p e s m args below meth c s₁ B hml hv
  obtain ⟨rfl, hsz, hP, hK, hD0⟩ := hv
  have hx := B.exec
  have hb := B.bytes
  have hr := B.returns
  have hts := atoms_spec (ws := wsX4_hasPerson) B.pre
  have hown : s.vm.findClass RX4 = some m.cls := findClass_of_methodNamed B.named
  have hlocks := B.notSynchronized
  subst hsz
  have hD := hD0.self (sz := s.heap.size)
  generalize hAe : va_A [(a_p0, .inr (3, [.int p0_round, .int p0_byTurns, .int p0_apart, .int p0_people, .int p0_women, .long p0_couples, .long p0_quarrels, .long p0_togethers, .long p0_barred, .ref a_p0_worths]))] s.heap.size = A at hD ⊢
  have hA : ∀ q : Nat, s.heap.size ≤ q → A q := fun q h => by rw [← hAe]; exact Or.inr h
  have hS : va_S A s.heap s.heap [] := va_S.rf
  have hP : va_P (dC, dI) vwCl [(a_p0, .inr (3, [.int p0_round, .int p0_byTurns, .int p0_apart, .int p0_people, .int p0_women, .long p0_couples, .long p0_quarrels, .long p0_togethers, .long p0_barred, .ref a_p0_worths]))] s.heap := hP
  have hl := lv_entry ([.ref a_p0, .int x1]) (n := 2) (Nat.le_of_ble_eq_true rfl)
  rw [lg_entry_eq]
  generalize (lg_sl ([.ref a_p0, .int x1]) ++ List.replicate (2 - (lg_sl ([.ref a_p0, .int x1])).length) Slot.unset).toArray = ls at hl ⊢
  have hl : lv_has ls 2 [(0, .ref a_p0), (1, .int x1)] := hl
  refine pw_Wq (R := rm_X4_hasPerson) (fun Q hQ => ?_)
  obtain ⟨locs, elocs⟩ : ∃ y : List Loc, y = [] := ⟨_, rfl⟩
  rw [← elocs] at hS ⊢
  obtain ⟨xx, hc⟩ : ∃ y, f_X4_hasPerson x1 p0_people = y := ⟨_, rfl⟩
  have h := hc
  unfold f_X4_hasPerson at h
  refine lv_iload_n hx hb dX4_hasPerson_0 rfl (lv_at hl 1 rfl) ?_
  refine lv_if_lt (tgt := 16) hx hb dX4_hasPerson_1 (by decide) (fun c1 => ?_) (fun c1 => ?_)
  · have h := pw_cd_p c1 h
    refine lv_iconst (v := 0) hx hb dX4_hasPerson_16 (by decide) ?_
    rw [hQ]
    exact W.zret (v := 0) hx hb hr rfl (fun t ht hW => ⟨⟨0, (), rfl, h.trans hc.symm, by rw [ht]; exact hP, va_K.moved hW.alike hK, hD⟩, hS.F ht⟩) hS.2.2 dX4_hasPerson_17
  · have h := pw_cd_n c1 h
    refine lv_iload_n hx hb dX4_hasPerson_4 rfl (lv_at hl 1 rfl) ?_
    refine lv_aload_n hx hb dX4_hasPerson_5 rfl (lv_at hl 0 rfl) ?_
    refine va_get (D := (dC, dI)) (ci := 3) (v := .int p0_people) (C := RX4) (T := TX4) (N := 10) hx hb hts li_X4_hasPerson_X4 hown hK hP 0 rfl rfl 3 (by decide) (hts _ lk_X4_hasPerson_21) (fun _ h9 => h9) rfl dX4_hasPerson_6 ?_
    refine lv_icmp_ge (tgt := 16) hx hb dX4_hasPerson_9 (by decide) (fun c2 => ?_) (fun c2 => ?_)
    · have h := pw_cd_p c2 h
      refine lv_iconst (v := 0) hx hb dX4_hasPerson_16 (by decide) ?_
      rw [hQ]
      exact W.zret (v := 0) hx hb hr rfl (fun t ht hW => ⟨⟨0, (), rfl, h.trans hc.symm, by rw [ht]; exact hP, va_K.moved hW.alike hK, hD⟩, hS.F ht⟩) hS.2.2 dX4_hasPerson_17
    · have h := pw_cd_n c2 h
      refine lv_iconst (v := 1) hx hb dX4_hasPerson_12 (by decide) ?_
      refine lv_goto (tgt := 17) hx hb dX4_hasPerson_13 (by decide) ?_
      rw [hQ]
      exact W.zret (v := 1) hx hb hr rfl (fun t ht hW => ⟨⟨1, (), rfl, h.trans hc.symm, by rw [ht]; exact hP, va_K.moved hW.alike hK, hD⟩, hS.F ht⟩) hS.2.2 dX4_hasPerson_17
/-! X4_hasBoth -/
abbrev rm_X4_hasBoth : Room := { frames := 1, cells := 0, slots := 0, locals := 21 }
set_option maxRecDepth 100000 in
set_option maxHeartbeats 4000000 in
theorem c_X4_hasBoth (l : Launch) (dC : Nat → ClassId) (dI : Nat → Nat → Nat) (cI cZ : ClassId) (sz : Nat) (a_p0 : Nat) (a_p0_worths : Nat) (p0_round : Int32) (p0_byTurns : Int32) (p0_apart : Int32) (p0_people : Int32) (p0_women : Int32) (p0_couples : Int64) (p0_quarrels : Int64) (p0_togethers : Int64) (p0_barred : Int64) (x1 : Int32) (x2 : Int32) : Met l yX4_hasBoth wsX4_hasBoth rm_X4_hasBoth (va_Pc [.ref a_p0, .int x1, .int x2] (pw_pre (dC, dI) cI cZ [(a_p0, .inr (3, [.int p0_round, .int p0_byTurns, .int p0_apart, .int p0_people, .int p0_women, .long p0_couples, .long p0_quarrels, .long p0_togethers, .long p0_barred, .ref a_p0_worths]))] sz)) (va_Qi (fun (r : Int32) (u : Unit) => r = f_X4_hasBoth x1 x2 p0_people) (fun u t => pw_post (dC, dI) cI cZ (va_A [(a_p0, .inr (3, [.int p0_round, .int p0_byTurns, .int p0_apart, .int p0_people, .int p0_women, .long p0_couples, .long p0_quarrels, .long p0_togethers, .long p0_barred, .ref a_p0_worths]))] sz) [(a_p0, .inr (3, [.int p0_round, .int p0_byTurns, .int p0_apart, .int p0_people, .int p0_women, .long p0_couples, .long p0_quarrels, .long p0_togethers, .long p0_barred, .ref a_p0_worths]))] t) (va_A [(a_p0, .inr (3, [.int p0_round, .int p0_byTurns, .int p0_apart, .int p0_people, .int p0_women, .long p0_couples, .long p0_quarrels, .long p0_togethers, .long p0_barred, .ref a_p0_worths]))] sz)) 0 0 (va_A [(a_p0, .inr (3, [.int p0_round, .int p0_byTurns, .int p0_apart, .int p0_people, .int p0_women, .long p0_couples, .long p0_quarrels, .long p0_togethers, .long p0_barred, .ref a_p0_worths]))] sz) := by
  refine Met.ofW (cc := cX4_hasBoth) (maxL := 3) (ret := (some .boolean)) (by decide) rfl ?_
  intro p e s m args below meth c s₁ B hml hv
  obtain ⟨rfl, hsz, hP, hK, hD0⟩ := hv
  have hx := B.exec
  have hb := B.bytes
  have hr := B.returns
  have hts := atoms_spec (ws := wsX4_hasBoth) B.pre
  have hown : s.vm.findClass RX4 = some m.cls := findClass_of_methodNamed B.named
  have hlocks := B.notSynchronized
  subst hsz
  have hD := hD0.self (sz := s.heap.size)
  generalize hAe : va_A [(a_p0, .inr (3, [.int p0_round, .int p0_byTurns, .int p0_apart, .int p0_people, .int p0_women, .long p0_couples, .long p0_quarrels, .long p0_togethers, .long p0_barred, .ref a_p0_worths]))] s.heap.size = A at hD ⊢
  have hA : ∀ q : Nat, s.heap.size ≤ q → A q := fun q h => by rw [← hAe]; exact Or.inr h
  have hS : va_S A s.heap s.heap [] := va_S.rf
  have hP : va_P (dC, dI) vwCl [(a_p0, .inr (3, [.int p0_round, .int p0_byTurns, .int p0_apart, .int p0_people, .int p0_women, .long p0_couples, .long p0_quarrels, .long p0_togethers, .long p0_barred, .ref a_p0_worths]))] s.heap := hP
  have hl := lv_entry ([.ref a_p0, .int x1, .int x2]) (n := 3) (Nat.le_of_ble_eq_true rfl)
  rw [lg_entry_eq]
  generalize (lg_sl ([.ref a_p0, .int x1, .int x2]) ++ List.replicate (3 - (lg_sl ([.ref a_p0, .int x1, .int x2])).length) Slot.unset).toArray = ls at hl ⊢
  have hl : lv_has ls 3 [(0, .ref a_p0), (1, .int x1), (2, .int x2)] := hl
  refine pw_Wq (R := rm_X4_hasBoth) (fun Q hQ => ?_)
  obtain ⟨locs, elocs⟩ : ∃ y : List Loc, y = [] := ⟨_, rfl⟩
  rw [← elocs] at hS ⊢
  obtain ⟨xx, hc⟩ : ∃ y, f_X4_hasBoth x1 x2 p0_people = y := ⟨_, rfl⟩
  have h := hc
  unfold f_X4_hasBoth at h
  refine lv_aload_n hx hb dX4_hasBoth_0 rfl (lv_at hl 0 rfl) ?_
  refine lv_iload_n hx hb dX4_hasBoth_1 rfl (lv_at hl 1 rfl) ?_
  refine pw_ci (wr := []) (va_runV (As := [.int x1]) (rest := []) ⟨hx, hb, hml, hown, hts⟩ (c_X4_hasPerson l dC dI cI cZ s.heap.size a_p0 a_p0_worths p0_round p0_byTurns p0_apart p0_people p0_women p0_couples p0_quarrels p0_togethers p0_barred x1) (cwV 1 hts gX4_hasBoth_X4_hasPerson rfl rfl rfl (by decide +kernel) ⟨(Nat.le_of_ble_eq_true rfl), (Nat.le_of_ble_eq_true rfl)⟩) (pw_preV hK hP hD [0] rfl rfl (by decide) 3 rfl rfl) rfl rfl hl.1 rfl (lv_room (Nat.le_of_ble_eq_true rfl)) dX4_hasBoth_2 ⟨(Nat.le_of_ble_eq_true rfl), (Nat.le_of_ble_eq_true rfl)⟩) hP hD hS hA [0] [] rfl rfl (by decide) (by decide) (fun r1 u H locs hw hP hD hS => ?_)
  have h := pw_lt_e hw h
  have hP : va_P (dC, dI) vwCl [(a_p0, .inr (3, [.int p0_round, .int p0_byTurns, .int p0_apart, .int p0_people, .int p0_women, .long p0_couples, .long p0_quarrels, .long p0_togethers, .long p0_barred, .ref a_p0_worths]))] H := hP
  have hD : va_D A [(a_p0, .inr (3, [.int p0_round, .int p0_byTurns, .int p0_apart, .int p0_people, .int p0_women, .long p0_couples, .long p0_quarrels, .long p0_togethers, .long p0_barred, .ref a_p0_worths]))] := hD
  refine lv_if_eq (tgt := 20) hx hb dX4_hasBoth_5 (by decide) (fun c4 => ?_) (fun c4 => ?_)
  · have h := pw_cd_p c4 h
    refine lv_iconst (v := 0) hx hb dX4_hasBoth_20 (by decide) ?_
    rw [hQ]
    exact W.zret (v := 0) hx hb hr rfl (fun t ht hW => ⟨⟨0, (), rfl, h.trans hc.symm, by rw [ht]; exact hP, va_K.moved hW.alike hK, hD⟩, hS.F ht⟩) hS.2.2 dX4_hasBoth_21
  · have h := pw_cd_n c4 h
    refine lv_aload_n hx hb dX4_hasBoth_8 rfl (lv_at hl 0 rfl) ?_
    refine lv_iload_n hx hb dX4_hasBoth_9 rfl (lv_at hl 2 rfl) ?_
    refine pw_ci (wr := []) (va_runV (As := [.int x2]) (rest := []) ⟨hx, hb, hml, hown, hts⟩ (c_X4_hasPerson l dC dI cI cZ H.size a_p0 a_p0_worths p0_round p0_byTurns p0_apart p0_people p0_women p0_couples p0_quarrels p0_togethers p0_barred x2) (cwV 1 hts gX4_hasBoth_X4_hasPerson rfl rfl rfl (by decide +kernel) ⟨(Nat.le_of_ble_eq_true rfl), (Nat.le_of_ble_eq_true rfl)⟩) (pw_preV hK hP hD [0] rfl rfl (by decide) 3 rfl rfl) rfl rfl hl.1 rfl (lv_room (Nat.le_of_ble_eq_true rfl)) dX4_hasBoth_10 ⟨(Nat.le_of_ble_eq_true rfl), (Nat.le_of_ble_eq_true rfl)⟩) hP hD hS hA [0] [] rfl rfl (by decide) (by decide) (fun r5 u H locs hw hP hD hS => ?_)
    have h := pw_lt_e hw h
    have hP : va_P (dC, dI) vwCl [(a_p0, .inr (3, [.int p0_round, .int p0_byTurns, .int p0_apart, .int p0_people, .int p0_women, .long p0_couples, .long p0_quarrels, .long p0_togethers, .long p0_barred, .ref a_p0_worths]))] H := hP
    have hD : va_D A [(a_p0, .inr (3, [.int p0_round, .int p0_byTurns, .int p0_apart, .int p0_people, .int p0_women, .long p0_couples, .long p0_quarrels, .long p0_togethers, .long p0_barred, .ref a_p0_worths]))] := hD
    refine lv_if_eq (tgt := 20) hx hb dX4_hasBoth_13 (by decide) (fun c8 => ?_) (fun c8 => ?_)
    · have h := pw_cd_p c8 h
      refine lv_iconst (v := 0) hx hb dX4_hasBoth_20 (by decide) ?_
      rw [hQ]
      exact W.zret (v := 0) hx hb hr rfl (fun t ht hW => ⟨⟨0, (), rfl, h.trans hc.symm, by rw [ht]; exact hP, va_K.moved hW.alike hK, hD⟩, hS.F ht⟩) hS.2.2 dX4_hasBoth_21
    · have h := pw_cd_n c8 h
      refine lv_iconst (v := 1) hx hb dX4_hasBoth_16 (by decide) ?_
      refine lv_goto (tgt := 21) hx hb dX4_hasBoth_17 (by decide) ?_
      rw [hQ]
      exact W.zret (v := 1) hx hb hr rfl (fun t ht hW => ⟨⟨1, (), rfl, h.trans hc.symm, by rw [ht]; exact hP, va_K.moved hW.alike hK, hD⟩, hS.F ht⟩) hS.2.2 dX4_hasBoth_21
/-! X4_isWoman -/
theorem li_X4_isWoman_X4 : ∀ w ∈ u_ws RX4 TX4 10, w ∈ wsX4_isWoman := fun w h => List.mem_cons_of_mem _ (List.mem_append_right _ h)
theorem lk_X4_isWoman_25 : Cond.fieldLink RX4 25 "NoWifeBeside$Party" "women" "I" ∈ wsX4_isWoman := by decide +kernel
abbrev rm_X4_isWoman : Room := { frames := 0, cells := 0, slots := 0, locals := 0 }
set_option maxRecDepth 100000 in
set_option maxHeartbeats 4000000 in
theorem c_X4_isWoman (l : Launch) (dC : Nat → ClassId) (dI : Nat → Nat → Nat) (cI cZ : ClassId) (sz : Nat) (a_p0 : Nat) (a_p0_worths : Nat) (p0_round : Int32) (p0_byTurns : Int32) (p0_apart : Int32) (p0_people : Int32) (p0_women : Int32) (p0_couples : Int64) (p0_quarrels : Int64) (p0_togethers : Int64) (p0_barred : Int64) (x1 : Int32) : Met l yX4_isWoman wsX4_isWoman rm_X4_isWoman (va_Pc [.ref a_p0, .int x1] (pw_pre (dC, dI) cI cZ [(a_p0, .inr (3, [.int p0_round, .int p0_byTurns, .int p0_apart, .int p0_people, .int p0_women, .long p0_couples, .long p0_quarrels, .long p0_togethers, .long p0_barred, .ref a_p0_worths]))] sz)) (va_Qi (fun (r : Int32) (u : Unit) => r = f_X4_isWoman x1 p0_women) (fun u t => pw_post (dC, dI) cI cZ (va_A [(a_p0, .inr (3, [.int p0_round, .int p0_byTurns, .int p0_apart, .int p0_people, .int p0_women, .long p0_couples, .long p0_quarrels, .long p0_togethers, .long p0_barred, .ref a_p0_worths]))] sz) [(a_p0, .inr (3, [.int p0_round, .int p0_byTurns, .int p0_apart, .int p0_people, .int p0_women, .long p0_couples, .long p0_quarrels, .long p0_togethers, .long p0_barred, .ref a_p0_worths]))] t) (va_A [(a_p0, .inr (3, [.int p0_round, .int p0_byTurns, .int p0_apart, .int p0_people, .int p0_women, .long p0_couples, .long p0_quarrels, .long p0_togethers, .long p0_barred, .ref a_p0_worths]))] sz)) 0 0 (va_A [(a_p0, .inr (3, [.int p0_round, .int p0_byTurns, .int p0_apart, .int p0_people, .int p0_women, .long p0_couples, .long p0_quarrels, .long p0_togethers, .long p0_barred, .ref a_p0_worths]))] sz) := by
  refine Met.ofW (cc := cX4_isWoman) (maxL := 2) (ret := (some .boolean)) (by decide) rfl ?_
  intro p e s m args below meth c s₁ B hml hv
  obtain ⟨rfl, hsz, hP, hK, hD0⟩ := hv
  have hx := B.exec
  have hb := B.bytes
  have hr := B.returns
  have hts := atoms_spec (ws := wsX4_isWoman) B.pre
  have hown : s.vm.findClass RX4 = some m.cls := findClass_of_methodNamed B.named
  have hlocks := B.notSynchronized
  subst hsz
  have hD := hD0.self (sz := s.heap.size)
  generalize hAe : va_A [(a_p0, .inr (3, [.int p0_round, .int p0_byTurns, .int p0_apart, .int p0_people, .int p0_women, .long p0_couples, .long p0_quarrels, .long p0_togethers, .long p0_barred, .ref a_p0_worths]))] s.heap.size = A at hD ⊢
  have hA : ∀ q : Nat, s.heap.size ≤ q → A q := fun q h => by rw [← hAe]; exact Or.inr h
  have hS : va_S A s.heap s.heap [] := va_S.rf
  have hP : va_P (dC, dI) vwCl [(a_p0, .inr (3, [.int p0_round, .int p0_byTurns, .int p0_apart, .int p0_people, .int p0_women, .long p0_couples, .long p0_quarrels, .long p0_togethers, .long p0_barred, .ref a_p0_worths]))] s.heap := hP
  have hl := lv_entry ([.ref a_p0, .int x1]) (n := 2) (Nat.le_of_ble_eq_true rfl)
  rw [lg_entry_eq]
  generalize (lg_sl ([.ref a_p0, .int x1]) ++ List.replicate (2 - (lg_sl ([.ref a_p0, .int x1])).length) Slot.unset).toArray = ls at hl ⊢
  have hl : lv_has ls 2 [(0, .ref a_p0), (1, .int x1)] := hl
  refine pw_Wq (R := rm_X4_isWoman) (fun Q hQ => ?_)
  obtain ⟨locs, elocs⟩ : ∃ y : List Loc, y = [] := ⟨_, rfl⟩
  rw [← elocs] at hS ⊢
  obtain ⟨xx, hc⟩ : ∃ y, f_X4_isWoman x1 p0_women = y := ⟨_, rfl⟩
  have h := hc
  unfold f_X4_isWoman at h
  refine lv_aload_n hx hb dX4_isWoman_0 rfl (lv_at hl 0 rfl) ?_
  refine va_get (D := (dC, dI)) (ci := 3) (v := .int p0_women) (C := RX4) (T := TX4) (N := 10) hx hb hts li_X4_isWoman_X4 hown hK hP 0 rfl rfl 4 (by decide) (hts _ lk_X4_isWoman_25) (fun _ h9 => h9) rfl dX4_isWoman_1 ?_
  refine lv_iload_n hx hb dX4_isWoman_4 rfl (lv_at hl 1 rfl) ?_
  refine lv_ishr hx hb dX4_isWoman_5 ?_
  refine lv_iconst (v := 1) hx hb dX4_isWoman_6 (by decide) ?_
  refine lv_iand hx hb dX4_isWoman_7 ?_
  refine lv_if_eq (tgt := 15) hx hb dX4_isWoman_8 (by decide) (fun c1 => ?_) (fun c1 => ?_)
  · have h := pw_cd_p c1 h
    refine lv_iconst (v := 0) hx hb dX4_isWoman_15 (by decide) ?_
    rw [hQ]
    exact W.zret (v := 0) hx hb hr rfl (fun t ht hW => ⟨⟨0, (), rfl, h.trans hc.symm, by rw [ht]; exact hP, va_K.moved hW.alike hK, hD⟩, hS.F ht⟩) hS.2.2 dX4_isWoman_16
  · have h := pw_cd_n c1 h
    refine lv_iconst (v := 1) hx hb dX4_isWoman_11 (by decide) ?_
    refine lv_goto (tgt := 16) hx hb dX4_isWoman_12 (by decide) ?_
    rw [hQ]
    exact W.zret (v := 1) hx hb hr rfl (fun t ht hW => ⟨⟨1, (), rfl, h.trans hc.symm, by rw [ht]; exact hP, va_K.moved hW.alike hK, hD⟩, hS.F ht⟩) hS.2.2 dX4_isWoman_16
/-! J6_bitCount_0f7a4 -/
theorem lk_J6_bitCount_0f7a4_k265 : Cond.constant RJ6 265 1431655765 ∈ wsJ6_bitCount_0f7a4 := by decide +kernel
theorem lk_J6_bitCount_0f7a4_k266 : Cond.constant RJ6 266 858993459 ∈ wsJ6_bitCount_0f7a4 := by decide +kernel
theorem lk_J6_bitCount_0f7a4_k267 : Cond.constant RJ6 267 252645135 ∈ wsJ6_bitCount_0f7a4 := by decide +kernel
abbrev rm_J6_bitCount_0f7a4 : Room := { frames := 0, cells := 0, slots := 0, locals := 0 }
set_option maxRecDepth 100000 in
set_option maxHeartbeats 4000000 in
theorem c_J6_bitCount_0f7a4 (l : Launch) (dC : Nat → ClassId) (dI : Nat → Nat → Nat) (cI cZ : ClassId) (sz : Nat) (x0 : Int32) : Met l yJ6_bitCount_0f7a4 wsJ6_bitCount_0f7a4 rm_J6_bitCount_0f7a4 (va_Pc [.int x0] (pw_pre (dC, dI) cI cZ [] sz)) (va_Qi (fun (r : Int32) (u : Unit) => r = f_J6_bitCount_0f7a4 x0) (fun u t => pw_post (dC, dI) cI cZ (va_A [] sz) [] t) (va_A [] sz)) 0 0 (va_A [] sz) := by
  refine Met.ofW (cc := cJ6_bitCount_0f7a4) (maxL := 1) (ret := (some .int)) (by decide) rfl ?_
  intro p e s m args below meth c s₁ B hml hv
  obtain ⟨rfl, hsz, hP, hK, hD0⟩ := hv
  have hx := B.exec
  have hb := B.bytes
  have hr := B.returns
  have hts := atoms_spec (ws := wsJ6_bitCount_0f7a4) B.pre
  have hown : s.vm.findClass RJ6 = some m.cls := findClass_of_methodNamed B.named
  have hlocks := B.notSynchronized
  subst hsz
  have hD := hD0.self (sz := s.heap.size)
  generalize hAe : va_A [] s.heap.size = A at hD ⊢
  have hA : ∀ q : Nat, s.heap.size ≤ q → A q := fun q h => by rw [← hAe]; exact Or.inr h
  have hS : va_S A s.heap s.heap [] := va_S.rf
  have hP : va_P (dC, dI) vwCl [] s.heap := hP
  have hl := lv_entry ([.int x0]) (n := 1) (Nat.le_of_ble_eq_true rfl)
  rw [lg_entry_eq]
  generalize (lg_sl ([.int x0]) ++ List.replicate (1 - (lg_sl ([.int x0])).length) Slot.unset).toArray = ls at hl ⊢
  have hl : lv_has ls 1 [(0, .int x0)] := hl
  refine pw_Wq (R := rm_J6_bitCount_0f7a4) (fun Q hQ => ?_)
  obtain ⟨locs, elocs⟩ : ∃ y : List Loc, y = [] := ⟨_, rfl⟩
  rw [← elocs] at hS ⊢
  obtain ⟨xx, hc⟩ : ∃ y, f_J6_bitCount_0f7a4 x0 = y := ⟨_, rfl⟩
  have h := hc
  unfold f_J6_bitCount_0f7a4 at h
  refine lv_iload_n hx hb dJ6_bitCount_0f7a4_0 rfl (lv_at hl 0 rfl) ?_
  refine lv_iload_n hx hb dJ6_bitCount_0f7a4_1 rfl (lv_at hl 0 rfl) ?_
  refine lv_iconst (v := 1) hx hb dJ6_bitCount_0f7a4_2 (by decide) ?_
  refine lv_iushr hx hb dJ6_bitCount_0f7a4_3 (v := (Int32.toUInt32 x0 >>> (Int32.toUInt32 1 &&& Int32.toUInt32 31)).toInt32) rfl ?_
  refine lv_ldcw (own := RJ6) (v := 1431655765) hx hb hown (hts _ lk_J6_bitCount_0f7a4_k265) dJ6_bitCount_0f7a4_4 ?_
  refine lv_iand hx hb dJ6_bitCount_0f7a4_7 ?_
  refine lv_isub hx hb dJ6_bitCount_0f7a4_8 ?_
  refine lv_topi (fun v1 ev1 => ?_)
  have h := pw_lt_e ev1 h
  refine lv_istore_n (lv' := [(0, .int v1)]) hx hb dJ6_bitCount_0f7a4_9 rfl hl (by decide) rfl (fun ls hl => ?_)
  refine lv_iload_n hx hb dJ6_bitCount_0f7a4_10 rfl (lv_at hl 0 rfl) ?_
  refine lv_ldcw (own := RJ6) (v := 858993459) hx hb hown (hts _ lk_J6_bitCount_0f7a4_k266) dJ6_bitCount_0f7a4_11 ?_
  refine lv_iand hx hb dJ6_bitCount_0f7a4_14 ?_
  refine lv_iload_n hx hb dJ6_bitCount_0f7a4_15 rfl (lv_at hl 0 rfl) ?_
  refine lv_iconst (v := 2) hx hb dJ6_bitCount_0f7a4_16 (by decide) ?_
  refine lv_iushr hx hb dJ6_bitCount_0f7a4_17 (v := (Int32.toUInt32 v1 >>> (Int32.toUInt32 2 &&& Int32.toUInt32 31)).toInt32) rfl ?_
  refine lv_ldcw (own := RJ6) (v := 858993459) hx hb hown (hts _ lk_J6_bitCount_0f7a4_k266) dJ6_bitCount_0f7a4_18 ?_
  refine lv_iand hx hb dJ6_bitCount_0f7a4_21 ?_
  refine lv_iadd hx hb dJ6_bitCount_0f7a4_22 ?_
  refine lv_topi (fun v2 ev2 => ?_)
  have h := pw_lt_e ev2 h
  refine lv_istore_n (lv' := [(0, .int v2)]) hx hb dJ6_bitCount_0f7a4_23 rfl hl (by decide) rfl (fun ls hl => ?_)
  refine lv_iload_n hx hb dJ6_bitCount_0f7a4_24 rfl (lv_at hl 0 rfl) ?_
  refine lv_iload_n hx hb dJ6_bitCount_0f7a4_25 rfl (lv_at hl 0 rfl) ?_
  refine lv_iconst (v := 4) hx hb dJ6_bitCount_0f7a4_26 (by decide) ?_
  refine lv_iushr hx hb dJ6_bitCount_0f7a4_27 (v := (Int32.toUInt32 v2 >>> (Int32.toUInt32 4 &&& Int32.toUInt32 31)).toInt32) rfl ?_
  refine lv_iadd hx hb dJ6_bitCount_0f7a4_28 ?_
  refine lv_ldcw (own := RJ6) (v := 252645135) hx hb hown (hts _ lk_J6_bitCount_0f7a4_k267) dJ6_bitCount_0f7a4_29 ?_
  refine lv_iand hx hb dJ6_bitCount_0f7a4_32 ?_
  refine lv_topi (fun v3 ev3 => ?_)
  have h := pw_lt_e ev3 h
  refine lv_istore_n (lv' := [(0, .int v3)]) hx hb dJ6_bitCount_0f7a4_33 rfl hl (by decide) rfl (fun ls hl => ?_)
  refine lv_iload_n hx hb dJ6_bitCount_0f7a4_34 rfl (lv_at hl 0 rfl) ?_
  refine lv_iload_n hx hb dJ6_bitCount_0f7a4_35 rfl (lv_at hl 0 rfl) ?_
  refine lv_bipush (v := 8) hx hb dJ6_bitCount_0f7a4_36 (by decide) ?_
  refine lv_iushr hx hb dJ6_bitCount_0f7a4_38 (v := (Int32.toUInt32 v3 >>> (Int32.toUInt32 8 &&& Int32.toUInt32 31)).toInt32) rfl ?_
  refine lv_iadd hx hb dJ6_bitCount_0f7a4_39 ?_
  refine lv_topi (fun v4 ev4 => ?_)
  have h := pw_lt_e ev4 h
  refine lv_istore_n (lv' := [(0, .int v4)]) hx hb dJ6_bitCount_0f7a4_40 rfl hl (by decide) rfl (fun ls hl => ?_)
  refine lv_iload_n hx hb dJ6_bitCount_0f7a4_41 rfl (lv_at hl 0 rfl) ?_
  refine lv_iload_n hx hb dJ6_bitCount_0f7a4_42 rfl (lv_at hl 0 rfl) ?_
  refine lv_bipush (v := 16) hx hb dJ6_bitCount_0f7a4_43 (by decide) ?_
  refine lv_iushr hx hb dJ6_bitCount_0f7a4_45 (v := (Int32.toUInt32 v4 >>> (Int32.toUInt32 16 &&& Int32.toUInt32 31)).toInt32) rfl ?_
  refine lv_iadd hx hb dJ6_bitCount_0f7a4_46 ?_
  refine lv_topi (fun v5 ev5 => ?_)
  have h := pw_lt_e ev5 h
  refine lv_istore_n (lv' := [(0, .int v5)]) hx hb dJ6_bitCount_0f7a4_47 rfl hl (by decide) rfl (fun ls hl => ?_)
  refine lv_iload_n hx hb dJ6_bitCount_0f7a4_48 rfl (lv_at hl 0 rfl) ?_
  refine lv_bipush (v := 63) hx hb dJ6_bitCount_0f7a4_49 (by decide) ?_
  refine lv_iand hx hb dJ6_bitCount_0f7a4_51 ?_
  rw [hQ]
  exact W.iret (v := (v5 &&& 63)) hx hb hr (fun t ht hW => ⟨⟨(v5 &&& 63), (), rfl, h.trans hc.symm, by rw [ht]; exact hP, va_K.moved hW.alike hK, hD⟩, hS.F ht⟩) hS.2.2 dJ6_bitCount_0f7a4_52
/-! X4_men -/
theorem li_X4_men_X4 : ∀ w ∈ u_ws RX4 TX4 10, w ∈ wsX4_men := fun w h => List.mem_cons_of_mem _ (List.mem_append_right _ h)
theorem lk_X4_men_21 : Cond.fieldLink RX4 21 "NoWifeBeside$Party" "people" "I" ∈ wsX4_men := by decide +kernel
theorem lk_X4_men_25 : Cond.fieldLink RX4 25 "NoWifeBeside$Party" "women" "I" ∈ wsX4_men := by decide +kernel
abbrev rm_X4_men : Room := { frames := 1, cells := 0, slots := 0, locals := 20 }
set_option maxRecDepth 100000 in
set_option maxHeartbeats 4000000 in
theorem c_X4_men (l : Launch) (dC : Nat → ClassId) (dI : Nat → Nat → Nat) (cI cZ : ClassId) (sz : Nat) (a_p0 : Nat) (a_p0_worths : Nat) (p0_round : Int32) (p0_byTurns : Int32) (p0_apart : Int32) (p0_people : Int32) (p0_women : Int32) (p0_couples : Int64) (p0_quarrels : Int64) (p0_togethers : Int64) (p0_barred : Int64) : Met l yX4_men wsX4_men rm_X4_men (va_Pc [.ref a_p0] (pw_pre (dC, dI) cI cZ [(a_p0, .inr (3, [.int p0_round, .int p0_byTurns, .int p0_apart, .int p0_people, .int p0_women, .long p0_couples, .long p0_quarrels, .long p0_togethers, .long p0_barred, .ref a_p0_worths]))] sz)) (va_Qi (fun (r : Int32) (u : Unit) => r = f_X4_men p0_people p0_women) (fun u t => pw_post (dC, dI) cI cZ (va_A [(a_p0, .inr (3, [.int p0_round, .int p0_byTurns, .int p0_apart, .int p0_people, .int p0_women, .long p0_couples, .long p0_quarrels, .long p0_togethers, .long p0_barred, .ref a_p0_worths]))] sz) [(a_p0, .inr (3, [.int p0_round, .int p0_byTurns, .int p0_apart, .int p0_people, .int p0_women, .long p0_couples, .long p0_quarrels, .long p0_togethers, .long p0_barred, .ref a_p0_worths]))] t) (va_A [(a_p0, .inr (3, [.int p0_round, .int p0_byTurns, .int p0_apart, .int p0_people, .int p0_women, .long p0_couples, .long p0_quarrels, .long p0_togethers, .long p0_barred, .ref a_p0_worths]))] sz)) 0 0 (va_A [(a_p0, .inr (3, [.int p0_round, .int p0_byTurns, .int p0_apart, .int p0_people, .int p0_women, .long p0_couples, .long p0_quarrels, .long p0_togethers, .long p0_barred, .ref a_p0_worths]))] sz) := by
  refine Met.ofW (cc := cX4_men) (maxL := 1) (ret := (some .int)) (by decide) rfl ?_
  intro p e s m args below meth c s₁ B hml hv
  obtain ⟨rfl, hsz, hP, hK, hD0⟩ := hv
  have hx := B.exec
  have hb := B.bytes
  have hr := B.returns
  have hts := atoms_spec (ws := wsX4_men) B.pre
  have hown : s.vm.findClass RX4 = some m.cls := findClass_of_methodNamed B.named
  have hlocks := B.notSynchronized
  subst hsz
  have hD := hD0.self (sz := s.heap.size)
  generalize hAe : va_A [(a_p0, .inr (3, [.int p0_round, .int p0_byTurns, .int p0_apart, .int p0_people, .int p0_women, .long p0_couples, .long p0_quarrels, .long p0_togethers, .long p0_barred, .ref a_p0_worths]))] s.heap.size = A at hD ⊢
  have hA : ∀ q : Nat, s.heap.size ≤ q → A q := fun q h => by rw [← hAe]; exact Or.inr h
  have hS : va_S A s.heap s.heap [] := va_S.rf
  have hP : va_P (dC, dI) vwCl [(a_p0, .inr (3, [.int p0_round, .int p0_byTurns, .int p0_apart, .int p0_people, .int p0_women, .long p0_couples, .long p0_quarrels, .long p0_togethers, .long p0_barred, .ref a_p0_worths]))] s.heap := hP
  have hl := lv_entry ([.ref a_p0]) (n := 1) (Nat.le_of_ble_eq_true rfl)
  rw [lg_entry_eq]
  generalize (lg_sl ([.ref a_p0]) ++ List.replicate (1 - (lg_sl ([.ref a_p0])).length) Slot.unset).toArray = ls at hl ⊢
  have hl : lv_has ls 1 [(0, .ref a_p0)] := hl
  refine pw_Wq (R := rm_X4_men) (fun Q hQ => ?_)
  obtain ⟨locs, elocs⟩ : ∃ y : List Loc, y = [] := ⟨_, rfl⟩
  rw [← elocs] at hS ⊢
  obtain ⟨xx, hc⟩ : ∃ y, f_X4_men p0_people p0_women = y := ⟨_, rfl⟩
  have h := hc
  unfold f_X4_men at h
  refine lv_aload_n hx hb dX4_men_0 rfl (lv_at hl 0 rfl) ?_
  refine va_get (D := (dC, dI)) (ci := 3) (v := .int p0_people) (C := RX4) (T := TX4) (N := 10) hx hb hts li_X4_men_X4 hown hK hP 0 rfl rfl 3 (by decide) (hts _ lk_X4_men_21) (fun _ h9 => h9) rfl dX4_men_1 ?_
  refine lv_aload_n hx hb dX4_men_4 rfl (lv_at hl 0 rfl) ?_
  refine va_get (D := (dC, dI)) (ci := 3) (v := .int p0_women) (C := RX4) (T := TX4) (N := 10) hx hb hts li_X4_men_X4 hown hK hP 0 rfl rfl 4 (by decide) (hts _ lk_X4_men_25) (fun _ h9 => h9) rfl dX4_men_5 ?_
  refine pw_ci (wr := [(a_p0, .inr (3, [.int p0_round, .int p0_byTurns, .int p0_apart, .int p0_people, .int p0_women, .long p0_couples, .long p0_quarrels, .long p0_togethers, .long p0_barred, .ref a_p0_worths]))]) (va_runS (As := [.int p0_women]) (rest := [.int p0_people]) ⟨hx, hb, hml, hown, hts⟩ (c_J6_bitCount_0f7a4 l dC dI cI cZ s.heap.size p0_women) (va_cwS 1 hts gX4_men_J6_bitCount_0f7a4 rfl rfl rfl (by decide +kernel) ⟨(Nat.le_of_ble_eq_true rfl), (Nat.le_of_ble_eq_true rfl)⟩) (pw_preS hK hP hD [] rfl rfl (by decide)) rfl rfl hl.1 rfl (lv_room (Nat.le_of_ble_eq_true rfl)) dX4_men_8 ⟨(Nat.le_of_ble_eq_true rfl), (Nat.le_of_ble_eq_true rfl)⟩) hP hD hS hA [] [0] rfl rfl (by decide) (by decide) (fun r1 u H locs hw hP hD hS => ?_)
  have h := pw_lt_e hw h
  have hP : va_P (dC, dI) vwCl [(a_p0, .inr (3, [.int p0_round, .int p0_byTurns, .int p0_apart, .int p0_people, .int p0_women, .long p0_couples, .long p0_quarrels, .long p0_togethers, .long p0_barred, .ref a_p0_worths]))] H := hP
  have hD : va_D A [(a_p0, .inr (3, [.int p0_round, .int p0_byTurns, .int p0_apart, .int p0_people, .int p0_women, .long p0_couples, .long p0_quarrels, .long p0_togethers, .long p0_barred, .ref a_p0_worths]))] := hD
  refine lv_isub hx hb dX4_men_11 ?_
  rw [hQ]
  exact W.iret (v := (p0_people - r1)) hx hb hr (fun t ht hW => ⟨⟨(p0_people - r1), (), rfl, h.trans hc.symm, by rw [ht]; exact hP, va_K.moved hW.alike hK, hD⟩, hS.F ht⟩) hS.2.2 dX4_men_12
/-! X4_admit -/
theorem li_X4_admit_X4 : ∀ w ∈ u_ws RX4 TX4 10, w ∈ wsX4_admit := fun w h => List.mem_cons_of_mem _ (List.mem_append_right _ h)
theorem lk_X4_admit_21 : Cond.fieldLink RX4 21 "NoWifeBeside$Party" "people" "I" ∈ wsX4_admit := by decide +kernel
theorem lk_X4_admit_25 : Cond.fieldLink RX4 25 "NoWifeBeside$Party" "women" "I" ∈ wsX4_admit := by decide +kernel
abbrev rm_X4_admit : Room := { frames := 0, cells := 0, slots := 0, locals := 0 }
set_option maxRecDepth 100000 in
set_option maxHeartbeats 4000000 in
theorem c_X4_admit (l : Launch) (dC : Nat → ClassId) (dI : Nat → Nat → Nat) (cI cZ : ClassId) (sz : Nat) (a_p0 : Nat) (a_p0_worths : Nat) (p0_round : Int32) (p0_byTurns : Int32) (p0_apart : Int32) (p0_people : Int32) (p0_women : Int32) (p0_couples : Int64) (p0_quarrels : Int64) (p0_togethers : Int64) (p0_barred : Int64) (x1 : Int32) (xx : Int32 × Int32) (hc : f_X4_admit x1 p0_people p0_women = some xx) : Met l yX4_admit wsX4_admit rm_X4_admit (va_Pc [.ref a_p0, .int x1] (pw_pre (dC, dI) cI cZ [(a_p0, .inr (3, [.int p0_round, .int p0_byTurns, .int p0_apart, .int p0_people, .int p0_women, .long p0_couples, .long p0_quarrels, .long p0_togethers, .long p0_barred, .ref a_p0_worths]))] sz)) (va_Qv (fun (u : Int32 × Int32) => f_X4_admit x1 p0_people p0_women = some (u.1, u.2)) (fun u t => pw_post (dC, dI) cI cZ (va_A [(a_p0, .inr (3, [.int p0_round, .int p0_byTurns, .int p0_apart, .int p0_people, .int p0_women, .long p0_couples, .long p0_quarrels, .long p0_togethers, .long p0_barred, .ref a_p0_worths]))] sz) [(a_p0, .inr (3, [.int p0_round, .int p0_byTurns, .int p0_apart, .int u.1, .int u.2, .long p0_couples, .long p0_quarrels, .long p0_togethers, .long p0_barred, .ref a_p0_worths]))] t) (va_A [(a_p0, .inr (3, [.int p0_round, .int p0_byTurns, .int p0_apart, .int p0_people, .int p0_women, .long p0_couples, .long p0_quarrels, .long p0_togethers, .long p0_barred, .ref a_p0_worths]))] sz)) 0 0 (va_A [(a_p0, .inr (3, [.int p0_round, .int p0_byTurns, .int p0_apart, .int p0_people, .int p0_women, .long p0_couples, .long p0_quarrels, .long p0_togethers, .long p0_barred, .ref a_p0_worths]))] sz) := by
  refine Met.ofW (cc := cX4_admit) (maxL := 2) (ret := none) (by decide) rfl ?_
  intro p e s m args below meth c s₁ B hml hv
  obtain ⟨rfl, hsz, hP, hK, hD0⟩ := hv
  have hx := B.exec
  have hb := B.bytes
  have hr := B.returns
  have hts := atoms_spec (ws := wsX4_admit) B.pre
  have hown : s.vm.findClass RX4 = some m.cls := findClass_of_methodNamed B.named
  have hlocks := B.notSynchronized
  subst hsz
  have hD := hD0.self (sz := s.heap.size)
  generalize hAe : va_A [(a_p0, .inr (3, [.int p0_round, .int p0_byTurns, .int p0_apart, .int p0_people, .int p0_women, .long p0_couples, .long p0_quarrels, .long p0_togethers, .long p0_barred, .ref a_p0_worths]))] s.heap.size = A at hD ⊢
  have hA : ∀ q : Nat, s.heap.size ≤ q → A q := fun q h => by rw [← hAe]; exact Or.inr h
  have hS : va_S A s.heap s.heap [] := va_S.rf
  have hP : va_P (dC, dI) vwCl [(a_p0, .inr (3, [.int p0_round, .int p0_byTurns, .int p0_apart, .int p0_people, .int p0_women, .long p0_couples, .long p0_quarrels, .long p0_togethers, .long p0_barred, .ref a_p0_worths]))] s.heap := hP
  have hl := lv_entry ([.ref a_p0, .int x1]) (n := 2) (Nat.le_of_ble_eq_true rfl)
  rw [lg_entry_eq]
  generalize (lg_sl ([.ref a_p0, .int x1]) ++ List.replicate (2 - (lg_sl ([.ref a_p0, .int x1])).length) Slot.unset).toArray = ls at hl ⊢
  have hl : lv_has ls 2 [(0, .ref a_p0), (1, .int x1)] := hl
  refine pw_Wq (R := rm_X4_admit) (fun Q hQ => ?_)
  obtain ⟨locs, elocs⟩ : ∃ y : List Loc, y = [] := ⟨_, rfl⟩
  rw [← elocs] at hS ⊢
  have h := hc
  unfold f_X4_admit at h
  refine lv_iload_n hx hb dX4_admit_0 rfl (lv_at hl 1 rfl) ?_
  obtain ⟨k3, hk3, h⟩ := pw_jn_e h
  have K4 : ∀ (j2 : Int32), k3 j2 = some xx → ∀ (H : Heap) (locs : List Loc) (ls : Array Slot), va_P (dC, dI) vwCl [(a_p0, .inr (3, [.int p0_round, .int p0_byTurns, .int p0_apart, .int p0_people, .int j2, .long p0_couples, .long p0_quarrels, .long p0_togethers, .long p0_barred, .ref a_p0_worths]))] H → va_D A [(a_p0, .inr (3, [.int p0_round, .int p0_byTurns, .int p0_apart, .int p0_people, .int j2, .long p0_couples, .long p0_quarrels, .long p0_togethers, .long p0_barred, .ref a_p0_worths]))] → va_S A s.heap H locs → lv_has ls 2 [(0, .ref a_p0)] → W p l e rm_X4_admit s m ([.ref a_p0, .int x1] : List Value).toArray below meth c H locs 0 0 Q (F0 m 19 ls []) := by
    intro j2 h H locs ls hP hD hS hl
    have h := pw_jk1 hk3 h
    refine lv_aload_n hx hb dX4_admit_19 rfl (lv_at hl 0 rfl) ?_
    refine lv_dup hx hb dX4_admit_20 rfl ?_
    refine va_get (D := (dC, dI)) (ci := 3) (v := .int p0_people) (C := RX4) (T := TX4) (N := 10) hx hb hts li_X4_admit_X4 hown hK hP 0 rfl rfl 3 (by decide) (hts _ lk_X4_admit_21) (fun _ h9 => h9) rfl dX4_admit_21 ?_
    refine lv_iconst (v := 1) hx hb dX4_admit_24 (by decide) ?_
    refine lv_iadd hx hb dX4_admit_25 ?_
    refine lv_topi (fun v5 ev5 => ?_)
    have h := pw_lt_e ev5 h
    refine va_put (D := (dC, dI)) (ci := 3) (v := .int v5) (ty := .int) (C := RX4) (T := TX4) (N := 10) hx hb hts li_X4_admit_X4 tyX4 tyX4_ok nmX4 hown hK hP hD hS 0 rfl rfl 3 (by decide) (hts _ lk_X4_admit_21) (fun _ h9 => h9) rfl (by decide +kernel) rfl rfl (Nat.le_of_ble_eq_true rfl) dX4_admit_26 (fun H locs hP hD hS => ?_)
    have hP : va_P (dC, dI) vwCl [(a_p0, .inr (3, [.int p0_round, .int p0_byTurns, .int p0_apart, .int v5, .int j2, .long p0_couples, .long p0_quarrels, .long p0_togethers, .long p0_barred, .ref a_p0_worths]))] H := hP
    have hD : va_D A [(a_p0, .inr (3, [.int p0_round, .int p0_byTurns, .int p0_apart, .int v5, .int j2, .long p0_couples, .long p0_quarrels, .long p0_togethers, .long p0_barred, .ref a_p0_worths]))] := hD
    rw [hQ]
    exact W.vret hx hb hr (fun t ht hW => ⟨⟨(v5, j2), rfl, hc.trans h.symm, by rw [ht]; exact hP, va_K.moved hW.alike hK, hD⟩, hS.F ht⟩) hS.2.2 dX4_admit_29
  refine lv_if_eq (tgt := 19) hx hb dX4_admit_1 (by decide) (fun c1 => ?_) (fun c1 => ?_)
  · have h := pw_cd_p c1 h
    have hl := lv_sub (l' := [(0, .ref a_p0)]) hl [0] rfl
    exact K4 p0_women h _ locs ls hP hD hS hl
  · have h := pw_cd_n c1 h
    refine lv_aload_n hx hb dX4_admit_4 rfl (lv_at hl 0 rfl) ?_
    refine lv_dup hx hb dX4_admit_5 rfl ?_
    refine va_get (D := (dC, dI)) (ci := 3) (v := .int p0_women) (C := RX4) (T := TX4) (N := 10) hx hb hts li_X4_admit_X4 hown hK hP 0 rfl rfl 4 (by decide) (hts _ lk_X4_admit_25) (fun _ h9 => h9) rfl dX4_admit_6 ?_
    refine lv_iconst (v := 1) hx hb dX4_admit_9 (by decide) ?_
    refine lv_aload_n hx hb dX4_admit_10 rfl (lv_at hl 0 rfl) ?_
    refine va_get (D := (dC, dI)) (ci := 3) (v := .int p0_people) (C := RX4) (T := TX4) (N := 10) hx hb hts li_X4_admit_X4 hown hK hP 0 rfl rfl 3 (by decide) (hts _ lk_X4_admit_21) (fun _ h9 => h9) rfl dX4_admit_11 ?_
    refine lv_ishl hx hb dX4_admit_14 ?_
    refine lv_ior hx hb dX4_admit_15 ?_
    refine lv_topi (fun v6 ev6 => ?_)
    have h := pw_lt_e ev6 h
    refine va_put (D := (dC, dI)) (ci := 3) (v := .int v6) (ty := .int) (C := RX4) (T := TX4) (N := 10) hx hb hts li_X4_admit_X4 tyX4 tyX4_ok nmX4 hown hK hP hD hS 0 rfl rfl 4 (by decide) (hts _ lk_X4_admit_25) (fun _ h9 => h9) rfl (by decide +kernel) rfl rfl (Nat.le_of_ble_eq_true rfl) dX4_admit_16 (fun H locs hP hD hS => ?_)
    have hP : va_P (dC, dI) vwCl [(a_p0, .inr (3, [.int p0_round, .int p0_byTurns, .int p0_apart, .int p0_people, .int v6, .long p0_couples, .long p0_quarrels, .long p0_togethers, .long p0_barred, .ref a_p0_worths]))] H := hP
    have hD : va_D A [(a_p0, .inr (3, [.int p0_round, .int p0_byTurns, .int p0_apart, .int p0_people, .int v6, .long p0_couples, .long p0_quarrels, .long p0_togethers, .long p0_barred, .ref a_p0_worths]))] := hD
    have hl := lv_sub (l' := [(0, .ref a_p0)]) hl [0] rfl
    exact K4 v6 h _ locs ls hP hD hS hl
/-! X4_admitCouple -/
theorem li_X4_admitCouple_X4 : ∀ w ∈ u_ws RX4 TX4 10, w ∈ wsX4_admitCouple := fun w h => List.mem_cons_of_mem _ (List.mem_append_right _ h)
theorem lk_X4_admitCouple_28 : Cond.fieldLink RX4 28 "NoWifeBeside$Party" "couples" "J" ∈ wsX4_admitCouple := by decide +kernel
theorem lk_X4_admitCouple_21 : Cond.fieldLink RX4 21 "NoWifeBeside$Party" "people" "I" ∈ wsX4_admitCouple := by decide +kernel
abbrev rm_X4_admitCouple : Room := { frames := 1, cells := 0, slots := 0, locals := 21 }
set_option maxRecDepth 100000 in
set_option maxHeartbeats 4000000 in
theorem c_X4_admitCouple (l : Launch) (dC : Nat → ClassId) (dI : Nat → Nat → Nat) (cI cZ : ClassId) (sz : Nat) (a_p0 : Nat) (a_p0_worths : Nat) (p0_round : Int32) (p0_byTurns : Int32) (p0_apart : Int32) (p0_people : Int32) (p0_women : Int32) (p0_couples : Int64) (p0_quarrels : Int64) (p0_togethers : Int64) (p0_barred : Int64) (xx : Int32 × Int32 × Int64) (hc : f_X4_admitCouple p0_people p0_women p0_couples = some xx) : Met l yX4_admitCouple wsX4_admitCouple rm_X4_admitCouple (va_Pc [.ref a_p0] (pw_pre (dC, dI) cI cZ [(a_p0, .inr (3, [.int p0_round, .int p0_byTurns, .int p0_apart, .int p0_people, .int p0_women, .long p0_couples, .long p0_quarrels, .long p0_togethers, .long p0_barred, .ref a_p0_worths]))] sz)) (va_Qv (fun (u : Int32 × Int32 × Int64) => f_X4_admitCouple p0_people p0_women p0_couples = some (u.1, u.2.1, u.2.2)) (fun u t => pw_post (dC, dI) cI cZ (va_A [(a_p0, .inr (3, [.int p0_round, .int p0_byTurns, .int p0_apart, .int p0_people, .int p0_women, .long p0_couples, .long p0_quarrels, .long p0_togethers, .long p0_barred, .ref a_p0_worths]))] sz) [(a_p0, .inr (3, [.int p0_round, .int p0_byTurns, .int p0_apart, .int u.1, .int u.2.1, .long u.2.2, .long p0_quarrels, .long p0_togethers, .long p0_barred, .ref a_p0_worths]))] t) (va_A [(a_p0, .inr (3, [.int p0_round, .int p0_byTurns, .int p0_apart, .int p0_people, .int p0_women, .long p0_couples, .long p0_quarrels, .long p0_togethers, .long p0_barred, .ref a_p0_worths]))] sz)) 0 0 (va_A [(a_p0, .inr (3, [.int p0_round, .int p0_byTurns, .int p0_apart, .int p0_people, .int p0_women, .long p0_couples, .long p0_quarrels, .long p0_togethers, .long p0_barred, .ref a_p0_worths]))] sz) := by
  refine Met.ofW (cc := cX4_admitCouple) (maxL := 1) (ret := none) (by decide) rfl ?_
  intro p e s m args below meth c s₁ B hml hv
  obtain ⟨rfl, hsz, hP, hK, hD0⟩ := hv
  have hx := B.exec
  have hb := B.bytes
  have hr := B.returns
  have hts := atoms_spec (ws := wsX4_admitCouple) B.pre
  have hown : s.vm.findClass RX4 = some m.cls := findClass_of_methodNamed B.named
  have hlocks := B.notSynchronized
  subst hsz
  have hD := hD0.self (sz := s.heap.size)
  generalize hAe : va_A [(a_p0, .inr (3, [.int p0_round, .int p0_byTurns, .int p0_apart, .int p0_people, .int p0_women, .long p0_couples, .long p0_quarrels, .long p0_togethers, .long p0_barred, .ref a_p0_worths]))] s.heap.size = A at hD ⊢
  have hA : ∀ q : Nat, s.heap.size ≤ q → A q := fun q h => by rw [← hAe]; exact Or.inr h
  have hS : va_S A s.heap s.heap [] := va_S.rf
  have hP : va_P (dC, dI) vwCl [(a_p0, .inr (3, [.int p0_round, .int p0_byTurns, .int p0_apart, .int p0_people, .int p0_women, .long p0_couples, .long p0_quarrels, .long p0_togethers, .long p0_barred, .ref a_p0_worths]))] s.heap := hP
  have hl := lv_entry ([.ref a_p0]) (n := 1) (Nat.le_of_ble_eq_true rfl)
  rw [lg_entry_eq]
  generalize (lg_sl ([.ref a_p0]) ++ List.replicate (1 - (lg_sl ([.ref a_p0])).length) Slot.unset).toArray = ls at hl ⊢
  have hl : lv_has ls 1 [(0, .ref a_p0)] := hl
  refine pw_Wq (R := rm_X4_admitCouple) (fun Q hQ => ?_)
  obtain ⟨locs, elocs⟩ : ∃ y : List Loc, y = [] := ⟨_, rfl⟩
  rw [← elocs] at hS ⊢
  have h := hc
  unfold f_X4_admitCouple at h
  refine lv_aload_n hx hb dX4_admitCouple_0 rfl (lv_at hl 0 rfl) ?_
  refine lv_dup hx hb dX4_admitCouple_1 rfl ?_
  refine va_get (D := (dC, dI)) (ci := 3) (v := .long p0_couples) (C := RX4) (T := TX4) (N := 10) hx hb hts li_X4_admitCouple_X4 hown hK hP 0 rfl rfl 5 (by decide) (hts _ lk_X4_admitCouple_28) (fun _ h9 => h9) rfl dX4_admitCouple_2 ?_
  refine lv_aload_n hx hb dX4_admitCouple_5 rfl (lv_at hl 0 rfl) ?_
  refine va_get (D := (dC, dI)) (ci := 3) (v := .int p0_people) (C := RX4) (T := TX4) (N := 10) hx hb hts li_X4_admitCouple_X4 hown hK hP 0 rfl rfl 3 (by decide) (hts _ lk_X4_admitCouple_21) (fun _ h9 => h9) rfl dX4_admitCouple_6 ?_
  refine lv_aload_n hx hb dX4_admitCouple_9 rfl (lv_at hl 0 rfl) ?_
  refine va_get (D := (dC, dI)) (ci := 3) (v := .int p0_people) (C := RX4) (T := TX4) (N := 10) hx hb hts li_X4_admitCouple_X4 hown hK hP 0 rfl rfl 3 (by decide) (hts _ lk_X4_admitCouple_21) (fun _ h9 => h9) rfl dX4_admitCouple_10 ?_
  refine lv_iconst (v := 1) hx hb dX4_admitCouple_13 (by decide) ?_
  refine lv_iadd hx hb dX4_admitCouple_14 ?_
  refine pw_cl (wr := [(a_p0, .inr (3, [.int p0_round, .int p0_byTurns, .int p0_apart, .int p0_people, .int p0_women, .long p0_couples, .long p0_quarrels, .long p0_togethers, .long p0_barred, .ref a_p0_worths]))]) (va_runS (As := [.int p0_people, .int (p0_people + 1)]) (rest := [.long p0_couples, .ref a_p0]) ⟨hx, hb, hml, hown, hts⟩ (c_X3_bothWays l dC dI cI cZ s.heap.size p0_people (p0_people + 1)) (va_cwS 2 hts gX4_admitCouple_X3_bothWays rfl rfl rfl (by decide +kernel) ⟨(Nat.le_of_ble_eq_true rfl), (Nat.le_of_ble_eq_true rfl)⟩) (pw_preS hK hP hD [] rfl rfl (by decide)) rfl rfl hl.1 rfl (lv_room (Nat.le_of_ble_eq_true rfl)) dX4_admitCouple_15 ⟨(Nat.le_of_ble_eq_true rfl), (Nat.le_of_ble_eq_true rfl)⟩) hP hD hS hA [] [0] rfl rfl (by decide) (by decide) (fun r1 u H locs hw hP hD hS => ?_)
  have h := pw_lt_e hw h
  have hP : va_P (dC, dI) vwCl [(a_p0, .inr (3, [.int p0_round, .int p0_byTurns, .int p0_apart, .int p0_people, .int p0_women, .long p0_couples, .long p0_quarrels, .long p0_togethers, .long p0_barred, .ref a_p0_worths]))] H := hP
  have hD : va_D A [(a_p0, .inr (3, [.int p0_round, .int p0_byTurns, .int p0_apart, .int p0_people, .int p0_women, .long p0_couples, .long p0_quarrels, .long p0_togethers, .long p0_barred, .ref a_p0_worths]))] := hD
  refine lv_lor hx hb dX4_admitCouple_18 ?_
  refine lv_topl (fun v4 ev4 => ?_)
  have h := pw_lt_e ev4 h
  refine va_put (D := (dC, dI)) (ci := 3) (v := .long v4) (ty := .long) (C := RX4) (T := TX4) (N := 10) hx hb hts li_X4_admitCouple_X4 tyX4 tyX4_ok nmX4 hown hK hP hD hS 0 rfl rfl 5 (by decide) (hts _ lk_X4_admitCouple_28) (fun _ h9 => h9) rfl (by decide +kernel) rfl rfl (Nat.le_of_ble_eq_true rfl) dX4_admitCouple_19 (fun H locs hP hD hS => ?_)
  have hP : va_P (dC, dI) vwCl [(a_p0, .inr (3, [.int p0_round, .int p0_byTurns, .int p0_apart, .int p0_people, .int p0_women, .long v4, .long p0_quarrels, .long p0_togethers, .long p0_barred, .ref a_p0_worths]))] H := hP
  have hD : va_D A [(a_p0, .inr (3, [.int p0_round, .int p0_byTurns, .int p0_apart, .int p0_people, .int p0_women, .long v4, .long p0_quarrels, .long p0_togethers, .long p0_barred, .ref a_p0_worths]))] := hD
  refine lv_aload_n hx hb dX4_admitCouple_22 rfl (lv_at hl 0 rfl) ?_
  refine lv_iconst (v := 1) hx hb dX4_admitCouple_23 (by decide) ?_
  obtain ⟨xx7, hc6, h⟩ := pw_bd_e h
  refine pw_cv (wr := []) (va_runV (As := [.int 1]) (rest := []) ⟨hx, hb, hml, hown, hts⟩ (c_X4_admit l dC dI cI cZ H.size a_p0 a_p0_worths p0_round p0_byTurns p0_apart p0_people p0_women v4 p0_quarrels p0_togethers p0_barred 1 xx7 hc6) (cwV 1 hts gX4_admitCouple_X4_admit rfl rfl rfl (by decide +kernel) ⟨(Nat.le_of_ble_eq_true rfl), (Nat.le_of_ble_eq_true rfl)⟩) (pw_preV hK hP hD [0] rfl rfl (by decide) 3 rfl rfl) rfl rfl hl.1 rfl (lv_room (Nat.le_of_ble_eq_true rfl)) dX4_admitCouple_24 ⟨(Nat.le_of_ble_eq_true rfl), (Nat.le_of_ble_eq_true rfl)⟩) hP hD hS hA [0] [] rfl rfl (by decide) (by decide) (fun u H locs hw hP hD hS => ?_)
  obtain ⟨o8, o9⟩ := u
  have ex : (o8, o9) = xx7 := Option.some.inj (hw.symm.trans hc6)
  subst ex
  have h := pw_u2_e h
  have hP : va_P (dC, dI) vwCl [(a_p0, .inr (3, [.int p0_round, .int p0_byTurns, .int p0_apart, .int o8, .int o9, .long v4, .long p0_quarrels, .long p0_togethers, .long p0_barred, .ref a_p0_worths]))] H := hP
  have hD : va_D A [(a_p0, .inr (3, [.int p0_round, .int p0_byTurns, .int p0_apart, .int o8, .int o9, .long v4, .long p0_quarrels, .long p0_togethers, .long p0_barred, .ref a_p0_worths]))] := hD
  refine lv_aload_n hx hb dX4_admitCouple_27 rfl (lv_at hl 0 rfl) ?_
  refine lv_iconst (v := 0) hx hb dX4_admitCouple_28 (by decide) ?_
  obtain ⟨xx12, hc11, h⟩ := pw_bd_e h
  refine pw_cv (wr := []) (va_runV (As := [.int 0]) (rest := []) ⟨hx, hb, hml, hown, hts⟩ (c_X4_admit l dC dI cI cZ H.size a_p0 a_p0_worths p0_round p0_byTurns p0_apart o8 o9 v4 p0_quarrels p0_togethers p0_barred 0 xx12 hc11) (cwV 1 hts gX4_admitCouple_X4_admit rfl rfl rfl (by decide +kernel) ⟨(Nat.le_of_ble_eq_true rfl), (Nat.le_of_ble_eq_true rfl)⟩) (pw_preV hK hP hD [0] rfl rfl (by decide) 3 rfl rfl) rfl rfl hl.1 rfl (lv_room (Nat.le_of_ble_eq_true rfl)) dX4_admitCouple_29 ⟨(Nat.le_of_ble_eq_true rfl), (Nat.le_of_ble_eq_true rfl)⟩) hP hD hS hA [0] [] rfl rfl (by decide) (by decide) (fun u H locs hw hP hD hS => ?_)
  obtain ⟨o13, o14⟩ := u
  have ex : (o13, o14) = xx12 := Option.some.inj (hw.symm.trans hc11)
  subst ex
  have h := pw_u2_e h
  have hP : va_P (dC, dI) vwCl [(a_p0, .inr (3, [.int p0_round, .int p0_byTurns, .int p0_apart, .int o13, .int o14, .long v4, .long p0_quarrels, .long p0_togethers, .long p0_barred, .ref a_p0_worths]))] H := hP
  have hD : va_D A [(a_p0, .inr (3, [.int p0_round, .int p0_byTurns, .int p0_apart, .int o13, .int o14, .long v4, .long p0_quarrels, .long p0_togethers, .long p0_barred, .ref a_p0_worths]))] := hD
  rw [hQ]
  exact W.vret hx hb hr (fun t ht hW => ⟨⟨(o13, o14, v4), rfl, hc.trans h.symm, by rw [ht]; exact hP, va_K.moved hW.alike hK, hD⟩, hS.F ht⟩) hS.2.2 dX4_admitCouple_32
/-! X4_alike -/
theorem li_X4_alike_X4 : ∀ w ∈ u_ws RX4 TX4 10, w ∈ wsX4_alike := fun w h => List.mem_cons_of_mem _ (List.mem_append_right _ h)
theorem lk_X4_alike_21 : Cond.fieldLink RX4 21 "NoWifeBeside$Party" "people" "I" ∈ wsX4_alike := by decide +kernel
abbrev rm_X4_alike : Room := { frames := 1, cells := 0, slots := 0, locals := 21 }
set_option maxRecDepth 100000 in
set_option maxHeartbeats 4000000 in
theorem lw_X4_alike_21 {p : Program} {l : Launch} {e : Env} {s : State} {m : MethodId} {args : Array Value} {below : List Frame} {meth : Method} {c : Code} {Q : State → Prop} {dC : Nat → ClassId} {dI : Nat → Nat → Nat} {cI cZ : ClassId} {A : Nat → Prop} (hx : p.tables.exec = Jvm.exec) (hb : c.code = cX4_alike) (hml : c.maxLocals = 5) (hown : s.vm.findClass RX4 = some m.cls) (hts : ∀ w ∈ wsX4_alike, w.before args s = true) (hA : ∀ q : Nat, s.heap.size ≤ q → A q) (hK : va_K (dC, dI) vwCl [(cI, .int), (cZ, .boolean)] s) (a_p0 : Nat) (a_p0_worths : Nat) (l3 : Int32) (p0_round : Int32) (p0_byTurns : Int32) (p0_apart : Int32) (p0_people : Int32) (p0_women : Int32) (p0_couples : Int64) (p0_quarrels : Int64) (p0_togethers : Int64) (p0_barred : Int64) :
    ∀ (n : Nat) (l1 : Int64) (l4 : Int32) (xx : Int64), lf_X4_alike_21 l3 p0_women n l1 l4 = some xx → ((∀ (e_l1 : Int64), e_l1 = xx → ∀ (H : Heap) (locs : List Loc) (ls : Array Slot), va_P (dC, dI) vwCl [(a_p0, .inr (3, [.int p0_round, .int p0_byTurns, .int p0_apart, .int p0_people, .int p0_women, .long p0_couples, .long p0_quarrels, .long p0_togethers, .long p0_barred, .ref a_p0_worths]))] H → va_D A [(a_p0, .inr (3, [.int p0_round, .int p0_byTurns, .int p0_apart, .int p0_people, .int p0_women, .long p0_couples, .long p0_quarrels, .long p0_togethers, .long p0_barred, .ref a_p0_worths]))] → va_S A s.heap H locs → lv_has ls 5 [(0, .ref a_p0), (1, .long e_l1), (3, .int l3)] → W p l e rm_X4_alike s m args below meth c H locs 0 0 Q (F0 m 56 ls []))) → ∀ (H : Heap) (locs : List Loc) (ls : Array Slot), va_P (dC, dI) vwCl [(a_p0, .inr (3, [.int p0_round, .int p0_byTurns, .int p0_apart, .int p0_people, .int p0_women, .long p0_couples, .long p0_quarrels, .long p0_togethers, .long p0_barred, .ref a_p0_worths]))] H → va_D A [(a_p0, .inr (3, [.int p0_round, .int p0_byTurns, .int p0_apart, .int p0_people, .int p0_women, .long p0_couples, .long p0_quarrels, .long p0_togethers, .long p0_barred, .ref a_p0_worths]))] → va_S A s.heap H locs → lv_has ls 5 [(0, .ref a_p0), (1, .long l1), (3, .int l3), (4, .int l4)] → W p l e rm_X4_alike s m args below meth c H locs 0 0 Q (F0 m 21 ls []) := by
  intro n
  induction n with
  | zero =>
    intro l1 l4 xx h
    rw [lf_X4_alike_21] at h
    cases h
  | succ n ih =>
    intro l1 l4 xx h KK H locs ls hP hD hS hl
    rw [lf_X4_alike_21] at h
    refine lv_iload hx hb dX4_alike_21 (lv_at hl 3 rfl) ?_
    refine lv_iload_n hx hb dX4_alike_23 rfl (lv_at hl 2 rfl) ?_
    refine lv_icmp_ge (tgt := 56) hx hb dX4_alike_24 (by decide) (fun c3 => ?_) (fun c3 => ?_)
    · have h := pw_cd_p c3 h
      have hl := lv_sub (l' := [(0, .ref a_p0), (1, .long l1), (3, .int l3)]) hl [0, 1, 2] rfl
      exact KK l1 (Option.some.inj h) _ locs ls hP hD hS hl
    · have h := pw_cd_n c3 h
      refine lv_aload_n hx hb dX4_alike_27 rfl (lv_at hl 0 rfl) ?_
      refine lv_iload_n hx hb dX4_alike_28 rfl (lv_at hl 2 rfl) ?_
      refine pw_ci (wr := []) (va_runV (As := [.int l3]) (rest := []) ⟨hx, hb, hml, hown, hts⟩ (c_X4_isWoman l dC dI cI cZ H.size a_p0 a_p0_worths p0_round p0_byTurns p0_apart p0_people p0_women p0_couples p0_quarrels p0_togethers p0_barred l3) (cwV 1 hts gX4_alike_X4_isWoman rfl rfl rfl (by decide +kernel) ⟨(Nat.le_of_ble_eq_true rfl), (Nat.le_of_ble_eq_true rfl)⟩) (pw_preV hK hP hD [0] rfl rfl (by decide) 3 rfl rfl) rfl rfl hl.1 rfl (lv_room (Nat.le_of_ble_eq_true rfl)) dX4_alike_29 ⟨(Nat.le_of_ble_eq_true rfl), (Nat.le_of_ble_eq_true rfl)⟩) hP hD hS hA [0] [] rfl rfl (by decide) (by decide) (fun r4 u H locs hw hP hD hS => ?_)
      have h := pw_lt_e hw h
      have hP : va_P (dC, dI) vwCl [(a_p0, .inr (3, [.int p0_round, .int p0_byTurns, .int p0_apart, .int p0_people, .int p0_women, .long p0_couples, .long p0_quarrels, .long p0_togethers, .long p0_barred, .ref a_p0_worths]))] H := hP
      have hD : va_D A [(a_p0, .inr (3, [.int p0_round, .int p0_byTurns, .int p0_apart, .int p0_people, .int p0_women, .long p0_couples, .long p0_quarrels, .long p0_togethers, .long p0_barred, .ref a_p0_worths]))] := hD
      refine lv_aload_n hx hb dX4_alike_32 rfl (lv_at hl 0 rfl) ?_
      refine lv_iload hx hb dX4_alike_33 (lv_at hl 3 rfl) ?_
      refine pw_ci (wr := []) (va_runV (As := [.int l4]) (rest := [.int r4]) ⟨hx, hb, hml, hown, hts⟩ (c_X4_isWoman l dC dI cI cZ H.size a_p0 a_p0_worths p0_round p0_byTurns p0_apart p0_people p0_women p0_couples p0_quarrels p0_togethers p0_barred l4) (cwV 1 hts gX4_alike_X4_isWoman rfl rfl rfl (by decide +kernel) ⟨(Nat.le_of_ble_eq_true rfl), (Nat.le_of_ble_eq_true rfl)⟩) (pw_preV hK hP hD [0] rfl rfl (by decide) 3 rfl rfl) rfl rfl hl.1 rfl (lv_room (Nat.le_of_ble_eq_true rfl)) dX4_alike_35 ⟨(Nat.le_of_ble_eq_true rfl), (Nat.le_of_ble_eq_true rfl)⟩) hP hD hS hA [0] [] rfl rfl (by decide) (by decide) (fun r7 u H locs hw hP hD hS => ?_)
      have h := pw_lt_e hw h
      have hP : va_P (dC, dI) vwCl [(a_p0, .inr (3, [.int p0_round, .int p0_byTurns, .int p0_apart, .int p0_people, .int p0_women, .long p0_couples, .long p0_quarrels, .long p0_togethers, .long p0_barred, .ref a_p0_worths]))] H := hP
      have hD : va_D A [(a_p0, .inr (3, [.int p0_round, .int p0_byTurns, .int p0_apart, .int p0_people, .int p0_women, .long p0_couples, .long p0_quarrels, .long p0_togethers, .long p0_barred, .ref a_p0_worths]))] := hD
      refine lv_icmp_ne (tgt := 50) hx hb dX4_alike_38 (by decide) (fun c10 => ?_) (fun c10 => ?_)
      · have h := pw_cd_p c10 h
        refine lv_iinc (v := (l4 + 1)) (lv' := [(4, .int (l4 + 1)), (0, .ref a_p0), (1, .long l1), (3, .int l3)]) hx hb dX4_alike_50 hl (k := 3) rfl rfl (by decide) rfl (fun ls hl => ?_)
        refine lv_goto (tgt := 21) hx hb dX4_alike_53 (by decide) ?_
        have hl := lv_sub (l' := [(0, .ref a_p0), (1, .long l1), (3, .int l3), (4, .int (l4 + 1))]) hl [1, 2, 3, 0] rfl
        exact ih l1 (l4 + 1) xx h KK _ locs ls hP hD hS hl
      · have h := pw_cd_n (fun q => q c10) h
        refine lv_lload_n hx hb dX4_alike_41 rfl (lv_at hl 1 rfl) ?_
        refine lv_iload_n hx hb dX4_alike_42 rfl (lv_at hl 2 rfl) ?_
        refine lv_iload hx hb dX4_alike_43 (lv_at hl 3 rfl) ?_
        refine pw_cl (wr := [(a_p0, .inr (3, [.int p0_round, .int p0_byTurns, .int p0_apart, .int p0_people, .int p0_women, .long p0_couples, .long p0_quarrels, .long p0_togethers, .long p0_barred, .ref a_p0_worths]))]) (va_runS (As := [.int l3, .int l4]) (rest := [.long l1]) ⟨hx, hb, hml, hown, hts⟩ (c_X3_bothWays l dC dI cI cZ H.size l3 l4) (va_cwS 2 hts gX4_alike_X3_bothWays rfl rfl rfl (by decide +kernel) ⟨(Nat.le_of_ble_eq_true rfl), (Nat.le_of_ble_eq_true rfl)⟩) (pw_preS hK hP hD [] rfl rfl (by decide)) rfl rfl hl.1 rfl (lv_room (Nat.le_of_ble_eq_true rfl)) dX4_alike_45 ⟨(Nat.le_of_ble_eq_true rfl), (Nat.le_of_ble_eq_true rfl)⟩) hP hD hS hA [] [0] rfl rfl (by decide) (by decide) (fun r11 u H locs hw hP hD hS => ?_)
        have h := pw_lt_e hw h
        have hP : va_P (dC, dI) vwCl [(a_p0, .inr (3, [.int p0_round, .int p0_byTurns, .int p0_apart, .int p0_people, .int p0_women, .long p0_couples, .long p0_quarrels, .long p0_togethers, .long p0_barred, .ref a_p0_worths]))] H := hP
        have hD : va_D A [(a_p0, .inr (3, [.int p0_round, .int p0_byTurns, .int p0_apart, .int p0_people, .int p0_women, .long p0_couples, .long p0_quarrels, .long p0_togethers, .long p0_barred, .ref a_p0_worths]))] := hD
        refine lv_lor hx hb dX4_alike_48 ?_
        refine lv_topl (fun v14 ev14 => ?_)
        have h := pw_lt_e ev14 h
        refine lv_lstore_n (lv' := [(1, .long v14), (0, .ref a_p0), (3, .int l3), (4, .int l4)]) hx hb dX4_alike_49 rfl hl (by decide) rfl (fun ls hl => ?_)
        refine lv_iinc (v := (l4 + 1)) (lv' := [(4, .int (l4 + 1)), (1, .long v14), (0, .ref a_p0), (3, .int l3)]) hx hb dX4_alike_50 hl (k := 3) rfl rfl (by decide) rfl (fun ls hl => ?_)
        refine lv_goto (tgt := 21) hx hb dX4_alike_53 (by decide) ?_
        have hl := lv_sub (l' := [(0, .ref a_p0), (1, .long v14), (3, .int l3), (4, .int (l4 + 1))]) hl [2, 1, 3, 0] rfl
        exact ih v14 (l4 + 1) xx h KK _ locs ls hP hD hS hl
set_option maxRecDepth 100000 in
set_option maxHeartbeats 4000000 in
theorem lw_X4_alike_4 {p : Program} {l : Launch} {e : Env} {s : State} {m : MethodId} {args : Array Value} {below : List Frame} {meth : Method} {c : Code} {Q : State → Prop} {dC : Nat → ClassId} {dI : Nat → Nat → Nat} {cI cZ : ClassId} {A : Nat → Prop} (hx : p.tables.exec = Jvm.exec) (hb : c.code = cX4_alike) (hml : c.maxLocals = 5) (hown : s.vm.findClass RX4 = some m.cls) (hts : ∀ w ∈ wsX4_alike, w.before args s = true) (hA : ∀ q : Nat, s.heap.size ≤ q → A q) (hK : va_K (dC, dI) vwCl [(cI, .int), (cZ, .boolean)] s) (a_p0 : Nat) (a_p0_worths : Nat) (p0_round : Int32) (p0_byTurns : Int32) (p0_apart : Int32) (p0_people : Int32) (p0_women : Int32) (p0_couples : Int64) (p0_quarrels : Int64) (p0_togethers : Int64) (p0_barred : Int64) :
    ∀ (n : Nat) (l1 : Int64) (l3 : Int32) (xx : Int64), lf_X4_alike_4 p0_people p0_women n l1 l3 = some xx → ((∀ (e_l1 : Int64), e_l1 = xx → ∀ (H : Heap) (locs : List Loc) (ls : Array Slot), va_P (dC, dI) vwCl [(a_p0, .inr (3, [.int p0_round, .int p0_byTurns, .int p0_apart, .int p0_people, .int p0_women, .long p0_couples, .long p0_quarrels, .long p0_togethers, .long p0_barred, .ref a_p0_worths]))] H → va_D A [(a_p0, .inr (3, [.int p0_round, .int p0_byTurns, .int p0_apart, .int p0_people, .int p0_women, .long p0_couples, .long p0_quarrels, .long p0_togethers, .long p0_barred, .ref a_p0_worths]))] → va_S A s.heap H locs → lv_has ls 5 [(1, .long e_l1)] → W p l e rm_X4_alike s m args below meth c H locs 0 0 Q (F0 m 62 ls []))) → ∀ (H : Heap) (locs : List Loc) (ls : Array Slot), va_P (dC, dI) vwCl [(a_p0, .inr (3, [.int p0_round, .int p0_byTurns, .int p0_apart, .int p0_people, .int p0_women, .long p0_couples, .long p0_quarrels, .long p0_togethers, .long p0_barred, .ref a_p0_worths]))] H → va_D A [(a_p0, .inr (3, [.int p0_round, .int p0_byTurns, .int p0_apart, .int p0_people, .int p0_women, .long p0_couples, .long p0_quarrels, .long p0_togethers, .long p0_barred, .ref a_p0_worths]))] → va_S A s.heap H locs → lv_has ls 5 [(0, .ref a_p0), (1, .long l1), (3, .int l3)] → W p l e rm_X4_alike s m args below meth c H locs 0 0 Q (F0 m 4 ls []) := by
  intro n
  induction n with
  | zero =>
    intro l1 l3 xx h
    rw [lf_X4_alike_4] at h
    cases h
  | succ n ih =>
    intro l1 l3 xx h KK H locs ls hP hD hS hl
    rw [lf_X4_alike_4] at h
    refine lv_iload_n hx hb dX4_alike_4 rfl (lv_at hl 2 rfl) ?_
    refine lv_aload_n hx hb dX4_alike_5 rfl (lv_at hl 0 rfl) ?_
    refine va_get (D := (dC, dI)) (ci := 3) (v := .int p0_people) (C := RX4) (T := TX4) (N := 10) hx hb hts li_X4_alike_X4 hown hK hP 0 rfl rfl 3 (by decide) (hts _ lk_X4_alike_21) (fun _ h9 => h9) rfl dX4_alike_6 ?_
    refine lv_icmp_ge (tgt := 62) hx hb dX4_alike_9 (by decide) (fun c1 => ?_) (fun c1 => ?_)
    · have h := pw_cd_p c1 h
      have hl := lv_sub (l' := [(1, .long l1)]) hl [1] rfl
      exact KK l1 (Option.some.inj h) _ locs ls hP hD hS hl
    · have h := pw_cd_n c1 h
      refine lv_iload_n hx hb dX4_alike_12 rfl (lv_at hl 2 rfl) ?_
      refine lv_bipush (v := 7) hx hb dX4_alike_13 (by decide) ?_
      refine lv_icmp_ge (tgt := 62) hx hb dX4_alike_15 (by decide) (fun c2 => ?_) (fun c2 => ?_)
      · have h := pw_cd_p c2 h
        have hl := lv_sub (l' := [(1, .long l1)]) hl [1] rfl
        exact KK l1 (Option.some.inj h) _ locs ls hP hD hS hl
      · have h := pw_cd_n c2 h
        refine lv_iconst (v := 0) hx hb dX4_alike_18 (by decide) ?_
        refine lv_istore (lv' := [(4, .int 0), (0, .ref a_p0), (1, .long l1), (3, .int l3)]) hx hb dX4_alike_19 hl (by decide) rfl (fun ls hl => ?_)
        have hl := lv_sub (l' := [(0, .ref a_p0), (1, .long l1), (3, .int l3), (4, .int 0)]) hl [1, 2, 3, 0] rfl
        obtain ⟨xx15, hL16, h⟩ := pw_bd_e h
        refine lw_X4_alike_21 hx hb hml hown hts hA hK a_p0 a_p0_worths l3 p0_round p0_byTurns p0_apart p0_people p0_women p0_couples p0_quarrels p0_togethers p0_barred pw_FU l1 0 xx15 hL16 ?_ _ locs ls hP hD hS hl
        intro y17 ex H locs ls hP hD hS hl
        subst ex
        have h := pw_u1_e h
        refine lv_iinc (v := (l3 + 1)) (lv' := [(3, .int (l3 + 1)), (0, .ref a_p0), (1, .long y17)]) hx hb dX4_alike_56 hl (k := 2) rfl rfl (by decide) rfl (fun ls hl => ?_)
        refine lv_goto (tgt := 4) hx hb dX4_alike_59 (by decide) ?_
        have hl := lv_sub (l' := [(0, .ref a_p0), (1, .long y17), (3, .int (l3 + 1))]) hl [1, 2, 0] rfl
        exact ih y17 (l3 + 1) xx h KK _ locs ls hP hD hS hl
set_option maxRecDepth 100000 in
set_option maxHeartbeats 4000000 in
theorem c_X4_alike (l : Launch) (dC : Nat → ClassId) (dI : Nat → Nat → Nat) (cI cZ : ClassId) (sz : Nat) (a_p0 : Nat) (a_p0_worths : Nat) (p0_round : Int32) (p0_byTurns : Int32) (p0_apart : Int32) (p0_people : Int32) (p0_women : Int32) (p0_couples : Int64) (p0_quarrels : Int64) (p0_togethers : Int64) (p0_barred : Int64) (xx : Int64) (hc : f_X4_alike p0_people p0_women = some xx) : Met l yX4_alike wsX4_alike rm_X4_alike (va_Pc [.ref a_p0] (pw_pre (dC, dI) cI cZ [(a_p0, .inr (3, [.int p0_round, .int p0_byTurns, .int p0_apart, .int p0_people, .int p0_women, .long p0_couples, .long p0_quarrels, .long p0_togethers, .long p0_barred, .ref a_p0_worths]))] sz)) (va_Ql (fun (r : Int64) (u : Unit) => f_X4_alike p0_people p0_women = some r) (fun u t => pw_post (dC, dI) cI cZ (va_A [(a_p0, .inr (3, [.int p0_round, .int p0_byTurns, .int p0_apart, .int p0_people, .int p0_women, .long p0_couples, .long p0_quarrels, .long p0_togethers, .long p0_barred, .ref a_p0_worths]))] sz) [(a_p0, .inr (3, [.int p0_round, .int p0_byTurns, .int p0_apart, .int p0_people, .int p0_women, .long p0_couples, .long p0_quarrels, .long p0_togethers, .long p0_barred, .ref a_p0_worths]))] t) (va_A [(a_p0, .inr (3, [.int p0_round, .int p0_byTurns, .int p0_apart, .int p0_people, .int p0_women, .long p0_couples, .long p0_quarrels, .long p0_togethers, .long p0_barred, .ref a_p0_worths]))] sz)) 0 0 (va_A [(a_p0, .inr (3, [.int p0_round, .int p0_byTurns, .int p0_apart, .int p0_people, .int p0_women, .long p0_couples, .long p0_quarrels, .long p0_togethers, .long p0_barred, .ref a_p0_worths]))] sz) := by
  refine Met.ofW (cc := cX4_alike) (maxL := 5) (ret := (some .long)) (by decide) rfl ?_
  intro p e s m args below meth c s₁ B hml hv
  obtain ⟨rfl, hsz, hP, hK, hD0⟩ := hv
  have hx := B.exec
  have hb := B.bytes
  have hr := B.returns
  have hts := atoms_spec (ws := wsX4_alike) B.pre
  have hown : s.vm.findClass RX4 = some m.cls := findClass_of_methodNamed B.named
  have hlocks := B.notSynchronized
  subst hsz
  have hD := hD0.self (sz := s.heap.size)
  generalize hAe : va_A [(a_p0, .inr (3, [.int p0_round, .int p0_byTurns, .int p0_apart, .int p0_people, .int p0_women, .long p0_couples, .long p0_quarrels, .long p0_togethers, .long p0_barred, .ref a_p0_worths]))] s.heap.size = A at hD ⊢
  have hA : ∀ q : Nat, s.heap.size ≤ q → A q := fun q h => by rw [← hAe]; exact Or.inr h
  have hS : va_S A s.heap s.heap [] := va_S.rf
  have hP : va_P (dC, dI) vwCl [(a_p0, .inr (3, [.int p0_round, .int p0_byTurns, .int p0_apart, .int p0_people, .int p0_women, .long p0_couples, .long p0_quarrels, .long p0_togethers, .long p0_barred, .ref a_p0_worths]))] s.heap := hP
  have hl := lv_entry ([.ref a_p0]) (n := 5) (Nat.le_of_ble_eq_true rfl)
  rw [lg_entry_eq]
  generalize (lg_sl ([.ref a_p0]) ++ List.replicate (5 - (lg_sl ([.ref a_p0])).length) Slot.unset).toArray = ls at hl ⊢
  have hl : lv_has ls 5 [(0, .ref a_p0)] := hl
  refine pw_Wq (R := rm_X4_alike) (fun Q hQ => ?_)
  obtain ⟨locs, elocs⟩ : ∃ y : List Loc, y = [] := ⟨_, rfl⟩
  rw [← elocs] at hS ⊢
  have h := hc
  unfold f_X4_alike at h
  refine lv_lconst (v := 0) hx hb dX4_alike_0 (by decide) ?_
  refine lv_lstore_n (lv' := [(1, .long 0), (0, .ref a_p0)]) hx hb dX4_alike_1 rfl hl (by decide) rfl (fun ls hl => ?_)
  refine lv_iconst (v := 0) hx hb dX4_alike_2 (by decide) ?_
  refine lv_istore_n (lv' := [(3, .int 0), (1, .long 0), (0, .ref a_p0)]) hx hb dX4_alike_3 rfl hl (by decide) rfl (fun ls hl => ?_)
  have hl := lv_sub (l' := [(0, .ref a_p0), (1, .long 0), (3, .int 0)]) hl [2, 1, 0] rfl
  obtain ⟨xx18, hL19, h⟩ := pw_bd_e h
  refine lw_X4_alike_4 hx hb hml hown hts hA hK a_p0 a_p0_worths p0_round p0_byTurns p0_apart p0_people p0_women p0_couples p0_quarrels p0_togethers p0_barred pw_FU 0 0 xx18 hL19 ?_ _ locs ls hP hD hS hl
  intro y20 ex H locs ls hP hD hS hl
  subst ex
  have h := pw_u1_e h
  refine lv_lload_n hx hb dX4_alike_62 rfl (lv_at hl 0 rfl) ?_
  rw [hQ]
  exact W.lret (v := y20) hx hb hr (fun t ht hW => ⟨⟨y20, (), rfl, hc.trans h.symm, by rw [ht]; exact hP, va_K.moved hW.alike hK, hD⟩, hS.F ht⟩) hS.2.2 dX4_alike_63
/-! X4_settleWhoIsBarred -/
theorem li_X4_settleWhoIsBarred_X4 : ∀ w ∈ u_ws RX4 TX4 10, w ∈ wsX4_settleWhoIsBarred := fun w h => List.mem_cons_of_mem _ (List.mem_append_right _ h)
theorem lk_X4_settleWhoIsBarred_32 : Cond.fieldLink RX4 32 "NoWifeBeside$Party" "quarrels" "J" ∈ wsX4_settleWhoIsBarred := by decide +kernel
theorem lk_X4_settleWhoIsBarred_38 : Cond.fieldLink RX4 38 "NoWifeBeside$Party" "barred" "J" ∈ wsX4_settleWhoIsBarred := by decide +kernel
theorem lk_X4_settleWhoIsBarred_18 : Cond.fieldLink RX4 18 "NoWifeBeside$Party" "apart" "Z" ∈ wsX4_settleWhoIsBarred := by decide +kernel
theorem lk_X4_settleWhoIsBarred_15 : Cond.fieldLink RX4 15 "NoWifeBeside$Party" "byTurns" "Z" ∈ wsX4_settleWhoIsBarred := by decide +kernel
theorem lk_X4_settleWhoIsBarred_28 : Cond.fieldLink RX4 28 "NoWifeBeside$Party" "couples" "J" ∈ wsX4_settleWhoIsBarred := by decide +kernel
abbrev rm_X4_settleWhoIsBarred : Room := { frames := 2, cells := 0, slots := 0, locals := 45 }
set_option maxRecDepth 100000 in
set_option maxHeartbeats 4000000 in
theorem c_X4_settleWhoIsBarred (l : Launch) (dC : Nat → ClassId) (dI : Nat → Nat → Nat) (cI cZ : ClassId) (sz : Nat) (a_p0 : Nat) (a_p0_worths : Nat) (p0_round : Int32) (p0_byTurns : Int32) (p0_apart : Int32) (p0_people : Int32) (p0_women : Int32) (p0_couples : Int64) (p0_quarrels : Int64) (p0_togethers : Int64) (p0_barred : Int64) (xx : Int64) (hc : f_X4_settleWhoIsBarred p0_byTurns p0_apart p0_people p0_women p0_couples p0_quarrels = some xx) : Met l yX4_settleWhoIsBarred wsX4_settleWhoIsBarred rm_X4_settleWhoIsBarred (va_Pc [.ref a_p0] (pw_pre (dC, dI) cI cZ [(a_p0, .inr (3, [.int p0_round, .int p0_byTurns, .int p0_apart, .int p0_people, .int p0_women, .long p0_couples, .long p0_quarrels, .long p0_togethers, .long p0_barred, .ref a_p0_worths]))] sz)) (va_Qv (fun (u : Int64) => f_X4_settleWhoIsBarred p0_byTurns p0_apart p0_people p0_women p0_couples p0_quarrels = some u) (fun u t => pw_post (dC, dI) cI cZ (va_A [(a_p0, .inr (3, [.int p0_round, .int p0_byTurns, .int p0_apart, .int p0_people, .int p0_women, .long p0_couples, .long p0_quarrels, .long p0_togethers, .long p0_barred, .ref a_p0_worths]))] sz) [(a_p0, .inr (3, [.int p0_round, .int p0_byTurns, .int p0_apart, .int p0_people, .int p0_women, .long p0_couples, .long p0_quarrels, .long p0_togethers, .long u, .ref a_p0_worths]))] t) (va_A [(a_p0, .inr (3, [.int p0_round, .int p0_byTurns, .int p0_apart, .int p0_people, .int p0_women, .long p0_couples, .long p0_quarrels, .long p0_togethers, .long p0_barred, .ref a_p0_worths]))] sz)) 0 0 (va_A [(a_p0, .inr (3, [.int p0_round, .int p0_byTurns, .int p0_apart, .int p0_people, .int p0_women, .long p0_couples, .long p0_quarrels, .long p0_togethers, .long p0_barred, .ref a_p0_worths]))] sz) := by
  refine Met.ofW (cc := cX4_settleWhoIsBarred) (maxL := 1) (ret := none) (by decide) rfl ?_
  intro p e s m args below meth c s₁ B hml hv
  obtain ⟨rfl, hsz, hP, hK, hD0⟩ := hv
  have hx := B.exec
  have hb := B.bytes
  have hr := B.returns
  have hts := atoms_spec (ws := wsX4_settleWhoIsBarred) B.pre
  have hown : s.vm.findClass RX4 = some m.cls := findClass_of_methodNamed B.named
  have hlocks := B.notSynchronized
  subst hsz
  have hD := hD0.self (sz := s.heap.size)
  generalize hAe : va_A [(a_p0, .inr (3, [.int p0_round, .int p0_byTurns, .int p0_apart, .int p0_people, .int p0_women, .long p0_couples, .long p0_quarrels, .long p0_togethers, .long p0_barred, .ref a_p0_worths]))] s.heap.size = A at hD ⊢
  have hA : ∀ q : Nat, s.heap.size ≤ q → A q := fun q h => by rw [← hAe]; exact Or.inr h
  have hS : va_S A s.heap s.heap [] := va_S.rf
  have hP : va_P (dC, dI) vwCl [(a_p0, .inr (3, [.int p0_round, .int p0_byTurns, .int p0_apart, .int p0_people, .int p0_women, .long p0_couples, .long p0_quarrels, .long p0_togethers, .long p0_barred, .ref a_p0_worths]))] s.heap := hP
  have hl := lv_entry ([.ref a_p0]) (n := 1) (Nat.le_of_ble_eq_true rfl)
  rw [lg_entry_eq]
  generalize (lg_sl ([.ref a_p0]) ++ List.replicate (1 - (lg_sl ([.ref a_p0])).length) Slot.unset).toArray = ls at hl ⊢
  have hl : lv_has ls 1 [(0, .ref a_p0)] := hl
  refine pw_Wq (R := rm_X4_settleWhoIsBarred) (fun Q hQ => ?_)
  obtain ⟨locs, elocs⟩ : ∃ y : List Loc, y = [] := ⟨_, rfl⟩
  rw [← elocs] at hS ⊢
  have h := hc
  unfold f_X4_settleWhoIsBarred at h
  refine lv_aload_n hx hb dX4_settleWhoIsBarred_0 rfl (lv_at hl 0 rfl) ?_
  refine lv_aload_n hx hb dX4_settleWhoIsBarred_1 rfl (lv_at hl 0 rfl) ?_
  refine va_get (D := (dC, dI)) (ci := 3) (v := .long p0_quarrels) (C := RX4) (T := TX4) (N := 10) hx hb hts li_X4_settleWhoIsBarred_X4 hown hK hP 0 rfl rfl 6 (by decide) (hts _ lk_X4_settleWhoIsBarred_32) (fun _ h9 => h9) rfl dX4_settleWhoIsBarred_2 ?_
  refine va_put (D := (dC, dI)) (ci := 3) (v := .long p0_quarrels) (ty := .long) (C := RX4) (T := TX4) (N := 10) hx hb hts li_X4_settleWhoIsBarred_X4 tyX4 tyX4_ok nmX4 hown hK hP hD hS 0 rfl rfl 8 (by decide) (hts _ lk_X4_settleWhoIsBarred_38) (fun _ h9 => h9) rfl (by decide +kernel) rfl rfl (Nat.le_of_ble_eq_true rfl) dX4_settleWhoIsBarred_5 (fun H locs hP hD hS => ?_)
  have hP : va_P (dC, dI) vwCl [(a_p0, .inr (3, [.int p0_round, .int p0_byTurns, .int p0_apart, .int p0_people, .int p0_women, .long p0_couples, .long p0_quarrels, .long p0_togethers, .long p0_quarrels, .ref a_p0_worths]))] H := hP
  have hD : va_D A [(a_p0, .inr (3, [.int p0_round, .int p0_byTurns, .int p0_apart, .int p0_people, .int p0_women, .long p0_couples, .long p0_quarrels, .long p0_togethers, .long p0_quarrels, .ref a_p0_worths]))] := hD
  refine lv_aload_n hx hb dX4_settleWhoIsBarred_8 rfl (lv_at hl 0 rfl) ?_
  refine va_get (D := (dC, dI)) (ci := 3) (v := .int p0_apart) (C := RX4) (T := TX4) (N := 10) hx hb hts li_X4_settleWhoIsBarred_X4 hown hK hP 0 rfl rfl 2 (by decide) (hts _ lk_X4_settleWhoIsBarred_18) (fun _ h9 => h9) rfl dX4_settleWhoIsBarred_9 ?_
  obtain ⟨k3, hk3, h⟩ := pw_jn_e h
  have K4 : ∀ (j2 : Int64), k3 j2 = some xx → ∀ (H : Heap) (locs : List Loc) (ls : Array Slot), va_P (dC, dI) vwCl [(a_p0, .inr (3, [.int p0_round, .int p0_byTurns, .int p0_apart, .int p0_people, .int p0_women, .long p0_couples, .long p0_quarrels, .long p0_togethers, .long j2, .ref a_p0_worths]))] H → va_D A [(a_p0, .inr (3, [.int p0_round, .int p0_byTurns, .int p0_apart, .int p0_people, .int p0_women, .long p0_couples, .long p0_quarrels, .long p0_togethers, .long j2, .ref a_p0_worths]))] → va_S A s.heap H locs → lv_has ls 1 [(0, .ref a_p0)] → W p l e rm_X4_settleWhoIsBarred s m ([.ref a_p0] : List Value).toArray below meth c H locs 0 0 Q (F0 m 28 ls []) := by
    intro j2 h H locs ls hP hD hS hl
    have h := pw_jk1 hk3 h
    refine lv_aload_n hx hb dX4_settleWhoIsBarred_28 rfl (lv_at hl 0 rfl) ?_
    refine va_get (D := (dC, dI)) (ci := 3) (v := .int p0_byTurns) (C := RX4) (T := TX4) (N := 10) hx hb hts li_X4_settleWhoIsBarred_X4 hown hK hP 0 rfl rfl 1 (by decide) (hts _ lk_X4_settleWhoIsBarred_15) (fun _ h9 => h9) rfl dX4_settleWhoIsBarred_29 ?_
    refine lv_if_eq (tgt := 48) hx hb dX4_settleWhoIsBarred_32 (by decide) (fun c5 => ?_) (fun c5 => ?_)
    · have h := pw_cd_p c5 h
      rw [hQ]
      exact W.vret hx hb hr (fun t ht hW => ⟨⟨j2, rfl, hc.trans h.symm, by rw [ht]; exact hP, va_K.moved hW.alike hK, hD⟩, hS.F ht⟩) hS.2.2 dX4_settleWhoIsBarred_48
    · have h := pw_cd_n c5 h
      refine lv_aload_n hx hb dX4_settleWhoIsBarred_35 rfl (lv_at hl 0 rfl) ?_
      refine lv_dup hx hb dX4_settleWhoIsBarred_36 rfl ?_
      refine va_get (D := (dC, dI)) (ci := 3) (v := .long j2) (C := RX4) (T := TX4) (N := 10) hx hb hts li_X4_settleWhoIsBarred_X4 hown hK hP 0 rfl rfl 8 (by decide) (hts _ lk_X4_settleWhoIsBarred_38) (fun _ h9 => h9) rfl dX4_settleWhoIsBarred_37 ?_
      refine lv_aload_n hx hb dX4_settleWhoIsBarred_40 rfl (lv_at hl 0 rfl) ?_
      obtain ⟨xx8, hc7, h⟩ := pw_bd_e h
      refine pw_cl (wr := []) (va_runV (As := []) (rest := [.long j2, .ref a_p0]) ⟨hx, hb, hml, hown, hts⟩ (c_X4_alike l dC dI cI cZ H.size a_p0 a_p0_worths p0_round p0_byTurns p0_apart p0_people p0_women p0_couples p0_quarrels p0_togethers j2 xx8 hc7) (cwV 0 hts gX4_settleWhoIsBarred_X4_alike rfl rfl rfl (by decide +kernel) ⟨(Nat.le_of_ble_eq_true rfl), (Nat.le_of_ble_eq_true rfl)⟩) (pw_preV hK hP hD [0] rfl rfl (by decide) 3 rfl rfl) rfl rfl hl.1 rfl (lv_room (Nat.le_of_ble_eq_true rfl)) dX4_settleWhoIsBarred_41 ⟨(Nat.le_of_ble_eq_true rfl), (Nat.le_of_ble_eq_true rfl)⟩) hP hD hS hA [0] [] rfl rfl (by decide) (by decide) (fun r6 u H locs hw hP hD hS => ?_)
      have ex : r6 = xx8 := Option.some.inj (hw.symm.trans hc7)
      subst ex
      have h := pw_u1_e h
      have hP : va_P (dC, dI) vwCl [(a_p0, .inr (3, [.int p0_round, .int p0_byTurns, .int p0_apart, .int p0_people, .int p0_women, .long p0_couples, .long p0_quarrels, .long p0_togethers, .long j2, .ref a_p0_worths]))] H := hP
      have hD : va_D A [(a_p0, .inr (3, [.int p0_round, .int p0_byTurns, .int p0_apart, .int p0_people, .int p0_women, .long p0_couples, .long p0_quarrels, .long p0_togethers, .long j2, .ref a_p0_worths]))] := hD
      refine lv_lor hx hb dX4_settleWhoIsBarred_44 ?_
      refine lv_topl (fun v9 ev9 => ?_)
      have h := pw_lt_e ev9 h
      refine va_put (D := (dC, dI)) (ci := 3) (v := .long v9) (ty := .long) (C := RX4) (T := TX4) (N := 10) hx hb hts li_X4_settleWhoIsBarred_X4 tyX4 tyX4_ok nmX4 hown hK hP hD hS 0 rfl rfl 8 (by decide) (hts _ lk_X4_settleWhoIsBarred_38) (fun _ h9 => h9) rfl (by decide +kernel) rfl rfl (Nat.le_of_ble_eq_true rfl) dX4_settleWhoIsBarred_45 (fun H locs hP hD hS => ?_)
      have hP : va_P (dC, dI) vwCl [(a_p0, .inr (3, [.int p0_round, .int p0_byTurns, .int p0_apart, .int p0_people, .int p0_women, .long p0_couples, .long p0_quarrels, .long p0_togethers, .long v9, .ref a_p0_worths]))] H := hP
      have hD : va_D A [(a_p0, .inr (3, [.int p0_round, .int p0_byTurns, .int p0_apart, .int p0_people, .int p0_women, .long p0_couples, .long p0_quarrels, .long p0_togethers, .long v9, .ref a_p0_worths]))] := hD
      rw [hQ]
      exact W.vret hx hb hr (fun t ht hW => ⟨⟨v9, rfl, hc.trans h.symm, by rw [ht]; exact hP, va_K.moved hW.alike hK, hD⟩, hS.F ht⟩) hS.2.2 dX4_settleWhoIsBarred_48
  refine lv_if_eq (tgt := 28) hx hb dX4_settleWhoIsBarred_12 (by decide) (fun c1 => ?_) (fun c1 => ?_)
  · have h := pw_cd_p c1 h
    exact K4 p0_quarrels h _ locs ls hP hD hS hl
  · have h := pw_cd_n c1 h
    refine lv_aload_n hx hb dX4_settleWhoIsBarred_15 rfl (lv_at hl 0 rfl) ?_
    refine lv_dup hx hb dX4_settleWhoIsBarred_16 rfl ?_
    refine va_get (D := (dC, dI)) (ci := 3) (v := .long p0_quarrels) (C := RX4) (T := TX4) (N := 10) hx hb hts li_X4_settleWhoIsBarred_X4 hown hK hP 0 rfl rfl 8 (by decide) (hts _ lk_X4_settleWhoIsBarred_38) (fun _ h9 => h9) rfl dX4_settleWhoIsBarred_17 ?_
    refine lv_aload_n hx hb dX4_settleWhoIsBarred_20 rfl (lv_at hl 0 rfl) ?_
    refine va_get (D := (dC, dI)) (ci := 3) (v := .long p0_couples) (C := RX4) (T := TX4) (N := 10) hx hb hts li_X4_settleWhoIsBarred_X4 hown hK hP 0 rfl rfl 5 (by decide) (hts _ lk_X4_settleWhoIsBarred_28) (fun _ h9 => h9) rfl dX4_settleWhoIsBarred_21 ?_
    refine lv_lor hx hb dX4_settleWhoIsBarred_24 ?_
    refine lv_topl (fun v10 ev10 => ?_)
    have h := pw_lt_e ev10 h
    refine va_put (D := (dC, dI)) (ci := 3) (v := .long v10) (ty := .long) (C := RX4) (T := TX4) (N := 10) hx hb hts li_X4_settleWhoIsBarred_X4 tyX4 tyX4_ok nmX4 hown hK hP hD hS 0 rfl rfl 8 (by decide) (hts _ lk_X4_settleWhoIsBarred_38) (fun _ h9 => h9) rfl (by decide +kernel) rfl rfl (Nat.le_of_ble_eq_true rfl) dX4_settleWhoIsBarred_25 (fun H locs hP hD hS => ?_)
    have hP : va_P (dC, dI) vwCl [(a_p0, .inr (3, [.int p0_round, .int p0_byTurns, .int p0_apart, .int p0_people, .int p0_women, .long p0_couples, .long p0_quarrels, .long p0_togethers, .long v10, .ref a_p0_worths]))] H := hP
    have hD : va_D A [(a_p0, .inr (3, [.int p0_round, .int p0_byTurns, .int p0_apart, .int p0_people, .int p0_women, .long p0_couples, .long p0_quarrels, .long p0_togethers, .long v10, .ref a_p0_worths]))] := hD
    exact K4 v10 h _ locs ls hP hD hS hl
/-! X4_neighbourPairs -/
theorem li_X4_neighbourPairs_X4 : ∀ w ∈ u_ws RX4 TX4 10, w ∈ wsX4_neighbourPairs := fun w h => List.mem_cons_of_mem _ (List.mem_append_right _ h)
theorem lk_X4_neighbourPairs_9 : Cond.fieldLink RX4 9 "NoWifeBeside$Party" "round" "Z" ∈ wsX4_neighbourPairs := by decide +kernel
theorem lk_X4_neighbourPairs_21 : Cond.fieldLink RX4 21 "NoWifeBeside$Party" "people" "I" ∈ wsX4_neighbourPairs := by decide +kernel
abbrev rm_X4_neighbourPairs : Room := { frames := 0, cells := 0, slots := 0, locals := 0 }
set_option maxRecDepth 100000 in
set_option maxHeartbeats 4000000 in
theorem c_X4_neighbourPairs (l : Launch) (dC : Nat → ClassId) (dI : Nat → Nat → Nat) (cI cZ : ClassId) (sz : Nat) (a_p0 : Nat) (a_p0_worths : Nat) (p0_round : Int32) (p0_byTurns : Int32) (p0_apart : Int32) (p0_people : Int32) (p0_women : Int32) (p0_couples : Int64) (p0_quarrels : Int64) (p0_togethers : Int64) (p0_barred : Int64) : Met l yX4_neighbourPairs wsX4_neighbourPairs rm_X4_neighbourPairs (va_Pc [.ref a_p0] (pw_pre (dC, dI) cI cZ [(a_p0, .inr (3, [.int p0_round, .int p0_byTurns, .int p0_apart, .int p0_people, .int p0_women, .long p0_couples, .long p0_quarrels, .long p0_togethers, .long p0_barred, .ref a_p0_worths]))] sz)) (va_Qi (fun (r : Int32) (u : Unit) => r = f_X4_neighbourPairs p0_round p0_people) (fun u t => pw_post (dC, dI) cI cZ (va_A [(a_p0, .inr (3, [.int p0_round, .int p0_byTurns, .int p0_apart, .int p0_people, .int p0_women, .long p0_couples, .long p0_quarrels, .long p0_togethers, .long p0_barred, .ref a_p0_worths]))] sz) [(a_p0, .inr (3, [.int p0_round, .int p0_byTurns, .int p0_apart, .int p0_people, .int p0_women, .long p0_couples, .long p0_quarrels, .long p0_togethers, .long p0_barred, .ref a_p0_worths]))] t) (va_A [(a_p0, .inr (3, [.int p0_round, .int p0_byTurns, .int p0_apart, .int p0_people, .int p0_women, .long p0_couples, .long p0_quarrels, .long p0_togethers, .long p0_barred, .ref a_p0_worths]))] sz)) 0 0 (va_A [(a_p0, .inr (3, [.int p0_round, .int p0_byTurns, .int p0_apart, .int p0_people, .int p0_women, .long p0_couples, .long p0_quarrels, .long p0_togethers, .long p0_barred, .ref a_p0_worths]))] sz) := by
  refine Met.ofW (cc := cX4_neighbourPairs) (maxL := 1) (ret := (some .int)) (by decide) rfl ?_
  intro p e s m args below meth c s₁ B hml hv
  obtain ⟨rfl, hsz, hP, hK, hD0⟩ := hv
  have hx := B.exec
  have hb := B.bytes
  have hr := B.returns
  have hts := atoms_spec (ws := wsX4_neighbourPairs) B.pre
  have hown : s.vm.findClass RX4 = some m.cls := findClass_of_methodNamed B.named
  have hlocks := B.notSynchronized
  subst hsz
  have hD := hD0.self (sz := s.heap.size)
  generalize hAe : va_A [(a_p0, .inr (3, [.int p0_round, .int p0_byTurns, .int p0_apart, .int p0_people, .int p0_women, .long p0_couples, .long p0_quarrels, .long p0_togethers, .long p0_barred, .ref a_p0_worths]))] s.heap.size = A at hD ⊢
  have hA : ∀ q : Nat, s.heap.size ≤ q → A q := fun q h => by rw [← hAe]; exact Or.inr h
  have hS : va_S A s.heap s.heap [] := va_S.rf
  have hP : va_P (dC, dI) vwCl [(a_p0, .inr (3, [.int p0_round, .int p0_byTurns, .int p0_apart, .int p0_people, .int p0_women, .long p0_couples, .long p0_quarrels, .long p0_togethers, .long p0_barred, .ref a_p0_worths]))] s.heap := hP
  have hl := lv_entry ([.ref a_p0]) (n := 1) (Nat.le_of_ble_eq_true rfl)
  rw [lg_entry_eq]
  generalize (lg_sl ([.ref a_p0]) ++ List.replicate (1 - (lg_sl ([.ref a_p0])).length) Slot.unset).toArray = ls at hl ⊢
  have hl : lv_has ls 1 [(0, .ref a_p0)] := hl
  refine pw_Wq (R := rm_X4_neighbourPairs) (fun Q hQ => ?_)
  obtain ⟨locs, elocs⟩ : ∃ y : List Loc, y = [] := ⟨_, rfl⟩
  rw [← elocs] at hS ⊢
  obtain ⟨xx, hc⟩ : ∃ y, f_X4_neighbourPairs p0_round p0_people = y := ⟨_, rfl⟩
  have h := hc
  unfold f_X4_neighbourPairs at h
  refine lv_aload_n hx hb dX4_neighbourPairs_0 rfl (lv_at hl 0 rfl) ?_
  refine va_get (D := (dC, dI)) (ci := 3) (v := .int p0_round) (C := RX4) (T := TX4) (N := 10) hx hb hts li_X4_neighbourPairs_X4 hown hK hP 0 rfl rfl 0 (by decide) (hts _ lk_X4_neighbourPairs_9) (fun _ h9 => h9) rfl dX4_neighbourPairs_1 ?_
  refine lv_if_eq (tgt := 22) hx hb dX4_neighbourPairs_4 (by decide) (fun c1 => ?_) (fun c1 => ?_)
  · have h := pw_cd_p c1 h
    refine lv_aload_n hx hb dX4_neighbourPairs_22 rfl (lv_at hl 0 rfl) ?_
    refine va_get (D := (dC, dI)) (ci := 3) (v := .int p0_people) (C := RX4) (T := TX4) (N := 10) hx hb hts li_X4_neighbourPairs_X4 hown hK hP 0 rfl rfl 3 (by decide) (hts _ lk_X4_neighbourPairs_21) (fun _ h9 => h9) rfl dX4_neighbourPairs_23 ?_
    refine lv_iconst (v := 1) hx hb dX4_neighbourPairs_26 (by decide) ?_
    refine lv_isub hx hb dX4_neighbourPairs_27 ?_
    rw [hQ]
    exact W.iret (v := (p0_people - 1)) hx hb hr (fun t ht hW => ⟨⟨(p0_people - 1), (), rfl, h.trans hc.symm, by rw [ht]; exact hP, va_K.moved hW.alike hK, hD⟩, hS.F ht⟩) hS.2.2 dX4_neighbourPairs_28
  · have h := pw_cd_n c1 h
    refine lv_aload_n hx hb dX4_neighbourPairs_7 rfl (lv_at hl 0 rfl) ?_
    refine va_get (D := (dC, dI)) (ci := 3) (v := .int p0_people) (C := RX4) (T := TX4) (N := 10) hx hb hts li_X4_neighbourPairs_X4 hown hK hP 0 rfl rfl 3 (by decide) (hts _ lk_X4_neighbourPairs_21) (fun _ h9 => h9) rfl dX4_neighbourPairs_8 ?_
    refine lv_iconst (v := 3) hx hb dX4_neighbourPairs_11 (by decide) ?_
    refine lv_icmp_lt (tgt := 22) hx hb dX4_neighbourPairs_12 (by decide) (fun c2 => ?_) (fun c2 => ?_)
    · have h := pw_cd_p c2 h
      refine lv_aload_n hx hb dX4_neighbourPairs_22 rfl (lv_at hl 0 rfl) ?_
      refine va_get (D := (dC, dI)) (ci := 3) (v := .int p0_people) (C := RX4) (T := TX4) (N := 10) hx hb hts li_X4_neighbourPairs_X4 hown hK hP 0 rfl rfl 3 (by decide) (hts _ lk_X4_neighbourPairs_21) (fun _ h9 => h9) rfl dX4_neighbourPairs_23 ?_
      refine lv_iconst (v := 1) hx hb dX4_neighbourPairs_26 (by decide) ?_
      refine lv_isub hx hb dX4_neighbourPairs_27 ?_
      rw [hQ]
      exact W.iret (v := (p0_people - 1)) hx hb hr (fun t ht hW => ⟨⟨(p0_people - 1), (), rfl, h.trans hc.symm, by rw [ht]; exact hP, va_K.moved hW.alike hK, hD⟩, hS.F ht⟩) hS.2.2 dX4_neighbourPairs_28
    · have h := pw_cd_n c2 h
      refine lv_aload_n hx hb dX4_neighbourPairs_15 rfl (lv_at hl 0 rfl) ?_
      refine va_get (D := (dC, dI)) (ci := 3) (v := .int p0_people) (C := RX4) (T := TX4) (N := 10) hx hb hts li_X4_neighbourPairs_X4 hown hK hP 0 rfl rfl 3 (by decide) (hts _ lk_X4_neighbourPairs_21) (fun _ h9 => h9) rfl dX4_neighbourPairs_16 ?_
      refine lv_goto (tgt := 28) hx hb dX4_neighbourPairs_19 (by decide) ?_
      rw [hQ]
      exact W.iret (v := p0_people) hx hb hr (fun t ht hW => ⟨⟨p0_people, (), rfl, h.trans hc.symm, by rw [ht]; exact hP, va_K.moved hW.alike hK, hD⟩, hS.F ht⟩) hS.2.2 dX4_neighbourPairs_28
/-! X4_behind -/
theorem li_X4_behind_X4 : ∀ w ∈ u_ws RX4 TX4 10, w ∈ wsX4_behind := fun w h => List.mem_cons_of_mem _ (List.mem_append_right _ h)
theorem lk_X4_behind_21 : Cond.fieldLink RX4 21 "NoWifeBeside$Party" "people" "I" ∈ wsX4_behind := by decide +kernel
abbrev rm_X4_behind : Room := { frames := 0, cells := 0, slots := 0, locals := 0 }
set_option maxRecDepth 100000 in
set_option maxHeartbeats 4000000 in
theorem c_X4_behind (l : Launch) (dC : Nat → ClassId) (dI : Nat → Nat → Nat) (cI cZ : ClassId) (sz : Nat) (a_p0 : Nat) (a_p0_worths : Nat) (p0_round : Int32) (p0_byTurns : Int32) (p0_apart : Int32) (p0_people : Int32) (p0_women : Int32) (p0_couples : Int64) (p0_quarrels : Int64) (p0_togethers : Int64) (p0_barred : Int64) (x1 : Int32) : Met l yX4_behind wsX4_behind rm_X4_behind (va_Pc [.ref a_p0, .int x1] (pw_pre (dC, dI) cI cZ [(a_p0, .inr (3, [.int p0_round, .int p0_byTurns, .int p0_apart, .int p0_people, .int p0_women, .long p0_couples, .long p0_quarrels, .long p0_togethers, .long p0_barred, .ref a_p0_worths]))] sz)) (va_Qi (fun (r : Int32) (u : Unit) => r = f_X4_behind x1 p0_people) (fun u t => pw_post (dC, dI) cI cZ (va_A [(a_p0, .inr (3, [.int p0_round, .int p0_byTurns, .int p0_apart, .int p0_people, .int p0_women, .long p0_couples, .long p0_quarrels, .long p0_togethers, .long p0_barred, .ref a_p0_worths]))] sz) [(a_p0, .inr (3, [.int p0_round, .int p0_byTurns, .int p0_apart, .int p0_people, .int p0_women, .long p0_couples, .long p0_quarrels, .long p0_togethers, .long p0_barred, .ref a_p0_worths]))] t) (va_A [(a_p0, .inr (3, [.int p0_round, .int p0_byTurns, .int p0_apart, .int p0_people, .int p0_women, .long p0_couples, .long p0_quarrels, .long p0_togethers, .long p0_barred, .ref a_p0_worths]))] sz)) 0 0 (va_A [(a_p0, .inr (3, [.int p0_round, .int p0_byTurns, .int p0_apart, .int p0_people, .int p0_women, .long p0_couples, .long p0_quarrels, .long p0_togethers, .long p0_barred, .ref a_p0_worths]))] sz) := by
  refine Met.ofW (cc := cX4_behind) (maxL := 2) (ret := (some .int)) (by decide) rfl ?_
  intro p e s m args below meth c s₁ B hml hv
  obtain ⟨rfl, hsz, hP, hK, hD0⟩ := hv
  have hx := B.exec
  have hb := B.bytes
  have hr := B.returns
  have hts := atoms_spec (ws := wsX4_behind) B.pre
  have hown : s.vm.findClass RX4 = some m.cls := findClass_of_methodNamed B.named
  have hlocks := B.notSynchronized
  subst hsz
  have hD := hD0.self (sz := s.heap.size)
  generalize hAe : va_A [(a_p0, .inr (3, [.int p0_round, .int p0_byTurns, .int p0_apart, .int p0_people, .int p0_women, .long p0_couples, .long p0_quarrels, .long p0_togethers, .long p0_barred, .ref a_p0_worths]))] s.heap.size = A at hD ⊢
  have hA : ∀ q : Nat, s.heap.size ≤ q → A q := fun q h => by rw [← hAe]; exact Or.inr h
  have hS : va_S A s.heap s.heap [] := va_S.rf
  have hP : va_P (dC, dI) vwCl [(a_p0, .inr (3, [.int p0_round, .int p0_byTurns, .int p0_apart, .int p0_people, .int p0_women, .long p0_couples, .long p0_quarrels, .long p0_togethers, .long p0_barred, .ref a_p0_worths]))] s.heap := hP
  have hl := lv_entry ([.ref a_p0, .int x1]) (n := 2) (Nat.le_of_ble_eq_true rfl)
  rw [lg_entry_eq]
  generalize (lg_sl ([.ref a_p0, .int x1]) ++ List.replicate (2 - (lg_sl ([.ref a_p0, .int x1])).length) Slot.unset).toArray = ls at hl ⊢
  have hl : lv_has ls 2 [(0, .ref a_p0), (1, .int x1)] := hl
  refine pw_Wq (R := rm_X4_behind) (fun Q hQ => ?_)
  obtain ⟨locs, elocs⟩ : ∃ y : List Loc, y = [] := ⟨_, rfl⟩
  rw [← elocs] at hS ⊢
  obtain ⟨xx, hc⟩ : ∃ y, f_X4_behind x1 p0_people = y := ⟨_, rfl⟩
  have h := hc
  unfold f_X4_behind at h
  refine lv_iload_n hx hb dX4_behind_0 rfl (lv_at hl 1 rfl) ?_
  refine lv_iconst (v := 1) hx hb dX4_behind_1 (by decide) ?_
  refine lv_iadd hx hb dX4_behind_2 ?_
  refine lv_aload_n hx hb dX4_behind_3 rfl (lv_at hl 0 rfl) ?_
  refine va_get (D := (dC, dI)) (ci := 3) (v := .int p0_people) (C := RX4) (T := TX4) (N := 10) hx hb hts li_X4_behind_X4 hown hK hP 0 rfl rfl 3 (by decide) (hts _ lk_X4_behind_21) (fun _ h9 => h9) rfl dX4_behind_4 ?_
  refine lv_icmp_ge (tgt := 16) hx hb dX4_behind_7 (by decide) (fun c1 => ?_) (fun c1 => ?_)
  · have h := pw_cd_p c1 h
    refine lv_iconst (v := 0) hx hb dX4_behind_16 (by decide) ?_
    rw [hQ]
    exact W.iret (v := 0) hx hb hr (fun t ht hW => ⟨⟨0, (), rfl, h.trans hc.symm, by rw [ht]; exact hP, va_K.moved hW.alike hK, hD⟩, hS.F ht⟩) hS.2.2 dX4_behind_17
  · have h := pw_cd_n c1 h
    refine lv_iload_n hx hb dX4_behind_10 rfl (lv_at hl 1 rfl) ?_
    refine lv_iconst (v := 1) hx hb dX4_behind_11 (by decide) ?_
    refine lv_iadd hx hb dX4_behind_12 ?_
    refine lv_goto (tgt := 17) hx hb dX4_behind_13 (by decide) ?_
    rw [hQ]
    exact W.iret (v := (x1 + 1)) hx hb hr (fun t ht hW => ⟨⟨(x1 + 1), (), rfl, h.trans hc.symm, by rw [ht]; exact hP, va_K.moved hW.alike hK, hD⟩, hS.F ht⟩) hS.2.2 dX4_behind_17
/-! X4_cellOfPair -/
abbrev rm_X4_cellOfPair : Room := { frames := 2, cells := 0, slots := 0, locals := 42 }
set_option maxRecDepth 100000 in
set_option maxHeartbeats 4000000 in
theorem c_X4_cellOfPair (l : Launch) (dC : Nat → ClassId) (dI : Nat → Nat → Nat) (cI cZ : ClassId) (sz : Nat) (a_p0 : Nat) (a_p0_worths : Nat) (p0_round : Int32) (p0_byTurns : Int32) (p0_apart : Int32) (p0_people : Int32) (p0_women : Int32) (p0_couples : Int64) (p0_quarrels : Int64) (p0_togethers : Int64) (p0_barred : Int64) (x1 : Int32) (x2 : Int32) : Met l yX4_cellOfPair wsX4_cellOfPair rm_X4_cellOfPair (va_Pc [.ref a_p0, .int x1, .int x2] (pw_pre (dC, dI) cI cZ [(a_p0, .inr (3, [.int p0_round, .int p0_byTurns, .int p0_apart, .int p0_people, .int p0_women, .long p0_couples, .long p0_quarrels, .long p0_togethers, .long p0_barred, .ref a_p0_worths]))] sz)) (va_Qi (fun (r : Int32) (u : Unit) => r = f_X4_cellOfPair x1 x2 p0_people) (fun u t => pw_post (dC, dI) cI cZ (va_A [(a_p0, .inr (3, [.int p0_round, .int p0_byTurns, .int p0_apart, .int p0_people, .int p0_women, .long p0_couples, .long p0_quarrels, .long p0_togethers, .long p0_barred, .ref a_p0_worths]))] sz) [(a_p0, .inr (3, [.int p0_round, .int p0_byTurns, .int p0_apart, .int p0_people, .int p0_women, .long p0_couples, .long p0_quarrels, .long p0_togethers, .long p0_barred, .ref a_p0_worths]))] t) (va_A [(a_p0, .inr (3, [.int p0_round, .int p0_byTurns, .int p0_apart, .int p0_people, .int p0_women, .long p0_couples, .long p0_quarrels, .long p0_togethers, .long p0_barred, .ref a_p0_worths]))] sz)) 0 0 (va_A [(a_p0, .inr (3, [.int p0_round, .int p0_byTurns, .int p0_apart, .int p0_people, .int p0_women, .long p0_couples, .long p0_quarrels, .long p0_togethers, .long p0_barred, .ref a_p0_worths]))] sz) := by
  refine Met.ofW (cc := cX4_cellOfPair) (maxL := 3) (ret := (some .int)) (by decide) rfl ?_
  intro p e s m args below meth c s₁ B hml hv
  obtain ⟨rfl, hsz, hP, hK, hD0⟩ := hv
  have hx := B.exec
  have hb := B.bytes
  have hr := B.returns
  have hts := atoms_spec (ws := wsX4_cellOfPair) B.pre
  have hown : s.vm.findClass RX4 = some m.cls := findClass_of_methodNamed B.named
  have hlocks := B.notSynchronized
  subst hsz
  have hD := hD0.self (sz := s.heap.size)
  generalize hAe : va_A [(a_p0, .inr (3, [.int p0_round, .int p0_byTurns, .int p0_apart, .int p0_people, .int p0_women, .long p0_couples, .long p0_quarrels, .long p0_togethers, .long p0_barred, .ref a_p0_worths]))] s.heap.size = A at hD ⊢
  have hA : ∀ q : Nat, s.heap.size ≤ q → A q := fun q h => by rw [← hAe]; exact Or.inr h
  have hS : va_S A s.heap s.heap [] := va_S.rf
  have hP : va_P (dC, dI) vwCl [(a_p0, .inr (3, [.int p0_round, .int p0_byTurns, .int p0_apart, .int p0_people, .int p0_women, .long p0_couples, .long p0_quarrels, .long p0_togethers, .long p0_barred, .ref a_p0_worths]))] s.heap := hP
  have hl := lv_entry ([.ref a_p0, .int x1, .int x2]) (n := 3) (Nat.le_of_ble_eq_true rfl)
  rw [lg_entry_eq]
  generalize (lg_sl ([.ref a_p0, .int x1, .int x2]) ++ List.replicate (3 - (lg_sl ([.ref a_p0, .int x1, .int x2])).length) Slot.unset).toArray = ls at hl ⊢
  have hl : lv_has ls 3 [(0, .ref a_p0), (1, .int x1), (2, .int x2)] := hl
  refine pw_Wq (R := rm_X4_cellOfPair) (fun Q hQ => ?_)
  obtain ⟨locs, elocs⟩ : ∃ y : List Loc, y = [] := ⟨_, rfl⟩
  rw [← elocs] at hS ⊢
  obtain ⟨xx, hc⟩ : ∃ y, f_X4_cellOfPair x1 x2 p0_people = y := ⟨_, rfl⟩
  have h := hc
  unfold f_X4_cellOfPair at h
  refine lv_iload_n hx hb dX4_cellOfPair_0 rfl (lv_at hl 1 rfl) ?_
  refine lv_iload_n hx hb dX4_cellOfPair_1 rfl (lv_at hl 2 rfl) ?_
  refine pw_ci (wr := [(a_p0, .inr (3, [.int p0_round, .int p0_byTurns, .int p0_apart, .int p0_people, .int p0_women, .long p0_couples, .long p0_quarrels, .long p0_togethers, .long p0_barred, .ref a_p0_worths]))]) (va_runS (As := [.int x1, .int x2]) (rest := []) ⟨hx, hb, hml, hown, hts⟩ (c_X7_personOn l dC dI cI cZ s.heap.size x1 x2) (va_cwS 2 hts gX4_cellOfPair_X7_personOn rfl rfl rfl (by decide +kernel) ⟨(Nat.le_of_ble_eq_true rfl), (Nat.le_of_ble_eq_true rfl)⟩) (pw_preS hK hP hD [] rfl rfl (by decide)) rfl rfl hl.1 rfl (lv_room (Nat.le_of_ble_eq_true rfl)) dX4_cellOfPair_2 ⟨(Nat.le_of_ble_eq_true rfl), (Nat.le_of_ble_eq_true rfl)⟩) hP hD hS hA [] [0] rfl rfl (by decide) (by decide) (fun r1 u H locs hw hP hD hS => ?_)
  have h := pw_lt_e hw h
  have hP : va_P (dC, dI) vwCl [(a_p0, .inr (3, [.int p0_round, .int p0_byTurns, .int p0_apart, .int p0_people, .int p0_women, .long p0_couples, .long p0_quarrels, .long p0_togethers, .long p0_barred, .ref a_p0_worths]))] H := hP
  have hD : va_D A [(a_p0, .inr (3, [.int p0_round, .int p0_byTurns, .int p0_apart, .int p0_people, .int p0_women, .long p0_couples, .long p0_quarrels, .long p0_togethers, .long p0_barred, .ref a_p0_worths]))] := hD
  refine lv_iload_n hx hb dX4_cellOfPair_5 rfl (lv_at hl 1 rfl) ?_
  refine lv_aload_n hx hb dX4_cellOfPair_6 rfl (lv_at hl 0 rfl) ?_
  refine lv_iload_n hx hb dX4_cellOfPair_7 rfl (lv_at hl 2 rfl) ?_
  refine pw_ci (wr := []) (va_runV (As := [.int x2]) (rest := [.int x1, .int r1]) ⟨hx, hb, hml, hown, hts⟩ (c_X4_behind l dC dI cI cZ H.size a_p0 a_p0_worths p0_round p0_byTurns p0_apart p0_people p0_women p0_couples p0_quarrels p0_togethers p0_barred x2) (cwV 1 hts gX4_cellOfPair_X4_behind rfl rfl rfl (by decide +kernel) ⟨(Nat.le_of_ble_eq_true rfl), (Nat.le_of_ble_eq_true rfl)⟩) (pw_preV hK hP hD [0] rfl rfl (by decide) 3 rfl rfl) rfl rfl hl.1 rfl (lv_room (Nat.le_of_ble_eq_true rfl)) dX4_cellOfPair_8 ⟨(Nat.le_of_ble_eq_true rfl), (Nat.le_of_ble_eq_true rfl)⟩) hP hD hS hA [0] [] rfl rfl (by decide) (by decide) (fun r4 u H locs hw hP hD hS => ?_)
  have h := pw_lt_e hw h
  have hP : va_P (dC, dI) vwCl [(a_p0, .inr (3, [.int p0_round, .int p0_byTurns, .int p0_apart, .int p0_people, .int p0_women, .long p0_couples, .long p0_quarrels, .long p0_togethers, .long p0_barred, .ref a_p0_worths]))] H := hP
  have hD : va_D A [(a_p0, .inr (3, [.int p0_round, .int p0_byTurns, .int p0_apart, .int p0_people, .int p0_women, .long p0_couples, .long p0_quarrels, .long p0_togethers, .long p0_barred, .ref a_p0_worths]))] := hD
  refine pw_ci (wr := [(a_p0, .inr (3, [.int p0_round, .int p0_byTurns, .int p0_apart, .int p0_people, .int p0_women, .long p0_couples, .long p0_quarrels, .long p0_togethers, .long p0_barred, .ref a_p0_worths]))]) (va_runS (As := [.int x1, .int r4]) (rest := [.int r1]) ⟨hx, hb, hml, hown, hts⟩ (c_X7_personOn l dC dI cI cZ H.size x1 r4) (va_cwS 2 hts gX4_cellOfPair_X7_personOn rfl rfl rfl (by decide +kernel) ⟨(Nat.le_of_ble_eq_true rfl), (Nat.le_of_ble_eq_true rfl)⟩) (pw_preS hK hP hD [] rfl rfl (by decide)) rfl rfl hl.1 rfl (lv_room (Nat.le_of_ble_eq_true rfl)) dX4_cellOfPair_11 ⟨(Nat.le_of_ble_eq_true rfl), (Nat.le_of_ble_eq_true rfl)⟩) hP hD hS hA [] [0] rfl rfl (by decide) (by decide) (fun r7 u H locs hw hP hD hS => ?_)
  have h := pw_lt_e hw h
  have hP : va_P (dC, dI) vwCl [(a_p0, .inr (3, [.int p0_round, .int p0_byTurns, .int p0_apart, .int p0_people, .int p0_women, .long p0_couples, .long p0_quarrels, .long p0_togethers, .long p0_barred, .ref a_p0_worths]))] H := hP
  have hD : va_D A [(a_p0, .inr (3, [.int p0_round, .int p0_byTurns, .int p0_apart, .int p0_people, .int p0_women, .long p0_couples, .long p0_quarrels, .long p0_togethers, .long p0_barred, .ref a_p0_worths]))] := hD
  refine pw_ci (wr := [(a_p0, .inr (3, [.int p0_round, .int p0_byTurns, .int p0_apart, .int p0_people, .int p0_women, .long p0_couples, .long p0_quarrels, .long p0_togethers, .long p0_barred, .ref a_p0_worths]))]) (va_runS (As := [.int r1, .int r7]) (rest := []) ⟨hx, hb, hml, hown, hts⟩ (c_X3_cellOfTwo l dC dI cI cZ H.size r1 r7) (va_cwS 2 hts gX4_cellOfPair_X3_cellOfTwo rfl rfl rfl (by decide +kernel) ⟨(Nat.le_of_ble_eq_true rfl), (Nat.le_of_ble_eq_true rfl)⟩) (pw_preS hK hP hD [] rfl rfl (by decide)) rfl rfl hl.1 rfl (lv_room (Nat.le_of_ble_eq_true rfl)) dX4_cellOfPair_14 ⟨(Nat.le_of_ble_eq_true rfl), (Nat.le_of_ble_eq_true rfl)⟩) hP hD hS hA [] [0] rfl rfl (by decide) (by decide) (fun r10 u H locs hw hP hD hS => ?_)
  have h := pw_lt_e hw h
  have hP : va_P (dC, dI) vwCl [(a_p0, .inr (3, [.int p0_round, .int p0_byTurns, .int p0_apart, .int p0_people, .int p0_women, .long p0_couples, .long p0_quarrels, .long p0_togethers, .long p0_barred, .ref a_p0_worths]))] H := hP
  have hD : va_D A [(a_p0, .inr (3, [.int p0_round, .int p0_byTurns, .int p0_apart, .int p0_people, .int p0_women, .long p0_couples, .long p0_quarrels, .long p0_togethers, .long p0_barred, .ref a_p0_worths]))] := hD
  rw [hQ]
  exact W.iret (v := r10) hx hb hr (fun t ht hW => ⟨⟨r10, (), rfl, h.trans hc.symm, by rw [ht]; exact hP, va_K.moved hW.alike hK, hD⟩, hS.F ht⟩) hS.2.2 dX4_cellOfPair_17
/-! X4_neighbours -/
abbrev rm_X4_neighbours : Room := { frames := 1, cells := 0, slots := 0, locals := 21 }
set_option maxRecDepth 100000 in
set_option maxHeartbeats 4000000 in
theorem lw_X4_neighbours_18 {p : Program} {l : Launch} {e : Env} {s : State} {m : MethodId} {args : Array Value} {below : List Frame} {meth : Method} {c : Code} {Q : State → Prop} {dC : Nat → ClassId} {dI : Nat → Nat → Nat} {cI cZ : ClassId} {A : Nat → Prop} (hx : p.tables.exec = Jvm.exec) (hb : c.code = cX4_neighbours) (hml : c.maxLocals = 8) (hown : s.vm.findClass RX4 = some m.cls) (hts : ∀ w ∈ wsX4_neighbours, w.before args s = true) (hA : ∀ q : Nat, s.heap.size ≤ q → A q) (hK : va_K (dC, dI) vwCl [(cI, .int), (cZ, .boolean)] s) (a_p0 : Nat) (a_p0_worths : Nat) (l1 : Int32) (l4 : Int32) (p0_round : Int32) (p0_byTurns : Int32) (p0_apart : Int32) (p0_people : Int32) (p0_women : Int32) (p0_couples : Int64) (p0_quarrels : Int64) (p0_togethers : Int64) (p0_barred : Int64) :
    ∀ (n : Nat) (l2 : Int64) (l5 : Int32) (l6 : Int32) (xx : Int64), lf_X4_neighbours_18 l1 l4 p0_people n l2 l5 l6 = some xx → ((∀ (e_l2 : Int64), e_l2 = xx → ∀ (H : Heap) (locs : List Loc) (ls : Array Slot), va_P (dC, dI) vwCl [(a_p0, .inr (3, [.int p0_round, .int p0_byTurns, .int p0_apart, .int p0_people, .int p0_women, .long p0_couples, .long p0_quarrels, .long p0_togethers, .long p0_barred, .ref a_p0_worths]))] H → va_D A [(a_p0, .inr (3, [.int p0_round, .int p0_byTurns, .int p0_apart, .int p0_people, .int p0_women, .long p0_couples, .long p0_quarrels, .long p0_togethers, .long p0_barred, .ref a_p0_worths]))] → va_S A s.heap H locs → lv_has ls 8 [(2, .long e_l2)] → W p l e rm_X4_neighbours s m args below meth c H locs 0 0 Q (F0 m 64 ls []))) → ∀ (H : Heap) (locs : List Loc) (ls : Array Slot), va_P (dC, dI) vwCl [(a_p0, .inr (3, [.int p0_round, .int p0_byTurns, .int p0_apart, .int p0_people, .int p0_women, .long p0_couples, .long p0_quarrels, .long p0_togethers, .long p0_barred, .ref a_p0_worths]))] H → va_D A [(a_p0, .inr (3, [.int p0_round, .int p0_byTurns, .int p0_apart, .int p0_people, .int p0_women, .long p0_couples, .long p0_quarrels, .long p0_togethers, .long p0_barred, .ref a_p0_worths]))] → va_S A s.heap H locs → lv_has ls 8 [(0, .ref a_p0), (1, .int l1), (2, .long l2), (4, .int l4), (5, .int l5), (6, .int l6)] → W p l e rm_X4_neighbours s m args below meth c H locs 0 0 Q (F0 m 18 ls []) := by
  intro n
  induction n with
  | zero =>
    intro l2 l5 l6 xx h
    rw [lf_X4_neighbours_18] at h
    cases h
  | succ n ih =>
    intro l2 l5 l6 xx h KK H locs ls hP hD hS hl
    rw [lf_X4_neighbours_18] at h
    refine lv_iload hx hb dX4_neighbours_18 (lv_at hl 5 rfl) ?_
    refine lv_iload hx hb dX4_neighbours_20 (lv_at hl 3 rfl) ?_
    refine lv_icmp_ge (tgt := 64) hx hb dX4_neighbours_22 (by decide) (fun c7 => ?_) (fun c7 => ?_)
    · have h := pw_cd_p c7 h
      have hl := lv_sub (l' := [(2, .long l2)]) hl [2] rfl
      exact KK l2 (Option.some.inj h) _ locs ls hP hD hS hl
    · have h := pw_cd_n c7 h
      refine lv_iload hx hb dX4_neighbours_25 (lv_at hl 5 rfl) ?_
      refine lv_bipush (v := 7) hx hb dX4_neighbours_27 (by decide) ?_
      refine lv_icmp_ge (tgt := 64) hx hb dX4_neighbours_29 (by decide) (fun c8 => ?_) (fun c8 => ?_)
      · have h := pw_cd_p c8 h
        have hl := lv_sub (l' := [(2, .long l2)]) hl [2] rfl
        exact KK l2 (Option.some.inj h) _ locs ls hP hD hS hl
      · have h := pw_cd_n c8 h
        refine lv_iload_n hx hb dX4_neighbours_32 rfl (lv_at hl 1 rfl) ?_
        refine lv_aload_n hx hb dX4_neighbours_33 rfl (lv_at hl 0 rfl) ?_
        refine lv_iload hx hb dX4_neighbours_34 (lv_at hl 5 rfl) ?_
        refine pw_ci (wr := []) (va_runV (As := [.int l6]) (rest := [.int l1]) ⟨hx, hb, hml, hown, hts⟩ (c_X4_behind l dC dI cI cZ H.size a_p0 a_p0_worths p0_round p0_byTurns p0_apart p0_people p0_women p0_couples p0_quarrels p0_togethers p0_barred l6) (cwV 1 hts gX4_neighbours_X4_behind rfl rfl rfl (by decide +kernel) ⟨(Nat.le_of_ble_eq_true rfl), (Nat.le_of_ble_eq_true rfl)⟩) (pw_preV hK hP hD [0] rfl rfl (by decide) 3 rfl rfl) rfl rfl hl.1 rfl (lv_room (Nat.le_of_ble_eq_true rfl)) dX4_neighbours_36 ⟨(Nat.le_of_ble_eq_true rfl), (Nat.le_of_ble_eq_true rfl)⟩) hP hD hS hA [0] [] rfl rfl (by decide) (by decide) (fun r9 u H locs hw hP hD hS => ?_)
        have h := pw_lt_e hw h
        have hP : va_P (dC, dI) vwCl [(a_p0, .inr (3, [.int p0_round, .int p0_byTurns, .int p0_apart, .int p0_people, .int p0_women, .long p0_couples, .long p0_quarrels, .long p0_togethers, .long p0_barred, .ref a_p0_worths]))] H := hP
        have hD : va_D A [(a_p0, .inr (3, [.int p0_round, .int p0_byTurns, .int p0_apart, .int p0_people, .int p0_women, .long p0_couples, .long p0_quarrels, .long p0_togethers, .long p0_barred, .ref a_p0_worths]))] := hD
        refine pw_ci (wr := [(a_p0, .inr (3, [.int p0_round, .int p0_byTurns, .int p0_apart, .int p0_people, .int p0_women, .long p0_couples, .long p0_quarrels, .long p0_togethers, .long p0_barred, .ref a_p0_worths]))]) (va_runS (As := [.int l1, .int r9]) (rest := []) ⟨hx, hb, hml, hown, hts⟩ (c_X7_personOn l dC dI cI cZ H.size l1 r9) (va_cwS 2 hts gX4_neighbours_X7_personOn rfl rfl rfl (by decide +kernel) ⟨(Nat.le_of_ble_eq_true rfl), (Nat.le_of_ble_eq_true rfl)⟩) (pw_preS hK hP hD [] rfl rfl (by decide)) rfl rfl hl.1 rfl (lv_room (Nat.le_of_ble_eq_true rfl)) dX4_neighbours_39 ⟨(Nat.le_of_ble_eq_true rfl), (Nat.le_of_ble_eq_true rfl)⟩) hP hD hS hA [] [0] rfl rfl (by decide) (by decide) (fun r12 u H locs hw hP hD hS => ?_)
        have h := pw_lt_e hw h
        have hP : va_P (dC, dI) vwCl [(a_p0, .inr (3, [.int p0_round, .int p0_byTurns, .int p0_apart, .int p0_people, .int p0_women, .long p0_couples, .long p0_quarrels, .long p0_togethers, .long p0_barred, .ref a_p0_worths]))] H := hP
        have hD : va_D A [(a_p0, .inr (3, [.int p0_round, .int p0_byTurns, .int p0_apart, .int p0_people, .int p0_women, .long p0_couples, .long p0_quarrels, .long p0_togethers, .long p0_barred, .ref a_p0_worths]))] := hD
        refine lv_istore (lv' := [(7, .int r12), (0, .ref a_p0), (1, .int l1), (2, .long l2), (4, .int l4), (5, .int l5), (6, .int l6)]) hx hb dX4_neighbours_42 hl (by decide) rfl (fun ls hl => ?_)
        refine lv_lload_n hx hb dX4_neighbours_44 rfl (lv_at hl 3 rfl) ?_
        refine lv_iload hx hb dX4_neighbours_45 (lv_at hl 5 rfl) ?_
        refine lv_iload hx hb dX4_neighbours_47 (lv_at hl 0 rfl) ?_
        refine pw_cl (wr := [(a_p0, .inr (3, [.int p0_round, .int p0_byTurns, .int p0_apart, .int p0_people, .int p0_women, .long p0_couples, .long p0_quarrels, .long p0_togethers, .long p0_barred, .ref a_p0_worths]))]) (va_runS (As := [.int l5, .int r12]) (rest := [.long l2]) ⟨hx, hb, hml, hown, hts⟩ (c_X3_bothWays l dC dI cI cZ H.size l5 r12) (va_cwS 2 hts gX4_neighbours_X3_bothWays rfl rfl rfl (by decide +kernel) ⟨(Nat.le_of_ble_eq_true rfl), (Nat.le_of_ble_eq_true rfl)⟩) (pw_preS hK hP hD [] rfl rfl (by decide)) rfl rfl hl.1 rfl (lv_room (Nat.le_of_ble_eq_true rfl)) dX4_neighbours_49 ⟨(Nat.le_of_ble_eq_true rfl), (Nat.le_of_ble_eq_true rfl)⟩) hP hD hS hA [] [0] rfl rfl (by decide) (by decide) (fun r15 u H locs hw hP hD hS => ?_)
        have h := pw_lt_e hw h
        have hP : va_P (dC, dI) vwCl [(a_p0, .inr (3, [.int p0_round, .int p0_byTurns, .int p0_apart, .int p0_people, .int p0_women, .long p0_couples, .long p0_quarrels, .long p0_togethers, .long p0_barred, .ref a_p0_worths]))] H := hP
        have hD : va_D A [(a_p0, .inr (3, [.int p0_round, .int p0_byTurns, .int p0_apart, .int p0_people, .int p0_women, .long p0_couples, .long p0_quarrels, .long p0_togethers, .long p0_barred, .ref a_p0_worths]))] := hD
        refine lv_lor hx hb dX4_neighbours_52 ?_
        refine lv_topl (fun v18 ev18 => ?_)
        have h := pw_lt_e ev18 h
        refine lv_lstore_n (lv' := [(2, .long v18), (7, .int r12), (0, .ref a_p0), (1, .int l1), (4, .int l4), (5, .int l5), (6, .int l6)]) hx hb dX4_neighbours_53 rfl hl (by decide) rfl (fun ls hl => ?_)
        refine lv_iload hx hb dX4_neighbours_54 (lv_at hl 1 rfl) ?_
        refine lv_istore (lv' := [(5, .int r12), (2, .long v18), (7, .int r12), (0, .ref a_p0), (1, .int l1), (4, .int l4), (6, .int l6)]) hx hb dX4_neighbours_56 hl (by decide) rfl (fun ls hl => ?_)
        refine lv_iinc (v := (l6 + 1)) (lv' := [(6, .int (l6 + 1)), (5, .int r12), (2, .long v18), (7, .int r12), (0, .ref a_p0), (1, .int l1), (4, .int l4)]) hx hb dX4_neighbours_58 hl (k := 6) rfl rfl (by decide) rfl (fun ls hl => ?_)
        refine lv_goto (tgt := 18) hx hb dX4_neighbours_61 (by decide) ?_
        have hl := lv_sub (l' := [(0, .ref a_p0), (1, .int l1), (2, .long v18), (4, .int l4), (5, .int r12), (6, .int (l6 + 1))]) hl [4, 5, 2, 6, 1, 0] rfl
        exact ih v18 r12 (l6 + 1) xx h KK _ locs ls hP hD hS hl
set_option maxRecDepth 100000 in
set_option maxHeartbeats 4000000 in
theorem c_X4_neighbours (l : Launch) (dC : Nat → ClassId) (dI : Nat → Nat → Nat) (cI cZ : ClassId) (sz : Nat) (a_p0 : Nat) (a_p0_worths : Nat) (p0_round : Int32) (p0_byTurns : Int32) (p0_apart : Int32) (p0_people : Int32) (p0_women : Int32) (p0_couples : Int64) (p0_quarrels : Int64) (p0_togethers : Int64) (p0_barred : Int64) (x1 : Int32) (xx : Int64) (hc : f_X4_neighbours x1 p0_round p0_people = some xx) : Met l yX4_neighbours wsX4_neighbours rm_X4_neighbours (va_Pc [.ref a_p0, .int x1] (pw_pre (dC, dI) cI cZ [(a_p0, .inr (3, [.int p0_round, .int p0_byTurns, .int p0_apart, .int p0_people, .int p0_women, .long p0_couples, .long p0_quarrels, .long p0_togethers, .long p0_barred, .ref a_p0_worths]))] sz)) (va_Ql (fun (r : Int64) (u : Unit) => f_X4_neighbours x1 p0_round p0_people = some r) (fun u t => pw_post (dC, dI) cI cZ (va_A [(a_p0, .inr (3, [.int p0_round, .int p0_byTurns, .int p0_apart, .int p0_people, .int p0_women, .long p0_couples, .long p0_quarrels, .long p0_togethers, .long p0_barred, .ref a_p0_worths]))] sz) [(a_p0, .inr (3, [.int p0_round, .int p0_byTurns, .int p0_apart, .int p0_people, .int p0_women, .long p0_couples, .long p0_quarrels, .long p0_togethers, .long p0_barred, .ref a_p0_worths]))] t) (va_A [(a_p0, .inr (3, [.int p0_round, .int p0_byTurns, .int p0_apart, .int p0_people, .int p0_women, .long p0_couples, .long p0_quarrels, .long p0_togethers, .long p0_barred, .ref a_p0_worths]))] sz)) 0 0 (va_A [(a_p0, .inr (3, [.int p0_round, .int p0_byTurns, .int p0_apart, .int p0_people, .int p0_women, .long p0_couples, .long p0_quarrels, .long p0_togethers, .long p0_barred, .ref a_p0_worths]))] sz) := by
  refine Met.ofW (cc := cX4_neighbours) (maxL := 8) (ret := (some .long)) (by decide) rfl ?_
  intro p e s m args below meth c s₁ B hml hv
  obtain ⟨rfl, hsz, hP, hK, hD0⟩ := hv
  have hx := B.exec
  have hb := B.bytes
  have hr := B.returns
  have hts := atoms_spec (ws := wsX4_neighbours) B.pre
  have hown : s.vm.findClass RX4 = some m.cls := findClass_of_methodNamed B.named
  have hlocks := B.notSynchronized
  subst hsz
  have hD := hD0.self (sz := s.heap.size)
  generalize hAe : va_A [(a_p0, .inr (3, [.int p0_round, .int p0_byTurns, .int p0_apart, .int p0_people, .int p0_women, .long p0_couples, .long p0_quarrels, .long p0_togethers, .long p0_barred, .ref a_p0_worths]))] s.heap.size = A at hD ⊢
  have hA : ∀ q : Nat, s.heap.size ≤ q → A q := fun q h => by rw [← hAe]; exact Or.inr h
  have hS : va_S A s.heap s.heap [] := va_S.rf
  have hP : va_P (dC, dI) vwCl [(a_p0, .inr (3, [.int p0_round, .int p0_byTurns, .int p0_apart, .int p0_people, .int p0_women, .long p0_couples, .long p0_quarrels, .long p0_togethers, .long p0_barred, .ref a_p0_worths]))] s.heap := hP
  have hl := lv_entry ([.ref a_p0, .int x1]) (n := 8) (Nat.le_of_ble_eq_true rfl)
  rw [lg_entry_eq]
  generalize (lg_sl ([.ref a_p0, .int x1]) ++ List.replicate (8 - (lg_sl ([.ref a_p0, .int x1])).length) Slot.unset).toArray = ls at hl ⊢
  have hl : lv_has ls 8 [(0, .ref a_p0), (1, .int x1)] := hl
  refine pw_Wq (R := rm_X4_neighbours) (fun Q hQ => ?_)
  obtain ⟨locs, elocs⟩ : ∃ y : List Loc, y = [] := ⟨_, rfl⟩
  rw [← elocs] at hS ⊢
  have h := hc
  unfold f_X4_neighbours at h
  refine lv_lconst (v := 0) hx hb dX4_neighbours_0 (by decide) ?_
  refine lv_lstore_n (lv' := [(2, .long 0), (0, .ref a_p0), (1, .int x1)]) hx hb dX4_neighbours_1 rfl hl (by decide) rfl (fun ls hl => ?_)
  refine lv_aload_n hx hb dX4_neighbours_2 rfl (lv_at hl 1 rfl) ?_
  refine pw_ci (wr := []) (va_runV (As := []) (rest := []) ⟨hx, hb, hml, hown, hts⟩ (c_X4_neighbourPairs l dC dI cI cZ s.heap.size a_p0 a_p0_worths p0_round p0_byTurns p0_apart p0_people p0_women p0_couples p0_quarrels p0_togethers p0_barred) (cwV 0 hts gX4_neighbours_X4_neighbourPairs rfl rfl rfl (by decide +kernel) ⟨(Nat.le_of_ble_eq_true rfl), (Nat.le_of_ble_eq_true rfl)⟩) (pw_preV hK hP hD [0] rfl rfl (by decide) 3 rfl rfl) rfl rfl hl.1 rfl (lv_room (Nat.le_of_ble_eq_true rfl)) dX4_neighbours_3 ⟨(Nat.le_of_ble_eq_true rfl), (Nat.le_of_ble_eq_true rfl)⟩) hP hD hS hA [0] [] rfl rfl (by decide) (by decide) (fun r1 u H locs hw hP hD hS => ?_)
  have h := pw_lt_e hw h
  have hP : va_P (dC, dI) vwCl [(a_p0, .inr (3, [.int p0_round, .int p0_byTurns, .int p0_apart, .int p0_people, .int p0_women, .long p0_couples, .long p0_quarrels, .long p0_togethers, .long p0_barred, .ref a_p0_worths]))] H := hP
  have hD : va_D A [(a_p0, .inr (3, [.int p0_round, .int p0_byTurns, .int p0_apart, .int p0_people, .int p0_women, .long p0_couples, .long p0_quarrels, .long p0_togethers, .long p0_barred, .ref a_p0_worths]))] := hD
  refine lv_istore (lv' := [(4, .int r1), (2, .long 0), (0, .ref a_p0), (1, .int x1)]) hx hb dX4_neighbours_6 hl (by decide) rfl (fun ls hl => ?_)
  refine lv_iload_n hx hb dX4_neighbours_8 rfl (lv_at hl 3 rfl) ?_
  refine lv_iconst (v := 0) hx hb dX4_neighbours_9 (by decide) ?_
  refine pw_ci (wr := [(a_p0, .inr (3, [.int p0_round, .int p0_byTurns, .int p0_apart, .int p0_people, .int p0_women, .long p0_couples, .long p0_quarrels, .long p0_togethers, .long p0_barred, .ref a_p0_worths]))]) (va_runS (As := [.int x1, .int 0]) (rest := []) ⟨hx, hb, hml, hown, hts⟩ (c_X7_personOn l dC dI cI cZ H.size x1 0) (va_cwS 2 hts gX4_neighbours_X7_personOn rfl rfl rfl (by decide +kernel) ⟨(Nat.le_of_ble_eq_true rfl), (Nat.le_of_ble_eq_true rfl)⟩) (pw_preS hK hP hD [] rfl rfl (by decide)) rfl rfl hl.1 rfl (lv_room (Nat.le_of_ble_eq_true rfl)) dX4_neighbours_10 ⟨(Nat.le_of_ble_eq_true rfl), (Nat.le_of_ble_eq_true rfl)⟩) hP hD hS hA [] [0] rfl rfl (by decide) (by decide) (fun r4 u H locs hw hP hD hS => ?_)
  have h := pw_lt_e hw h
  have hP : va_P (dC, dI) vwCl [(a_p0, .inr (3, [.int p0_round, .int p0_byTurns, .int p0_apart, .int p0_people, .int p0_women, .long p0_couples, .long p0_quarrels, .long p0_togethers, .long p0_barred, .ref a_p0_worths]))] H := hP
  have hD : va_D A [(a_p0, .inr (3, [.int p0_round, .int p0_byTurns, .int p0_apart, .int p0_people, .int p0_women, .long p0_couples, .long p0_quarrels, .long p0_togethers, .long p0_barred, .ref a_p0_worths]))] := hD
  refine lv_istore (lv' := [(5, .int r4), (4, .int r1), (2, .long 0), (0, .ref a_p0), (1, .int x1)]) hx hb dX4_neighbours_13 hl (by decide) rfl (fun ls hl => ?_)
  refine lv_iconst (v := 0) hx hb dX4_neighbours_15 (by decide) ?_
  refine lv_istore (lv' := [(6, .int 0), (5, .int r4), (4, .int r1), (2, .long 0), (0, .ref a_p0), (1, .int x1)]) hx hb dX4_neighbours_16 hl (by decide) rfl (fun ls hl => ?_)
  have hl := lv_sub (l' := [(0, .ref a_p0), (1, .int x1), (2, .long 0), (4, .int r1), (5, .int r4), (6, .int 0)]) hl [4, 5, 3, 2, 1, 0] rfl
  obtain ⟨xx19, hL20, h⟩ := pw_bd_e h
  refine lw_X4_neighbours_18 hx hb hml hown hts hA hK a_p0 a_p0_worths x1 r1 p0_round p0_byTurns p0_apart p0_people p0_women p0_couples p0_quarrels p0_togethers p0_barred pw_FU 0 r4 0 xx19 hL20 ?_ _ locs ls hP hD hS hl
  intro y21 ex H locs ls hP hD hS hl
  subst ex
  have h := pw_u1_e h
  refine lv_lload_n hx hb dX4_neighbours_64 rfl (lv_at hl 0 rfl) ?_
  rw [hQ]
  exact W.lret (v := y21) hx hb hr (fun t ht hW => ⟨⟨y21, (), rfl, hc.trans h.symm, by rw [ht]; exact hP, va_K.moved hW.alike hK, hD⟩, hS.F ht⟩) hS.2.2 dX4_neighbours_65
/-! X4_isLawful -/
theorem li_X4_isLawful_X4 : ∀ w ∈ u_ws RX4 TX4 10, w ∈ wsX4_isLawful := fun w h => List.mem_cons_of_mem _ (List.mem_append_right _ h)
theorem lk_X4_isLawful_38 : Cond.fieldLink RX4 38 "NoWifeBeside$Party" "barred" "J" ∈ wsX4_isLawful := by decide +kernel
theorem lk_X4_isLawful_35 : Cond.fieldLink RX4 35 "NoWifeBeside$Party" "togethers" "J" ∈ wsX4_isLawful := by decide +kernel
theorem lk_X4_isLawful_k92 : Cond.constantLong RX4 92 (-1) ∈ wsX4_isLawful := by decide +kernel
abbrev rm_X4_isLawful : Room := { frames := 2, cells := 0, slots := 0, locals := 48 }
set_option maxRecDepth 100000 in
set_option maxHeartbeats 4000000 in
theorem c_X4_isLawful (l : Launch) (dC : Nat → ClassId) (dI : Nat → Nat → Nat) (cI cZ : ClassId) (sz : Nat) (a_p0 : Nat) (a_p0_worths : Nat) (p0_round : Int32) (p0_byTurns : Int32) (p0_apart : Int32) (p0_people : Int32) (p0_women : Int32) (p0_couples : Int64) (p0_quarrels : Int64) (p0_togethers : Int64) (p0_barred : Int64) (x1 : Int32) (xx : Int32) (hc : f_X4_isLawful x1 p0_round p0_people p0_togethers p0_barred = some xx) : Met l yX4_isLawful wsX4_isLawful rm_X4_isLawful (va_Pc [.ref a_p0, .int x1] (pw_pre (dC, dI) cI cZ [(a_p0, .inr (3, [.int p0_round, .int p0_byTurns, .int p0_apart, .int p0_people, .int p0_women, .long p0_couples, .long p0_quarrels, .long p0_togethers, .long p0_barred, .ref a_p0_worths]))] sz)) (va_Qi (fun (r : Int32) (u : Unit) => f_X4_isLawful x1 p0_round p0_people p0_togethers p0_barred = some r) (fun u t => pw_post (dC, dI) cI cZ (va_A [(a_p0, .inr (3, [.int p0_round, .int p0_byTurns, .int p0_apart, .int p0_people, .int p0_women, .long p0_couples, .long p0_quarrels, .long p0_togethers, .long p0_barred, .ref a_p0_worths]))] sz) [(a_p0, .inr (3, [.int p0_round, .int p0_byTurns, .int p0_apart, .int p0_people, .int p0_women, .long p0_couples, .long p0_quarrels, .long p0_togethers, .long p0_barred, .ref a_p0_worths]))] t) (va_A [(a_p0, .inr (3, [.int p0_round, .int p0_byTurns, .int p0_apart, .int p0_people, .int p0_women, .long p0_couples, .long p0_quarrels, .long p0_togethers, .long p0_barred, .ref a_p0_worths]))] sz)) 0 0 (va_A [(a_p0, .inr (3, [.int p0_round, .int p0_byTurns, .int p0_apart, .int p0_people, .int p0_women, .long p0_couples, .long p0_quarrels, .long p0_togethers, .long p0_barred, .ref a_p0_worths]))] sz) := by
  refine Met.ofW (cc := cX4_isLawful) (maxL := 4) (ret := (some .boolean)) (by decide) rfl ?_
  intro p e s m args below meth c s₁ B hml hv
  obtain ⟨rfl, hsz, hP, hK, hD0⟩ := hv
  have hx := B.exec
  have hb := B.bytes
  have hr := B.returns
  have hts := atoms_spec (ws := wsX4_isLawful) B.pre
  have hown : s.vm.findClass RX4 = some m.cls := findClass_of_methodNamed B.named
  have hlocks := B.notSynchronized
  subst hsz
  have hD := hD0.self (sz := s.heap.size)
  generalize hAe : va_A [(a_p0, .inr (3, [.int p0_round, .int p0_byTurns, .int p0_apart, .int p0_people, .int p0_women, .long p0_couples, .long p0_quarrels, .long p0_togethers, .long p0_barred, .ref a_p0_worths]))] s.heap.size = A at hD ⊢
  have hA : ∀ q : Nat, s.heap.size ≤ q → A q := fun q h => by rw [← hAe]; exact Or.inr h
  have hS : va_S A s.heap s.heap [] := va_S.rf
  have hP : va_P (dC, dI) vwCl [(a_p0, .inr (3, [.int p0_round, .int p0_byTurns, .int p0_apart, .int p0_people, .int p0_women, .long p0_couples, .long p0_quarrels, .long p0_togethers, .long p0_barred, .ref a_p0_worths]))] s.heap := hP
  have hl := lv_entry ([.ref a_p0, .int x1]) (n := 4) (Nat.le_of_ble_eq_true rfl)
  rw [lg_entry_eq]
  generalize (lg_sl ([.ref a_p0, .int x1]) ++ List.replicate (4 - (lg_sl ([.ref a_p0, .int x1])).length) Slot.unset).toArray = ls at hl ⊢
  have hl : lv_has ls 4 [(0, .ref a_p0), (1, .int x1)] := hl
  refine pw_Wq (R := rm_X4_isLawful) (fun Q hQ => ?_)
  obtain ⟨locs, elocs⟩ : ∃ y : List Loc, y = [] := ⟨_, rfl⟩
  rw [← elocs] at hS ⊢
  have h := hc
  unfold f_X4_isLawful at h
  refine lv_aload_n hx hb dX4_isLawful_0 rfl (lv_at hl 0 rfl) ?_
  refine lv_iload_n hx hb dX4_isLawful_1 rfl (lv_at hl 1 rfl) ?_
  obtain ⟨xx3, hc2, h⟩ := pw_bd_e h
  refine pw_cl (wr := []) (va_runV (As := [.int x1]) (rest := []) ⟨hx, hb, hml, hown, hts⟩ (c_X4_neighbours l dC dI cI cZ s.heap.size a_p0 a_p0_worths p0_round p0_byTurns p0_apart p0_people p0_women p0_couples p0_quarrels p0_togethers p0_barred x1 xx3 hc2) (cwV 1 hts gX4_isLawful_X4_neighbours rfl rfl rfl (by decide +kernel) ⟨(Nat.le_of_ble_eq_true rfl), (Nat.le_of_ble_eq_true rfl)⟩) (pw_preV hK hP hD [0] rfl rfl (by decide) 3 rfl rfl) rfl rfl hl.1 rfl (lv_room (Nat.le_of_ble_eq_true rfl)) dX4_isLawful_2 ⟨(Nat.le_of_ble_eq_true rfl), (Nat.le_of_ble_eq_true rfl)⟩) hP hD hS hA [0] [] rfl rfl (by decide) (by decide) (fun r1 u H locs hw hP hD hS => ?_)
  have ex : r1 = xx3 := Option.some.inj (hw.symm.trans hc2)
  subst ex
  have h := pw_u1_e h
  have hP : va_P (dC, dI) vwCl [(a_p0, .inr (3, [.int p0_round, .int p0_byTurns, .int p0_apart, .int p0_people, .int p0_women, .long p0_couples, .long p0_quarrels, .long p0_togethers, .long p0_barred, .ref a_p0_worths]))] H := hP
  have hD : va_D A [(a_p0, .inr (3, [.int p0_round, .int p0_byTurns, .int p0_apart, .int p0_people, .int p0_women, .long p0_couples, .long p0_quarrels, .long p0_togethers, .long p0_barred, .ref a_p0_worths]))] := hD
  refine lv_lstore_n (lv' := [(2, .long r1), (0, .ref a_p0), (1, .int x1)]) hx hb dX4_isLawful_5 rfl hl (by decide) rfl (fun ls hl => ?_)
  refine lv_lload_n hx hb dX4_isLawful_6 rfl (lv_at hl 0 rfl) ?_
  refine lv_aload_n hx hb dX4_isLawful_7 rfl (lv_at hl 1 rfl) ?_
  refine va_get (D := (dC, dI)) (ci := 3) (v := .long p0_barred) (C := RX4) (T := TX4) (N := 10) hx hb hts li_X4_isLawful_X4 hown hK hP 0 rfl rfl 8 (by decide) (hts _ lk_X4_isLawful_38) (fun _ h9 => h9) rfl dX4_isLawful_8 ?_
  refine lv_land hx hb dX4_isLawful_11 ?_
  refine lv_lconst (v := 0) hx hb dX4_isLawful_12 (by decide) ?_
  refine W.lcmp hx hb dX4_isLawful_13 ?_
  refine lv_if_ne (tgt := 36) hx hb dX4_isLawful_14 (by decide) (fun c4 => ?_) (fun c4 => ?_)
  · have h := pw_cd_p c4 h
    refine lv_iconst (v := 0) hx hb dX4_isLawful_36 (by decide) ?_
    rw [hQ]
    exact W.zret (v := 0) hx hb hr rfl (fun t ht hW => ⟨⟨0, (), rfl, hc.trans h.symm, by rw [ht]; exact hP, va_K.moved hW.alike hK, hD⟩, hS.F ht⟩) hS.2.2 dX4_isLawful_37
  · have h := pw_cd_n (fun q => q c4) h
    refine lv_aload_n hx hb dX4_isLawful_17 rfl (lv_at hl 1 rfl) ?_
    refine va_get (D := (dC, dI)) (ci := 3) (v := .long p0_togethers) (C := RX4) (T := TX4) (N := 10) hx hb hts li_X4_isLawful_X4 hown hK hP 0 rfl rfl 7 (by decide) (hts _ lk_X4_isLawful_35) (fun _ h9 => h9) rfl dX4_isLawful_18 ?_
    refine lv_lload_n hx hb dX4_isLawful_21 rfl (lv_at hl 0 rfl) ?_
    refine lv_ldc2 (own := RX4) (v := (-1)) hx hb hown (hts _ lk_X4_isLawful_k92) dX4_isLawful_22 ?_
    refine lv_lxor hx hb dX4_isLawful_25 ?_
    refine lv_land hx hb dX4_isLawful_26 ?_
    refine lv_lconst (v := 0) hx hb dX4_isLawful_27 (by decide) ?_
    refine W.lcmp hx hb dX4_isLawful_28 ?_
    refine lv_if_ne (tgt := 36) hx hb dX4_isLawful_29 (by decide) (fun c5 => ?_) (fun c5 => ?_)
    · have h := pw_cd_p c5 h
      refine lv_iconst (v := 0) hx hb dX4_isLawful_36 (by decide) ?_
      rw [hQ]
      exact W.zret (v := 0) hx hb hr rfl (fun t ht hW => ⟨⟨0, (), rfl, hc.trans h.symm, by rw [ht]; exact hP, va_K.moved hW.alike hK, hD⟩, hS.F ht⟩) hS.2.2 dX4_isLawful_37
    · have h := pw_cd_n (fun q => q c5) h
      refine lv_iconst (v := 1) hx hb dX4_isLawful_32 (by decide) ?_
      refine lv_goto (tgt := 37) hx hb dX4_isLawful_33 (by decide) ?_
      rw [hQ]
      exact W.zret (v := 1) hx hb hr rfl (fun t ht hW => ⟨⟨1, (), rfl, hc.trans h.symm, by rw [ht]; exact hP, va_K.moved hW.alike hK, hD⟩, hS.F ht⟩) hS.2.2 dX4_isLawful_37
/-! X4_firstWrong -/
theorem li_X4_firstWrong_X4 : ∀ w ∈ u_ws RX4 TX4 10, w ∈ wsX4_firstWrong := fun w h => List.mem_cons_of_mem _ (List.mem_append_right _ h)
theorem lk_X4_firstWrong_38 : Cond.fieldLink RX4 38 "NoWifeBeside$Party" "barred" "J" ∈ wsX4_firstWrong := by decide +kernel
theorem lk_X4_firstWrong_35 : Cond.fieldLink RX4 35 "NoWifeBeside$Party" "togethers" "J" ∈ wsX4_firstWrong := by decide +kernel
theorem lk_X4_firstWrong_k92 : Cond.constantLong RX4 92 (-1) ∈ wsX4_firstWrong := by decide +kernel
theorem lk_X4_firstWrong_21 : Cond.fieldLink RX4 21 "NoWifeBeside$Party" "people" "I" ∈ wsX4_firstWrong := by decide +kernel
abbrev rm_X4_firstWrong : Room := { frames := 2, cells := 0, slots := 0, locals := 48 }
set_option maxRecDepth 100000 in
set_option maxHeartbeats 4000000 in
theorem lw_X4_firstWrong_28 {p : Program} {l : Launch} {e : Env} {s : State} {m : MethodId} {args : Array Value} {below : List Frame} {meth : Method} {c : Code} {Q : State → Prop} {dC : Nat → ClassId} {dI : Nat → Nat → Nat} {cI cZ : ClassId} {A : Nat → Prop} (hx : p.tables.exec = Jvm.exec) (hb : c.code = cX4_firstWrong) (hml : c.maxLocals = 7) (hown : s.vm.findClass RX4 = some m.cls) (hts : ∀ w ∈ wsX4_firstWrong, w.before args s = true) (hA : ∀ q : Nat, s.heap.size ≤ q → A q) (hK : va_K (dC, dI) vwCl [(cI, .int), (cZ, .boolean)] s) (a_p0 : Nat) (a_p0_worths : Nat) (l1 : Int32) (l4 : Int64) (p0_round : Int32) (p0_byTurns : Int32) (p0_apart : Int32) (p0_people : Int32) (p0_women : Int32) (p0_couples : Int64) (p0_quarrels : Int64) (p0_togethers : Int64) (p0_barred : Int64) :
    ∀ (n : Nat) (l6 : Int32) (xx : (Int32) ⊕ (Unit)), lf_X4_firstWrong_28 l1 l4 p0_people n l6 = some xx → ((∀ (e_l6 : Int32), Sum.inl e_l6 = xx → ∀ (H : Heap) (locs : List Loc) (ls : Array Slot), va_P (dC, dI) vwCl [(a_p0, .inr (3, [.int p0_round, .int p0_byTurns, .int p0_apart, .int p0_people, .int p0_women, .long p0_couples, .long p0_quarrels, .long p0_togethers, .long p0_barred, .ref a_p0_worths]))] H → va_D A [(a_p0, .inr (3, [.int p0_round, .int p0_byTurns, .int p0_apart, .int p0_people, .int p0_women, .long p0_couples, .long p0_quarrels, .long p0_togethers, .long p0_barred, .ref a_p0_worths]))] → va_S A s.heap H locs → lv_has ls 7 [(6, .int e_l6)] → W p l e rm_X4_firstWrong s m args below meth c H locs 0 0 Q (F0 m 58 ls [])) ∧ (Sum.inr () = xx → ∀ (H : Heap) (locs : List Loc) (ls : Array Slot), va_P (dC, dI) vwCl [(a_p0, .inr (3, [.int p0_round, .int p0_byTurns, .int p0_apart, .int p0_people, .int p0_women, .long p0_couples, .long p0_quarrels, .long p0_togethers, .long p0_barred, .ref a_p0_worths]))] H → va_D A [(a_p0, .inr (3, [.int p0_round, .int p0_byTurns, .int p0_apart, .int p0_people, .int p0_women, .long p0_couples, .long p0_quarrels, .long p0_togethers, .long p0_barred, .ref a_p0_worths]))] → va_S A s.heap H locs → lv_has ls 7 [] → W p l e rm_X4_firstWrong s m args below meth c H locs 0 0 Q (F0 m 67 ls []))) → ∀ (H : Heap) (locs : List Loc) (ls : Array Slot), va_P (dC, dI) vwCl [(a_p0, .inr (3, [.int p0_round, .int p0_byTurns, .int p0_apart, .int p0_people, .int p0_women, .long p0_couples, .long p0_quarrels, .long p0_togethers, .long p0_barred, .ref a_p0_worths]))] H → va_D A [(a_p0, .inr (3, [.int p0_round, .int p0_byTurns, .int p0_apart, .int p0_people, .int p0_women, .long p0_couples, .long p0_quarrels, .long p0_togethers, .long p0_barred, .ref a_p0_worths]))] → va_S A s.heap H locs → lv_has ls 7 [(0, .ref a_p0), (1, .int l1), (4, .long l4), (6, .int l6)] → W p l e rm_X4_firstWrong s m args below meth c H locs 0 0 Q (F0 m 28 ls []) := by
  intro n
  induction n with
  | zero =>
    intro l6 xx h
    rw [lf_X4_firstWrong_28] at h
    cases h
  | succ n ih =>
    intro l6 xx h KK H locs ls hP hD hS hl
    rw [lf_X4_firstWrong_28] at h
    refine lv_iload hx hb dX4_firstWrong_28 (lv_at hl 3 rfl) ?_
    refine lv_aload_n hx hb dX4_firstWrong_30 rfl (lv_at hl 0 rfl) ?_
    refine va_get (D := (dC, dI)) (ci := 3) (v := .int p0_people) (C := RX4) (T := TX4) (N := 10) hx hb hts li_X4_firstWrong_X4 hown hK hP 0 rfl rfl 3 (by decide) (hts _ lk_X4_firstWrong_21) (fun _ h9 => h9) rfl dX4_firstWrong_31 ?_
    refine lv_icmp_ge (tgt := 67) hx hb dX4_firstWrong_34 (by decide) (fun c5 => ?_) (fun c5 => ?_)
    · have h := pw_cd_p c5 h
      have hl := lv_sub (l' := []) hl [] rfl
      exact KK.2 (Option.some.inj h) _ locs ls hP hD hS hl
    · have h := pw_cd_n c5 h
      refine lv_iload hx hb dX4_firstWrong_37 (lv_at hl 3 rfl) ?_
      refine lv_bipush (v := 7) hx hb dX4_firstWrong_39 (by decide) ?_
      refine lv_icmp_ge (tgt := 67) hx hb dX4_firstWrong_41 (by decide) (fun c6 => ?_) (fun c6 => ?_)
      · have h := pw_cd_p c6 h
        have hl := lv_sub (l' := []) hl [] rfl
        exact KK.2 (Option.some.inj h) _ locs ls hP hD hS hl
      · have h := pw_cd_n c6 h
        refine lv_lload hx hb dX4_firstWrong_44 (lv_at hl 2 rfl) ?_
        refine lv_iload_n hx hb dX4_firstWrong_46 rfl (lv_at hl 1 rfl) ?_
        refine lv_iload hx hb dX4_firstWrong_47 (lv_at hl 3 rfl) ?_
        refine pw_ci (wr := [(a_p0, .inr (3, [.int p0_round, .int p0_byTurns, .int p0_apart, .int p0_people, .int p0_women, .long p0_couples, .long p0_quarrels, .long p0_togethers, .long p0_barred, .ref a_p0_worths]))]) (va_runS (As := [.int l1, .int l6]) (rest := [.long l4]) ⟨hx, hb, hml, hown, hts⟩ (c_X7_personOn l dC dI cI cZ H.size l1 l6) (va_cwS 2 hts gX4_firstWrong_X7_personOn rfl rfl rfl (by decide +kernel) ⟨(Nat.le_of_ble_eq_true rfl), (Nat.le_of_ble_eq_true rfl)⟩) (pw_preS hK hP hD [] rfl rfl (by decide)) rfl rfl hl.1 rfl (lv_room (Nat.le_of_ble_eq_true rfl)) dX4_firstWrong_49 ⟨(Nat.le_of_ble_eq_true rfl), (Nat.le_of_ble_eq_true rfl)⟩) hP hD hS hA [] [0] rfl rfl (by decide) (by decide) (fun r7 u H locs hw hP hD hS => ?_)
        have h := pw_lt_e hw h
        have hP : va_P (dC, dI) vwCl [(a_p0, .inr (3, [.int p0_round, .int p0_byTurns, .int p0_apart, .int p0_people, .int p0_women, .long p0_couples, .long p0_quarrels, .long p0_togethers, .long p0_barred, .ref a_p0_worths]))] H := hP
        have hD : va_D A [(a_p0, .inr (3, [.int p0_round, .int p0_byTurns, .int p0_apart, .int p0_people, .int p0_women, .long p0_couples, .long p0_quarrels, .long p0_togethers, .long p0_barred, .ref a_p0_worths]))] := hD
        refine pw_ci (wr := [(a_p0, .inr (3, [.int p0_round, .int p0_byTurns, .int p0_apart, .int p0_people, .int p0_women, .long p0_couples, .long p0_quarrels, .long p0_togethers, .long p0_barred, .ref a_p0_worths]))]) (va_runS (As := [.long l4, .int r7]) (rest := []) ⟨hx, hb, hml, hown, hts⟩ (c_X3_rowOf l dC dI cI cZ H.size l4 r7) (va_cwS 2 hts gX4_firstWrong_X3_rowOf rfl rfl rfl (by decide +kernel) ⟨(Nat.le_of_ble_eq_true rfl), (Nat.le_of_ble_eq_true rfl)⟩) (pw_preS hK hP hD [] rfl rfl (by decide)) rfl rfl hl.1 rfl (lv_room (Nat.le_of_ble_eq_true rfl)) dX4_firstWrong_52 ⟨(Nat.le_of_ble_eq_true rfl), (Nat.le_of_ble_eq_true rfl)⟩) hP hD hS hA [] [0] rfl rfl (by decide) (by decide) (fun r10 u H locs hw hP hD hS => ?_)
        have h := pw_lt_e hw h
        have hP : va_P (dC, dI) vwCl [(a_p0, .inr (3, [.int p0_round, .int p0_byTurns, .int p0_apart, .int p0_people, .int p0_women, .long p0_couples, .long p0_quarrels, .long p0_togethers, .long p0_barred, .ref a_p0_worths]))] H := hP
        have hD : va_D A [(a_p0, .inr (3, [.int p0_round, .int p0_byTurns, .int p0_apart, .int p0_people, .int p0_women, .long p0_couples, .long p0_quarrels, .long p0_togethers, .long p0_barred, .ref a_p0_worths]))] := hD
        refine lv_if_eq (tgt := 61) hx hb dX4_firstWrong_55 (by decide) (fun c13 => ?_) (fun c13 => ?_)
        · have h := pw_cd_p c13 h
          refine lv_iinc (v := (l6 + 1)) (lv' := [(6, .int (l6 + 1)), (0, .ref a_p0), (1, .int l1), (4, .long l4)]) hx hb dX4_firstWrong_61 hl (k := 3) rfl rfl (by decide) rfl (fun ls hl => ?_)
          refine lv_goto (tgt := 28) hx hb dX4_firstWrong_64 (by decide) ?_
          have hl := lv_sub (l' := [(0, .ref a_p0), (1, .int l1), (4, .long l4), (6, .int (l6 + 1))]) hl [1, 2, 3, 0] rfl
          exact ih (l6 + 1) xx h KK _ locs ls hP hD hS hl
        · have h := pw_cd_n c13 h
          have hl := lv_sub (l' := [(6, .int l6)]) hl [3] rfl
          exact KK.1 l6 (Option.some.inj h) _ locs ls hP hD hS hl
set_option maxRecDepth 100000 in
set_option maxHeartbeats 4000000 in
theorem c_X4_firstWrong (l : Launch) (dC : Nat → ClassId) (dI : Nat → Nat → Nat) (cI cZ : ClassId) (sz : Nat) (a_p0 : Nat) (a_p0_worths : Nat) (p0_round : Int32) (p0_byTurns : Int32) (p0_apart : Int32) (p0_people : Int32) (p0_women : Int32) (p0_couples : Int64) (p0_quarrels : Int64) (p0_togethers : Int64) (p0_barred : Int64) (x1 : Int32) (xx : Int32) (hc : f_X4_firstWrong x1 p0_round p0_people p0_togethers p0_barred = some xx) : Met l yX4_firstWrong wsX4_firstWrong rm_X4_firstWrong (va_Pc [.ref a_p0, .int x1] (pw_pre (dC, dI) cI cZ [(a_p0, .inr (3, [.int p0_round, .int p0_byTurns, .int p0_apart, .int p0_people, .int p0_women, .long p0_couples, .long p0_quarrels, .long p0_togethers, .long p0_barred, .ref a_p0_worths]))] sz)) (va_Qi (fun (r : Int32) (u : Unit) => f_X4_firstWrong x1 p0_round p0_people p0_togethers p0_barred = some r) (fun u t => pw_post (dC, dI) cI cZ (va_A [(a_p0, .inr (3, [.int p0_round, .int p0_byTurns, .int p0_apart, .int p0_people, .int p0_women, .long p0_couples, .long p0_quarrels, .long p0_togethers, .long p0_barred, .ref a_p0_worths]))] sz) [(a_p0, .inr (3, [.int p0_round, .int p0_byTurns, .int p0_apart, .int p0_people, .int p0_women, .long p0_couples, .long p0_quarrels, .long p0_togethers, .long p0_barred, .ref a_p0_worths]))] t) (va_A [(a_p0, .inr (3, [.int p0_round, .int p0_byTurns, .int p0_apart, .int p0_people, .int p0_women, .long p0_couples, .long p0_quarrels, .long p0_togethers, .long p0_barred, .ref a_p0_worths]))] sz)) 0 0 (va_A [(a_p0, .inr (3, [.int p0_round, .int p0_byTurns, .int p0_apart, .int p0_people, .int p0_women, .long p0_couples, .long p0_quarrels, .long p0_togethers, .long p0_barred, .ref a_p0_worths]))] sz) := by
  refine Met.ofW (cc := cX4_firstWrong) (maxL := 7) (ret := (some .int)) (by decide) rfl ?_
  intro p e s m args below meth c s₁ B hml hv
  obtain ⟨rfl, hsz, hP, hK, hD0⟩ := hv
  have hx := B.exec
  have hb := B.bytes
  have hr := B.returns
  have hts := atoms_spec (ws := wsX4_firstWrong) B.pre
  have hown : s.vm.findClass RX4 = some m.cls := findClass_of_methodNamed B.named
  have hlocks := B.notSynchronized
  subst hsz
  have hD := hD0.self (sz := s.heap.size)
  generalize hAe : va_A [(a_p0, .inr (3, [.int p0_round, .int p0_byTurns, .int p0_apart, .int p0_people, .int p0_women, .long p0_couples, .long p0_quarrels, .long p0_togethers, .long p0_barred, .ref a_p0_worths]))] s.heap.size = A at hD ⊢
  have hA : ∀ q : Nat, s.heap.size ≤ q → A q := fun q h => by rw [← hAe]; exact Or.inr h
  have hS : va_S A s.heap s.heap [] := va_S.rf
  have hP : va_P (dC, dI) vwCl [(a_p0, .inr (3, [.int p0_round, .int p0_byTurns, .int p0_apart, .int p0_people, .int p0_women, .long p0_couples, .long p0_quarrels, .long p0_togethers, .long p0_barred, .ref a_p0_worths]))] s.heap := hP
  have hl := lv_entry ([.ref a_p0, .int x1]) (n := 7) (Nat.le_of_ble_eq_true rfl)
  rw [lg_entry_eq]
  generalize (lg_sl ([.ref a_p0, .int x1]) ++ List.replicate (7 - (lg_sl ([.ref a_p0, .int x1])).length) Slot.unset).toArray = ls at hl ⊢
  have hl : lv_has ls 7 [(0, .ref a_p0), (1, .int x1)] := hl
  refine pw_Wq (R := rm_X4_firstWrong) (fun Q hQ => ?_)
  obtain ⟨locs, elocs⟩ : ∃ y : List Loc, y = [] := ⟨_, rfl⟩
  rw [← elocs] at hS ⊢
  have h := hc
  unfold f_X4_firstWrong at h
  refine lv_aload_n hx hb dX4_firstWrong_0 rfl (lv_at hl 0 rfl) ?_
  refine lv_iload_n hx hb dX4_firstWrong_1 rfl (lv_at hl 1 rfl) ?_
  obtain ⟨xx3, hc2, h⟩ := pw_bd_e h
  refine pw_cl (wr := []) (va_runV (As := [.int x1]) (rest := []) ⟨hx, hb, hml, hown, hts⟩ (c_X4_neighbours l dC dI cI cZ s.heap.size a_p0 a_p0_worths p0_round p0_byTurns p0_apart p0_people p0_women p0_couples p0_quarrels p0_togethers p0_barred x1 xx3 hc2) (cwV 1 hts gX4_firstWrong_X4_neighbours rfl rfl rfl (by decide +kernel) ⟨(Nat.le_of_ble_eq_true rfl), (Nat.le_of_ble_eq_true rfl)⟩) (pw_preV hK hP hD [0] rfl rfl (by decide) 3 rfl rfl) rfl rfl hl.1 rfl (lv_room (Nat.le_of_ble_eq_true rfl)) dX4_firstWrong_2 ⟨(Nat.le_of_ble_eq_true rfl), (Nat.le_of_ble_eq_true rfl)⟩) hP hD hS hA [0] [] rfl rfl (by decide) (by decide) (fun r1 u H locs hw hP hD hS => ?_)
  have ex : r1 = xx3 := Option.some.inj (hw.symm.trans hc2)
  subst ex
  have h := pw_u1_e h
  have hP : va_P (dC, dI) vwCl [(a_p0, .inr (3, [.int p0_round, .int p0_byTurns, .int p0_apart, .int p0_people, .int p0_women, .long p0_couples, .long p0_quarrels, .long p0_togethers, .long p0_barred, .ref a_p0_worths]))] H := hP
  have hD : va_D A [(a_p0, .inr (3, [.int p0_round, .int p0_byTurns, .int p0_apart, .int p0_people, .int p0_women, .long p0_couples, .long p0_quarrels, .long p0_togethers, .long p0_barred, .ref a_p0_worths]))] := hD
  refine lv_lstore_n (lv' := [(2, .long r1), (0, .ref a_p0), (1, .int x1)]) hx hb dX4_firstWrong_5 rfl hl (by decide) rfl (fun ls hl => ?_)
  refine lv_lload_n hx hb dX4_firstWrong_6 rfl (lv_at hl 0 rfl) ?_
  refine lv_aload_n hx hb dX4_firstWrong_7 rfl (lv_at hl 1 rfl) ?_
  refine va_get (D := (dC, dI)) (ci := 3) (v := .long p0_barred) (C := RX4) (T := TX4) (N := 10) hx hb hts li_X4_firstWrong_X4 hown hK hP 0 rfl rfl 8 (by decide) (hts _ lk_X4_firstWrong_38) (fun _ h9 => h9) rfl dX4_firstWrong_8 ?_
  refine lv_land hx hb dX4_firstWrong_11 ?_
  refine lv_aload_n hx hb dX4_firstWrong_12 rfl (lv_at hl 1 rfl) ?_
  refine va_get (D := (dC, dI)) (ci := 3) (v := .long p0_togethers) (C := RX4) (T := TX4) (N := 10) hx hb hts li_X4_firstWrong_X4 hown hK hP 0 rfl rfl 7 (by decide) (hts _ lk_X4_firstWrong_35) (fun _ h9 => h9) rfl dX4_firstWrong_13 ?_
  refine lv_lload_n hx hb dX4_firstWrong_16 rfl (lv_at hl 0 rfl) ?_
  refine lv_ldc2 (own := RX4) (v := (-1)) hx hb hown (hts _ lk_X4_firstWrong_k92) dX4_firstWrong_17 ?_
  refine lv_lxor hx hb dX4_firstWrong_20 ?_
  refine lv_land hx hb dX4_firstWrong_21 ?_
  refine lv_lor hx hb dX4_firstWrong_22 ?_
  refine lv_topl (fun v4 ev4 => ?_)
  have h := pw_lt_e ev4 h
  refine lv_lstore (lv' := [(4, .long v4), (2, .long r1), (0, .ref a_p0), (1, .int x1)]) hx hb dX4_firstWrong_23 hl (by decide) rfl (fun ls hl => ?_)
  refine lv_iconst (v := 0) hx hb dX4_firstWrong_25 (by decide) ?_
  refine lv_istore (lv' := [(6, .int 0), (4, .long v4), (2, .long r1), (0, .ref a_p0), (1, .int x1)]) hx hb dX4_firstWrong_26 hl (by decide) rfl (fun ls hl => ?_)
  have hl := lv_sub (l' := [(0, .ref a_p0), (1, .int x1), (4, .long v4), (6, .int 0)]) hl [3, 4, 1, 0] rfl
  obtain ⟨xx14, hL15, h⟩ := pw_bs_e h
  refine lw_X4_firstWrong_28 hx hb hml hown hts hA hK a_p0 a_p0_worths x1 v4 p0_round p0_byTurns p0_apart p0_people p0_women p0_couples p0_quarrels p0_togethers p0_barred pw_FU 0 xx14 hL15 ⟨?_, ?_⟩ _ locs ls hP hD hS hl
  · intro y16 ex H locs ls hP hD hS hl
    subst ex
    have h := pw_sl_e h
    have h := pw_u1_e h
    refine lv_iload hx hb dX4_firstWrong_58 (lv_at hl 0 rfl) ?_
    rw [hQ]
    exact W.iret (v := y16) hx hb hr (fun t ht hW => ⟨⟨y16, (), rfl, hc.trans h.symm, by rw [ht]; exact hP, va_K.moved hW.alike hK, hD⟩, hS.F ht⟩) hS.2.2 dX4_firstWrong_60
  · intro ex H locs ls hP hD hS hl
    subst ex
    have h := pw_sr_e h
    have h := pw_u1_e h
    refine lv_bipush (v := (-9)) hx hb dX4_firstWrong_67 (by decide) ?_
    rw [hQ]
    exact W.iret (v := (-9)) hx hb hr (fun t ht hW => ⟨⟨(-9), (), rfl, hc.trans h.symm, by rw [ht]; exact hP, va_K.moved hW.alike hK, hD⟩, hS.F ht⟩) hS.2.2 dX4_firstWrong_69
/-! X4_worthTo -/
theorem li_X4_worthTo_X4 : ∀ w ∈ u_ws RX4 TX4 10, w ∈ wsX4_worthTo := fun w h => List.mem_cons_of_mem _ (List.mem_append_right _ h)
theorem lk_X4_worthTo_21 : Cond.fieldLink RX4 21 "NoWifeBeside$Party" "people" "I" ∈ wsX4_worthTo := by decide +kernel
theorem lk_X4_worthTo_43 : Cond.fieldLink RX4 43 "NoWifeBeside$Party" "worths" "[I" ∈ wsX4_worthTo := by decide +kernel
abbrev rm_X4_worthTo : Room := { frames := 2, cells := 0, slots := 0, locals := 48 }
set_option maxRecDepth 100000 in
set_option maxHeartbeats 4000000 in
theorem lw_X4_worthTo_16 {p : Program} {l : Launch} {e : Env} {s : State} {m : MethodId} {args : Array Value} {below : List Frame} {meth : Method} {c : Code} {Q : State → Prop} {dC : Nat → ClassId} {dI : Nat → Nat → Nat} {cI cZ : ClassId} {A : Nat → Prop} (hx : p.tables.exec = Jvm.exec) (hb : c.code = cX4_worthTo) (hml : c.maxLocals = 6) (hown : s.vm.findClass RX4 = some m.cls) (hts : ∀ w ∈ wsX4_worthTo, w.before args s = true) (hA : ∀ q : Nat, s.heap.size ≤ q → A q) (hK : va_K (dC, dI) vwCl [(cI, .int), (cZ, .boolean)] s) (a_p0 : Nat) (a_p0_worths : Nat) (l1 : Int32) (l3 : Int32) (p0_round : Int32) (p0_byTurns : Int32) (p0_apart : Int32) (p0_people : Int32) (p0_women : Int32) (p0_couples : Int64) (p0_quarrels : Int64) (p0_togethers : Int64) (p0_barred : Int64) (p0_worths_v : Nat → Int32) :
    ∀ (n : Nat) (l4 : Int32) (l5 : Int32) (xx : Int32), lf_X4_worthTo_16 l1 l3 p0_people p0_worths_v n l4 l5 = some xx → ((∀ (e_l4 : Int32), e_l4 = xx → ∀ (H : Heap) (locs : List Loc) (ls : Array Slot), va_P (dC, dI) vwCl [(a_p0, .inr (3, [.int p0_round, .int p0_byTurns, .int p0_apart, .int p0_people, .int p0_women, .long p0_couples, .long p0_quarrels, .long p0_togethers, .long p0_barred, .ref a_p0_worths])), (a_p0_worths, .inl (cI, 64, .inl p0_worths_v))] H → va_D A [(a_p0, .inr (3, [.int p0_round, .int p0_byTurns, .int p0_apart, .int p0_people, .int p0_women, .long p0_couples, .long p0_quarrels, .long p0_togethers, .long p0_barred, .ref a_p0_worths])), (a_p0_worths, .inl (cI, 64, .inl p0_worths_v))] → va_S A s.heap H locs → lv_has ls 6 [(4, .int e_l4)] → W p l e rm_X4_worthTo s m args below meth c H locs 0 0 Q (F0 m 63 ls []))) → ∀ (H : Heap) (locs : List Loc) (ls : Array Slot), va_P (dC, dI) vwCl [(a_p0, .inr (3, [.int p0_round, .int p0_byTurns, .int p0_apart, .int p0_people, .int p0_women, .long p0_couples, .long p0_quarrels, .long p0_togethers, .long p0_barred, .ref a_p0_worths])), (a_p0_worths, .inl (cI, 64, .inl p0_worths_v))] H → va_D A [(a_p0, .inr (3, [.int p0_round, .int p0_byTurns, .int p0_apart, .int p0_people, .int p0_women, .long p0_couples, .long p0_quarrels, .long p0_togethers, .long p0_barred, .ref a_p0_worths])), (a_p0_worths, .inl (cI, 64, .inl p0_worths_v))] → va_S A s.heap H locs → lv_has ls 6 [(0, .ref a_p0), (1, .int l1), (3, .int l3), (4, .int l4), (5, .int l5)] → W p l e rm_X4_worthTo s m args below meth c H locs 0 0 Q (F0 m 16 ls []) := by
  intro n
  induction n with
  | zero =>
    intro l4 l5 xx h
    rw [lf_X4_worthTo_16] at h
    cases h
  | succ n ih =>
    intro l4 l5 xx h KK H locs ls hP hD hS hl
    rw [lf_X4_worthTo_16] at h
    refine lv_iload hx hb dX4_worthTo_16 (lv_at hl 4 rfl) ?_
    refine lv_aload_n hx hb dX4_worthTo_18 rfl (lv_at hl 0 rfl) ?_
    refine va_get (D := (dC, dI)) (ci := 3) (v := .int p0_people) (C := RX4) (T := TX4) (N := 10) hx hb hts li_X4_worthTo_X4 hown hK hP 0 rfl rfl 3 (by decide) (hts _ lk_X4_worthTo_21) (fun _ h9 => h9) rfl dX4_worthTo_19 ?_
    refine lv_icmp_ge (tgt := 63) hx hb dX4_worthTo_22 (by decide) (fun c7 => ?_) (fun c7 => ?_)
    · have h := pw_cd_p c7 h
      have hl := lv_sub (l' := [(4, .int l4)]) hl [3] rfl
      exact KK l4 (Option.some.inj h) _ locs ls hP hD hS hl
    · have h := pw_cd_n c7 h
      refine lv_iload hx hb dX4_worthTo_25 (lv_at hl 4 rfl) ?_
      refine lv_bipush (v := 7) hx hb dX4_worthTo_27 (by decide) ?_
      refine lv_icmp_ge (tgt := 63) hx hb dX4_worthTo_29 (by decide) (fun c8 => ?_) (fun c8 => ?_)
      · have h := pw_cd_p c8 h
        have hl := lv_sub (l' := [(4, .int l4)]) hl [3] rfl
        exact KK l4 (Option.some.inj h) _ locs ls hP hD hS hl
      · have h := pw_cd_n c8 h
        refine lv_iload_n hx hb dX4_worthTo_32 rfl (lv_at hl 2 rfl) ?_
        refine lv_iload hx hb dX4_worthTo_33 (lv_at hl 4 rfl) ?_
        refine lv_ishr hx hb dX4_worthTo_35 ?_
        refine lv_iconst (v := 1) hx hb dX4_worthTo_36 (by decide) ?_
        refine lv_iand hx hb dX4_worthTo_37 ?_
        refine lv_if_eq (tgt := 57) hx hb dX4_worthTo_38 (by decide) (fun c9 => ?_) (fun c9 => ?_)
        · have h := pw_cd_p c9 h
          refine lv_iinc (v := (l5 + 1)) (lv' := [(5, .int (l5 + 1)), (0, .ref a_p0), (1, .int l1), (3, .int l3), (4, .int l4)]) hx hb dX4_worthTo_57 hl (k := 4) rfl rfl (by decide) rfl (fun ls hl => ?_)
          refine lv_goto (tgt := 16) hx hb dX4_worthTo_60 (by decide) ?_
          have hl := lv_sub (l' := [(0, .ref a_p0), (1, .int l1), (3, .int l3), (4, .int l4), (5, .int (l5 + 1))]) hl [1, 2, 3, 4, 0] rfl
          exact ih l4 (l5 + 1) xx h KK _ locs ls hP hD hS hl
        · have h := pw_cd_n c9 h
          refine lv_iload hx hb dX4_worthTo_41 (lv_at hl 3 rfl) ?_
          refine lv_aload_n hx hb dX4_worthTo_43 rfl (lv_at hl 0 rfl) ?_
          refine va_get (D := (dC, dI)) (ci := 3) (v := .ref a_p0_worths) (C := RX4) (T := TX4) (N := 10) hx hb hts li_X4_worthTo_X4 hown hK hP 0 rfl rfl 9 (by decide) (hts _ lk_X4_worthTo_43) (fun _ h9 => h9) rfl dX4_worthTo_44 ?_
          refine lv_iload_n hx hb dX4_worthTo_47 rfl (lv_at hl 1 rfl) ?_
          refine lv_iload hx hb dX4_worthTo_48 (lv_at hl 4 rfl) ?_
          refine pw_ci (wr := [(a_p0, .inr (3, [.int p0_round, .int p0_byTurns, .int p0_apart, .int p0_people, .int p0_women, .long p0_couples, .long p0_quarrels, .long p0_togethers, .long p0_barred, .ref a_p0_worths])), (a_p0_worths, .inl (cI, 64, .inl p0_worths_v))]) (va_runS (As := [.int l1, .int l5]) (rest := [.ref a_p0_worths, .int l4]) ⟨hx, hb, hml, hown, hts⟩ (c_X3_cell l dC dI cI cZ H.size l1 l5) (va_cwS 2 hts gX4_worthTo_X3_cell rfl rfl rfl (by decide +kernel) ⟨(Nat.le_of_ble_eq_true rfl), (Nat.le_of_ble_eq_true rfl)⟩) (pw_preS hK hP hD [] rfl rfl (by decide)) rfl rfl hl.1 rfl (lv_room (Nat.le_of_ble_eq_true rfl)) dX4_worthTo_50 ⟨(Nat.le_of_ble_eq_true rfl), (Nat.le_of_ble_eq_true rfl)⟩) hP hD hS hA [] [0, 1] rfl rfl (by decide) (by decide) (fun r10 u H locs hw hP hD hS => ?_)
          have h := pw_lt_e hw h
          have hP : va_P (dC, dI) vwCl [(a_p0, .inr (3, [.int p0_round, .int p0_byTurns, .int p0_apart, .int p0_people, .int p0_women, .long p0_couples, .long p0_quarrels, .long p0_togethers, .long p0_barred, .ref a_p0_worths])), (a_p0_worths, .inl (cI, 64, .inl p0_worths_v))] H := hP
          have hD : va_D A [(a_p0, .inr (3, [.int p0_round, .int p0_byTurns, .int p0_apart, .int p0_people, .int p0_women, .long p0_couples, .long p0_quarrels, .long p0_togethers, .long p0_barred, .ref a_p0_worths])), (a_p0_worths, .inl (cI, 64, .inl p0_worths_v))] := hD
          obtain ⟨g13, h⟩ := pw_gd_e h
          refine va_iald hx hb hK hP 1 0 rfl rfl g13 dX4_worthTo_53 ?_
          refine lv_iadd hx hb dX4_worthTo_54 ?_
          refine lv_topi (fun v14 ev14 => ?_)
          have h := pw_lt_e ev14 h
          refine lv_istore (lv' := [(4, .int v14), (0, .ref a_p0), (1, .int l1), (3, .int l3), (5, .int l5)]) hx hb dX4_worthTo_55 hl (by decide) rfl (fun ls hl => ?_)
          refine lv_iinc (v := (l5 + 1)) (lv' := [(5, .int (l5 + 1)), (4, .int v14), (0, .ref a_p0), (1, .int l1), (3, .int l3)]) hx hb dX4_worthTo_57 hl (k := 4) rfl rfl (by decide) rfl (fun ls hl => ?_)
          refine lv_goto (tgt := 16) hx hb dX4_worthTo_60 (by decide) ?_
          have hl := lv_sub (l' := [(0, .ref a_p0), (1, .int l1), (3, .int l3), (4, .int v14), (5, .int (l5 + 1))]) hl [2, 3, 4, 1, 0] rfl
          exact ih v14 (l5 + 1) xx h KK _ locs ls hP hD hS hl
set_option maxRecDepth 100000 in
set_option maxHeartbeats 4000000 in
theorem c_X4_worthTo (l : Launch) (dC : Nat → ClassId) (dI : Nat → Nat → Nat) (cI cZ : ClassId) (sz : Nat) (a_p0 : Nat) (a_p0_worths : Nat) (p0_round : Int32) (p0_byTurns : Int32) (p0_apart : Int32) (p0_people : Int32) (p0_women : Int32) (p0_couples : Int64) (p0_quarrels : Int64) (p0_togethers : Int64) (p0_barred : Int64) (p0_worths_v : Nat → Int32) (x1 : Int32) (x2 : Int32) (xx : Int32) (hc : f_X4_worthTo x1 x2 p0_round p0_people p0_worths_v = some xx) : Met l yX4_worthTo wsX4_worthTo rm_X4_worthTo (va_Pc [.ref a_p0, .int x1, .int x2] (pw_pre (dC, dI) cI cZ [(a_p0, .inr (3, [.int p0_round, .int p0_byTurns, .int p0_apart, .int p0_people, .int p0_women, .long p0_couples, .long p0_quarrels, .long p0_togethers, .long p0_barred, .ref a_p0_worths])), (a_p0_worths, .inl (cI, 64, .inl p0_worths_v))] sz)) (va_Qi (fun (r : Int32) (u : Unit) => f_X4_worthTo x1 x2 p0_round p0_people p0_worths_v = some r) (fun u t => pw_post (dC, dI) cI cZ (va_A [(a_p0, .inr (3, [.int p0_round, .int p0_byTurns, .int p0_apart, .int p0_people, .int p0_women, .long p0_couples, .long p0_quarrels, .long p0_togethers, .long p0_barred, .ref a_p0_worths])), (a_p0_worths, .inl (cI, 64, .inl p0_worths_v))] sz) [(a_p0, .inr (3, [.int p0_round, .int p0_byTurns, .int p0_apart, .int p0_people, .int p0_women, .long p0_couples, .long p0_quarrels, .long p0_togethers, .long p0_barred, .ref a_p0_worths])), (a_p0_worths, .inl (cI, 64, .inl p0_worths_v))] t) (va_A [(a_p0, .inr (3, [.int p0_round, .int p0_byTurns, .int p0_apart, .int p0_people, .int p0_women, .long p0_couples, .long p0_quarrels, .long p0_togethers, .long p0_barred, .ref a_p0_worths])), (a_p0_worths, .inl (cI, 64, .inl p0_worths_v))] sz)) 0 0 (va_A [(a_p0, .inr (3, [.int p0_round, .int p0_byTurns, .int p0_apart, .int p0_people, .int p0_women, .long p0_couples, .long p0_quarrels, .long p0_togethers, .long p0_barred, .ref a_p0_worths])), (a_p0_worths, .inl (cI, 64, .inl p0_worths_v))] sz) := by
  refine Met.ofW (cc := cX4_worthTo) (maxL := 6) (ret := (some .int)) (by decide) rfl ?_
  intro p e s m args below meth c s₁ B hml hv
  obtain ⟨rfl, hsz, hP, hK, hD0⟩ := hv
  have hx := B.exec
  have hb := B.bytes
  have hr := B.returns
  have hts := atoms_spec (ws := wsX4_worthTo) B.pre
  have hown : s.vm.findClass RX4 = some m.cls := findClass_of_methodNamed B.named
  have hlocks := B.notSynchronized
  subst hsz
  have hD := hD0.self (sz := s.heap.size)
  generalize hAe : va_A [(a_p0, .inr (3, [.int p0_round, .int p0_byTurns, .int p0_apart, .int p0_people, .int p0_women, .long p0_couples, .long p0_quarrels, .long p0_togethers, .long p0_barred, .ref a_p0_worths])), (a_p0_worths, .inl (cI, 64, .inl p0_worths_v))] s.heap.size = A at hD ⊢
  have hA : ∀ q : Nat, s.heap.size ≤ q → A q := fun q h => by rw [← hAe]; exact Or.inr h
  have hS : va_S A s.heap s.heap [] := va_S.rf
  have hP : va_P (dC, dI) vwCl [(a_p0, .inr (3, [.int p0_round, .int p0_byTurns, .int p0_apart, .int p0_people, .int p0_women, .long p0_couples, .long p0_quarrels, .long p0_togethers, .long p0_barred, .ref a_p0_worths])), (a_p0_worths, .inl (cI, 64, .inl p0_worths_v))] s.heap := hP
  have hl := lv_entry ([.ref a_p0, .int x1, .int x2]) (n := 6) (Nat.le_of_ble_eq_true rfl)
  rw [lg_entry_eq]
  generalize (lg_sl ([.ref a_p0, .int x1, .int x2]) ++ List.replicate (6 - (lg_sl ([.ref a_p0, .int x1, .int x2])).length) Slot.unset).toArray = ls at hl ⊢
  have hl : lv_has ls 6 [(0, .ref a_p0), (1, .int x1), (2, .int x2)] := hl
  refine pw_Wq (R := rm_X4_worthTo) (fun Q hQ => ?_)
  obtain ⟨locs, elocs⟩ : ∃ y : List Loc, y = [] := ⟨_, rfl⟩
  rw [← elocs] at hS ⊢
  have h := hc
  unfold f_X4_worthTo at h
  refine lv_aload_n hx hb dX4_worthTo_0 rfl (lv_at hl 0 rfl) ?_
  refine lv_iload_n hx hb dX4_worthTo_1 rfl (lv_at hl 2 rfl) ?_
  obtain ⟨xx3, hc2, h⟩ := pw_bd_e h
  refine pw_cl (wr := [(a_p0_worths, .inl (cI, 64, .inl p0_worths_v))]) (va_runV (As := [.int x2]) (rest := []) ⟨hx, hb, hml, hown, hts⟩ (c_X4_neighbours l dC dI cI cZ s.heap.size a_p0 a_p0_worths p0_round p0_byTurns p0_apart p0_people p0_women p0_couples p0_quarrels p0_togethers p0_barred x2 xx3 hc2) (cwV 1 hts gX4_worthTo_X4_neighbours rfl rfl rfl (by decide +kernel) ⟨(Nat.le_of_ble_eq_true rfl), (Nat.le_of_ble_eq_true rfl)⟩) (pw_preV hK hP hD [0] rfl rfl (by decide) 3 rfl rfl) rfl rfl hl.1 rfl (lv_room (Nat.le_of_ble_eq_true rfl)) dX4_worthTo_2 ⟨(Nat.le_of_ble_eq_true rfl), (Nat.le_of_ble_eq_true rfl)⟩) hP hD hS hA [0] [1] rfl rfl (by decide) (by decide) (fun r1 u H locs hw hP hD hS => ?_)
  have ex : r1 = xx3 := Option.some.inj (hw.symm.trans hc2)
  subst ex
  have h := pw_u1_e h
  have hP : va_P (dC, dI) vwCl [(a_p0_worths, .inl (cI, 64, .inl p0_worths_v)), (a_p0, .inr (3, [.int p0_round, .int p0_byTurns, .int p0_apart, .int p0_people, .int p0_women, .long p0_couples, .long p0_quarrels, .long p0_togethers, .long p0_barred, .ref a_p0_worths]))] H := hP
  have hD : va_D A [(a_p0_worths, .inl (cI, 64, .inl p0_worths_v)), (a_p0, .inr (3, [.int p0_round, .int p0_byTurns, .int p0_apart, .int p0_people, .int p0_women, .long p0_couples, .long p0_quarrels, .long p0_togethers, .long p0_barred, .ref a_p0_worths]))] := hD
  refine lv_iload_n hx hb dX4_worthTo_5 rfl (lv_at hl 1 rfl) ?_
  refine pw_ci (wr := [(a_p0_worths, .inl (cI, 64, .inl p0_worths_v)), (a_p0, .inr (3, [.int p0_round, .int p0_byTurns, .int p0_apart, .int p0_people, .int p0_women, .long p0_couples, .long p0_quarrels, .long p0_togethers, .long p0_barred, .ref a_p0_worths]))]) (va_runS (As := [.long r1, .int x1]) (rest := []) ⟨hx, hb, hml, hown, hts⟩ (c_X3_rowOf l dC dI cI cZ H.size r1 x1) (va_cwS 2 hts gX4_worthTo_X3_rowOf rfl rfl rfl (by decide +kernel) ⟨(Nat.le_of_ble_eq_true rfl), (Nat.le_of_ble_eq_true rfl)⟩) (pw_preS hK hP hD [] rfl rfl (by decide)) rfl rfl hl.1 rfl (lv_room (Nat.le_of_ble_eq_true rfl)) dX4_worthTo_6 ⟨(Nat.le_of_ble_eq_true rfl), (Nat.le_of_ble_eq_true rfl)⟩) hP hD hS hA [] [0, 1] rfl rfl (by decide) (by decide) (fun r4 u H locs hw hP hD hS => ?_)
  have h := pw_lt_e hw h
  have hP : va_P (dC, dI) vwCl [(a_p0_worths, .inl (cI, 64, .inl p0_worths_v)), (a_p0, .inr (3, [.int p0_round, .int p0_byTurns, .int p0_apart, .int p0_people, .int p0_women, .long p0_couples, .long p0_quarrels, .long p0_togethers, .long p0_barred, .ref a_p0_worths]))] H := hP
  have hD : va_D A [(a_p0_worths, .inl (cI, 64, .inl p0_worths_v)), (a_p0, .inr (3, [.int p0_round, .int p0_byTurns, .int p0_apart, .int p0_people, .int p0_women, .long p0_couples, .long p0_quarrels, .long p0_togethers, .long p0_barred, .ref a_p0_worths]))] := hD
  refine lv_istore_n (lv' := [(3, .int r4), (0, .ref a_p0), (1, .int x1), (2, .int x2)]) hx hb dX4_worthTo_9 rfl hl (by decide) rfl (fun ls hl => ?_)
  refine lv_iconst (v := 0) hx hb dX4_worthTo_10 (by decide) ?_
  refine lv_istore (lv' := [(4, .int 0), (3, .int r4), (0, .ref a_p0), (1, .int x1), (2, .int x2)]) hx hb dX4_worthTo_11 hl (by decide) rfl (fun ls hl => ?_)
  refine lv_iconst (v := 0) hx hb dX4_worthTo_13 (by decide) ?_
  refine lv_istore (lv' := [(5, .int 0), (4, .int 0), (3, .int r4), (0, .ref a_p0), (1, .int x1), (2, .int x2)]) hx hb dX4_worthTo_14 hl (by decide) rfl (fun ls hl => ?_)
  have hP := hP.sub (ws' := [(a_p0, .inr (3, [.int p0_round, .int p0_byTurns, .int p0_apart, .int p0_people, .int p0_women, .long p0_couples, .long p0_quarrels, .long p0_togethers, .long p0_barred, .ref a_p0_worths])), (a_p0_worths, .inl (cI, 64, .inl p0_worths_v))]) [1, 0] rfl
  have hD := hD.sub (ws' := [(a_p0, .inr (3, [.int p0_round, .int p0_byTurns, .int p0_apart, .int p0_people, .int p0_women, .long p0_couples, .long p0_quarrels, .long p0_togethers, .long p0_barred, .ref a_p0_worths])), (a_p0_worths, .inl (cI, 64, .inl p0_worths_v))]) [1, 0] (by decide) rfl
  have hl := lv_sub (l' := [(0, .ref a_p0), (1, .int x1), (3, .int r4), (4, .int 0), (5, .int 0)]) hl [3, 4, 2, 1, 0] rfl
  obtain ⟨xx15, hL16, h⟩ := pw_bd_e h
  refine lw_X4_worthTo_16 hx hb hml hown hts hA hK a_p0 a_p0_worths x1 r4 p0_round p0_byTurns p0_apart p0_people p0_women p0_couples p0_quarrels p0_togethers p0_barred p0_worths_v pw_FU 0 0 xx15 hL16 ?_ _ locs ls hP hD hS hl
  intro y17 ex H locs ls hP hD hS hl
  subst ex
  have h := pw_u1_e h
  refine lv_iload hx hb dX4_worthTo_63 (lv_at hl 0 rfl) ?_
  rw [hQ]
  exact W.iret (v := y17) hx hb hr (fun t ht hW => ⟨⟨y17, (), rfl, hc.trans h.symm, by rw [ht]; exact hP, va_K.moved hW.alike hK, hD⟩, hS.F ht⟩) hS.2.2 dX4_worthTo_65
/-! X4_weigh -/
abbrev rm_X4_weigh : Room := { frames := 1, cells := 0, slots := 0, locals := 21 }
set_option maxRecDepth 100000 in
set_option maxHeartbeats 4000000 in
theorem lw_X4_weigh_27 {p : Program} {l : Launch} {e : Env} {s : State} {m : MethodId} {args : Array Value} {below : List Frame} {meth : Method} {c : Code} {Q : State → Prop} {dC : Nat → ClassId} {dI : Nat → Nat → Nat} {cI cZ : ClassId} {A : Nat → Prop} (hx : p.tables.exec = Jvm.exec) (hb : c.code = cX4_weigh) (hml : c.maxLocals = 8) (hown : s.vm.findClass RX4 = some m.cls) (hts : ∀ w ∈ wsX4_weigh, w.before args s = true) (hA : ∀ q : Nat, s.heap.size ≤ q → A q) (hK : va_K (dC, dI) vwCl [(cI, .int), (cZ, .boolean)] s) (a_p0 : Nat) (a_p0_worths : Nat) (a_p2 : Nat) (l1 : Int32) (l4 : Int32) (p0_round : Int32) (p0_byTurns : Int32) (p0_apart : Int32) (p0_people : Int32) (p0_women : Int32) (p0_couples : Int64) (p0_quarrels : Int64) (p0_togethers : Int64) (p0_barred : Int64) (p2_v : Nat → Int32) :
    ∀ (n : Nat) (l3 : Int32) (l5 : Int32) (l6 : Int32) (xx : Int32), lf_X4_weigh_27 l1 l4 p0_people p2_v n l3 l5 l6 = some xx → ((∀ (e_l3 : Int32), e_l3 = xx → ∀ (H : Heap) (locs : List Loc) (ls : Array Slot), va_P (dC, dI) vwCl [(a_p0, .inr (3, [.int p0_round, .int p0_byTurns, .int p0_apart, .int p0_people, .int p0_women, .long p0_couples, .long p0_quarrels, .long p0_togethers, .long p0_barred, .ref a_p0_worths])), (a_p2, .inl (cI, 64, .inl p2_v))] H → va_D A [(a_p0, .inr (3, [.int p0_round, .int p0_byTurns, .int p0_apart, .int p0_people, .int p0_women, .long p0_couples, .long p0_quarrels, .long p0_togethers, .long p0_barred, .ref a_p0_worths])), (a_p2, .inl (cI, 64, .inl p2_v))] → va_S A s.heap H locs → lv_has ls 8 [(3, .int e_l3)] → W p l e rm_X4_weigh s m args below meth c H locs 0 0 Q (F0 m 85 ls []))) → ∀ (H : Heap) (locs : List Loc) (ls : Array Slot), va_P (dC, dI) vwCl [(a_p0, .inr (3, [.int p0_round, .int p0_byTurns, .int p0_apart, .int p0_people, .int p0_women, .long p0_couples, .long p0_quarrels, .long p0_togethers, .long p0_barred, .ref a_p0_worths])), (a_p2, .inl (cI, 64, .inl p2_v))] H → va_D A [(a_p0, .inr (3, [.int p0_round, .int p0_byTurns, .int p0_apart, .int p0_people, .int p0_women, .long p0_couples, .long p0_quarrels, .long p0_togethers, .long p0_barred, .ref a_p0_worths])), (a_p2, .inl (cI, 64, .inl p2_v))] → va_S A s.heap H locs → lv_has ls 8 [(0, .ref a_p0), (1, .int l1), (2, .ref a_p2), (3, .int l3), (4, .int l4), (5, .int l5), (6, .int l6)] → W p l e rm_X4_weigh s m args below meth c H locs 0 0 Q (F0 m 27 ls []) := by
  intro n
  induction n with
  | zero =>
    intro l3 l5 l6 xx h
    rw [lf_X4_weigh_27] at h
    cases h
  | succ n ih =>
    intro l3 l5 l6 xx h KK H locs ls hP hD hS hl
    rw [lf_X4_weigh_27] at h
    refine lv_iload hx hb dX4_weigh_27 (lv_at hl 6 rfl) ?_
    refine lv_iload hx hb dX4_weigh_29 (lv_at hl 4 rfl) ?_
    refine lv_icmp_ge (tgt := 85) hx hb dX4_weigh_31 (by decide) (fun c9 => ?_) (fun c9 => ?_)
    · have h := pw_cd_p c9 h
      have hl := lv_sub (l' := [(3, .int l3)]) hl [3] rfl
      exact KK l3 (Option.some.inj h) _ locs ls hP hD hS hl
    · have h := pw_cd_n c9 h
      refine lv_iload hx hb dX4_weigh_34 (lv_at hl 6 rfl) ?_
      refine lv_bipush (v := 7) hx hb dX4_weigh_36 (by decide) ?_
      refine lv_icmp_ge (tgt := 85) hx hb dX4_weigh_38 (by decide) (fun c10 => ?_) (fun c10 => ?_)
      · have h := pw_cd_p c10 h
        have hl := lv_sub (l' := [(3, .int l3)]) hl [3] rfl
        exact KK l3 (Option.some.inj h) _ locs ls hP hD hS hl
      · have h := pw_cd_n c10 h
        refine lv_iload_n hx hb dX4_weigh_41 rfl (lv_at hl 1 rfl) ?_
        refine lv_aload_n hx hb dX4_weigh_42 rfl (lv_at hl 0 rfl) ?_
        refine lv_iload hx hb dX4_weigh_43 (lv_at hl 6 rfl) ?_
        refine pw_ci (wr := [(a_p2, .inl (cI, 64, .inl p2_v))]) (va_runV (As := [.int l6]) (rest := [.int l1]) ⟨hx, hb, hml, hown, hts⟩ (c_X4_behind l dC dI cI cZ H.size a_p0 a_p0_worths p0_round p0_byTurns p0_apart p0_people p0_women p0_couples p0_quarrels p0_togethers p0_barred l6) (cwV 1 hts gX4_weigh_X4_behind rfl rfl rfl (by decide +kernel) ⟨(Nat.le_of_ble_eq_true rfl), (Nat.le_of_ble_eq_true rfl)⟩) (pw_preV hK hP hD [0] rfl rfl (by decide) 3 rfl rfl) rfl rfl hl.1 rfl (lv_room (Nat.le_of_ble_eq_true rfl)) dX4_weigh_45 ⟨(Nat.le_of_ble_eq_true rfl), (Nat.le_of_ble_eq_true rfl)⟩) hP hD hS hA [0] [1] rfl rfl (by decide) (by decide) (fun r11 u H locs hw hP hD hS => ?_)
        have h := pw_lt_e hw h
        have hP : va_P (dC, dI) vwCl [(a_p2, .inl (cI, 64, .inl p2_v)), (a_p0, .inr (3, [.int p0_round, .int p0_byTurns, .int p0_apart, .int p0_people, .int p0_women, .long p0_couples, .long p0_quarrels, .long p0_togethers, .long p0_barred, .ref a_p0_worths]))] H := hP
        have hD : va_D A [(a_p2, .inl (cI, 64, .inl p2_v)), (a_p0, .inr (3, [.int p0_round, .int p0_byTurns, .int p0_apart, .int p0_people, .int p0_women, .long p0_couples, .long p0_quarrels, .long p0_togethers, .long p0_barred, .ref a_p0_worths]))] := hD
        refine pw_ci (wr := [(a_p2, .inl (cI, 64, .inl p2_v)), (a_p0, .inr (3, [.int p0_round, .int p0_byTurns, .int p0_apart, .int p0_people, .int p0_women, .long p0_couples, .long p0_quarrels, .long p0_togethers, .long p0_barred, .ref a_p0_worths]))]) (va_runS (As := [.int l1, .int r11]) (rest := []) ⟨hx, hb, hml, hown, hts⟩ (c_X7_personOn l dC dI cI cZ H.size l1 r11) (va_cwS 2 hts gX4_weigh_X7_personOn rfl rfl rfl (by decide +kernel) ⟨(Nat.le_of_ble_eq_true rfl), (Nat.le_of_ble_eq_true rfl)⟩) (pw_preS hK hP hD [] rfl rfl (by decide)) rfl rfl hl.1 rfl (lv_room (Nat.le_of_ble_eq_true rfl)) dX4_weigh_48 ⟨(Nat.le_of_ble_eq_true rfl), (Nat.le_of_ble_eq_true rfl)⟩) hP hD hS hA [] [0, 1] rfl rfl (by decide) (by decide) (fun r14 u H locs hw hP hD hS => ?_)
        have h := pw_lt_e hw h
        have hP : va_P (dC, dI) vwCl [(a_p2, .inl (cI, 64, .inl p2_v)), (a_p0, .inr (3, [.int p0_round, .int p0_byTurns, .int p0_apart, .int p0_people, .int p0_women, .long p0_couples, .long p0_quarrels, .long p0_togethers, .long p0_barred, .ref a_p0_worths]))] H := hP
        have hD : va_D A [(a_p2, .inl (cI, 64, .inl p2_v)), (a_p0, .inr (3, [.int p0_round, .int p0_byTurns, .int p0_apart, .int p0_people, .int p0_women, .long p0_couples, .long p0_quarrels, .long p0_togethers, .long p0_barred, .ref a_p0_worths]))] := hD
        refine lv_istore (lv' := [(7, .int r14), (0, .ref a_p0), (1, .int l1), (2, .ref a_p2), (3, .int l3), (4, .int l4), (5, .int l5), (6, .int l6)]) hx hb dX4_weigh_51 hl (by decide) rfl (fun ls hl => ?_)
        refine lv_iload_n hx hb dX4_weigh_53 rfl (lv_at hl 4 rfl) ?_
        refine lv_aload_n hx hb dX4_weigh_54 rfl (lv_at hl 3 rfl) ?_
        refine lv_iload hx hb dX4_weigh_55 (lv_at hl 6 rfl) ?_
        refine lv_iload hx hb dX4_weigh_57 (lv_at hl 0 rfl) ?_
        refine pw_ci (wr := [(a_p2, .inl (cI, 64, .inl p2_v)), (a_p0, .inr (3, [.int p0_round, .int p0_byTurns, .int p0_apart, .int p0_people, .int p0_women, .long p0_couples, .long p0_quarrels, .long p0_togethers, .long p0_barred, .ref a_p0_worths]))]) (va_runS (As := [.int l5, .int r14]) (rest := [.ref a_p2, .int l3]) ⟨hx, hb, hml, hown, hts⟩ (c_X3_cell l dC dI cI cZ H.size l5 r14) (va_cwS 2 hts gX4_weigh_X3_cell rfl rfl rfl (by decide +kernel) ⟨(Nat.le_of_ble_eq_true rfl), (Nat.le_of_ble_eq_true rfl)⟩) (pw_preS hK hP hD [] rfl rfl (by decide)) rfl rfl hl.1 rfl (lv_room (Nat.le_of_ble_eq_true rfl)) dX4_weigh_59 ⟨(Nat.le_of_ble_eq_true rfl), (Nat.le_of_ble_eq_true rfl)⟩) hP hD hS hA [] [0, 1] rfl rfl (by decide) (by decide) (fun r17 u H locs hw hP hD hS => ?_)
        have h := pw_lt_e hw h
        have hP : va_P (dC, dI) vwCl [(a_p2, .inl (cI, 64, .inl p2_v)), (a_p0, .inr (3, [.int p0_round, .int p0_byTurns, .int p0_apart, .int p0_people, .int p0_women, .long p0_couples, .long p0_quarrels, .long p0_togethers, .long p0_barred, .ref a_p0_worths]))] H := hP
        have hD : va_D A [(a_p2, .inl (cI, 64, .inl p2_v)), (a_p0, .inr (3, [.int p0_round, .int p0_byTurns, .int p0_apart, .int p0_people, .int p0_women, .long p0_couples, .long p0_quarrels, .long p0_togethers, .long p0_barred, .ref a_p0_worths]))] := hD
        obtain ⟨g20, h⟩ := pw_gd_e h
        refine va_iald hx hb hK hP 0 0 rfl rfl g20 dX4_weigh_62 ?_
        refine lv_aload_n hx hb dX4_weigh_63 rfl (lv_at hl 3 rfl) ?_
        refine lv_iload hx hb dX4_weigh_64 (lv_at hl 0 rfl) ?_
        refine lv_iload hx hb dX4_weigh_66 (lv_at hl 6 rfl) ?_
        refine pw_ci (wr := [(a_p2, .inl (cI, 64, .inl p2_v)), (a_p0, .inr (3, [.int p0_round, .int p0_byTurns, .int p0_apart, .int p0_people, .int p0_women, .long p0_couples, .long p0_quarrels, .long p0_togethers, .long p0_barred, .ref a_p0_worths]))]) (va_runS (As := [.int r14, .int l5]) (rest := [.ref a_p2, .int (p2_v (Int32.toNatClampNeg r17)), .int l3]) ⟨hx, hb, hml, hown, hts⟩ (c_X3_cell l dC dI cI cZ H.size r14 l5) (va_cwS 2 hts gX4_weigh_X3_cell rfl rfl rfl (by decide +kernel) ⟨(Nat.le_of_ble_eq_true rfl), (Nat.le_of_ble_eq_true rfl)⟩) (pw_preS hK hP hD [] rfl rfl (by decide)) rfl rfl hl.1 rfl (lv_room (Nat.le_of_ble_eq_true rfl)) dX4_weigh_68 ⟨(Nat.le_of_ble_eq_true rfl), (Nat.le_of_ble_eq_true rfl)⟩) hP hD hS hA [] [0, 1] rfl rfl (by decide) (by decide) (fun r21 u H locs hw hP hD hS => ?_)
        have h := pw_lt_e hw h
        have hP : va_P (dC, dI) vwCl [(a_p2, .inl (cI, 64, .inl p2_v)), (a_p0, .inr (3, [.int p0_round, .int p0_byTurns, .int p0_apart, .int p0_people, .int p0_women, .long p0_couples, .long p0_quarrels, .long p0_togethers, .long p0_barred, .ref a_p0_worths]))] H := hP
        have hD : va_D A [(a_p2, .inl (cI, 64, .inl p2_v)), (a_p0, .inr (3, [.int p0_round, .int p0_byTurns, .int p0_apart, .int p0_people, .int p0_women, .long p0_couples, .long p0_quarrels, .long p0_togethers, .long p0_barred, .ref a_p0_worths]))] := hD
        obtain ⟨g24, h⟩ := pw_gd_e h
        refine va_iald hx hb hK hP 0 0 rfl rfl g24 dX4_weigh_71 ?_
        refine lv_iadd hx hb dX4_weigh_72 ?_
        refine lv_iadd hx hb dX4_weigh_73 ?_
        refine lv_topi (fun v25 ev25 => ?_)
        have h := pw_lt_e ev25 h
        refine lv_istore_n (lv' := [(3, .int v25), (7, .int r14), (0, .ref a_p0), (1, .int l1), (2, .ref a_p2), (4, .int l4), (5, .int l5), (6, .int l6)]) hx hb dX4_weigh_74 rfl hl (by decide) rfl (fun ls hl => ?_)
        refine lv_iload hx hb dX4_weigh_75 (lv_at hl 1 rfl) ?_
        refine lv_istore (lv' := [(5, .int r14), (3, .int v25), (7, .int r14), (0, .ref a_p0), (1, .int l1), (2, .ref a_p2), (4, .int l4), (6, .int l6)]) hx hb dX4_weigh_77 hl (by decide) rfl (fun ls hl => ?_)
        refine lv_iinc (v := (l6 + 1)) (lv' := [(6, .int (l6 + 1)), (5, .int r14), (3, .int v25), (7, .int r14), (0, .ref a_p0), (1, .int l1), (2, .ref a_p2), (4, .int l4)]) hx hb dX4_weigh_79 hl (k := 7) rfl rfl (by decide) rfl (fun ls hl => ?_)
        refine lv_goto (tgt := 27) hx hb dX4_weigh_82 (by decide) ?_
        have hP := hP.sub (ws' := [(a_p0, .inr (3, [.int p0_round, .int p0_byTurns, .int p0_apart, .int p0_people, .int p0_women, .long p0_couples, .long p0_quarrels, .long p0_togethers, .long p0_barred, .ref a_p0_worths])), (a_p2, .inl (cI, 64, .inl p2_v))]) [1, 0] rfl
        have hD := hD.sub (ws' := [(a_p0, .inr (3, [.int p0_round, .int p0_byTurns, .int p0_apart, .int p0_people, .int p0_women, .long p0_couples, .long p0_quarrels, .long p0_togethers, .long p0_barred, .ref a_p0_worths])), (a_p2, .inl (cI, 64, .inl p2_v))]) [1, 0] (by decide) rfl
        have hl := lv_sub (l' := [(0, .ref a_p0), (1, .int l1), (2, .ref a_p2), (3, .int v25), (4, .int l4), (5, .int r14), (6, .int (l6 + 1))]) hl [4, 5, 6, 2, 7, 1, 0] rfl
        exact ih v25 r14 (l6 + 1) xx h KK _ locs ls hP hD hS hl
set_option maxRecDepth 100000 in
set_option maxHeartbeats 4000000 in
theorem c_X4_weigh (l : Launch) (dC : Nat → ClassId) (dI : Nat → Nat → Nat) (cI cZ : ClassId) (sz : Nat) (a_p0 : Nat) (a_p0_worths : Nat) (a_p2 : Nat) (p0_round : Int32) (p0_byTurns : Int32) (p0_apart : Int32) (p0_people : Int32) (p0_women : Int32) (p0_couples : Int64) (p0_quarrels : Int64) (p0_togethers : Int64) (p0_barred : Int64) (p2_v : Nat → Int32) (x1 : Int32) (xx : Int32) (hc : f_X4_weigh x1 p0_round p0_people p2_v = some xx) : Met l yX4_weigh wsX4_weigh rm_X4_weigh (va_Pc [.ref a_p0, .int x1, .ref a_p2] (pw_pre (dC, dI) cI cZ [(a_p0, .inr (3, [.int p0_round, .int p0_byTurns, .int p0_apart, .int p0_people, .int p0_women, .long p0_couples, .long p0_quarrels, .long p0_togethers, .long p0_barred, .ref a_p0_worths])), (a_p2, .inl (cI, 64, .inl p2_v))] sz)) (va_Qi (fun (r : Int32) (u : Unit) => f_X4_weigh x1 p0_round p0_people p2_v = some r) (fun u t => pw_post (dC, dI) cI cZ (va_A [(a_p0, .inr (3, [.int p0_round, .int p0_byTurns, .int p0_apart, .int p0_people, .int p0_women, .long p0_couples, .long p0_quarrels, .long p0_togethers, .long p0_barred, .ref a_p0_worths])), (a_p2, .inl (cI, 64, .inl p2_v))] sz) [(a_p0, .inr (3, [.int p0_round, .int p0_byTurns, .int p0_apart, .int p0_people, .int p0_women, .long p0_couples, .long p0_quarrels, .long p0_togethers, .long p0_barred, .ref a_p0_worths])), (a_p2, .inl (cI, 64, .inl p2_v))] t) (va_A [(a_p0, .inr (3, [.int p0_round, .int p0_byTurns, .int p0_apart, .int p0_people, .int p0_women, .long p0_couples, .long p0_quarrels, .long p0_togethers, .long p0_barred, .ref a_p0_worths])), (a_p2, .inl (cI, 64, .inl p2_v))] sz)) 0 0 (va_A [(a_p0, .inr (3, [.int p0_round, .int p0_byTurns, .int p0_apart, .int p0_people, .int p0_women, .long p0_couples, .long p0_quarrels, .long p0_togethers, .long p0_barred, .ref a_p0_worths])), (a_p2, .inl (cI, 64, .inl p2_v))] sz) := by
  refine Met.ofW (cc := cX4_weigh) (maxL := 8) (ret := (some .int)) (by decide) rfl ?_
  intro p e s m args below meth c s₁ B hml hv
  obtain ⟨rfl, hsz, hP, hK, hD0⟩ := hv
  have hx := B.exec
  have hb := B.bytes
  have hr := B.returns
  have hts := atoms_spec (ws := wsX4_weigh) B.pre
  have hown : s.vm.findClass RX4 = some m.cls := findClass_of_methodNamed B.named
  have hlocks := B.notSynchronized
  subst hsz
  have hD := hD0.self (sz := s.heap.size)
  generalize hAe : va_A [(a_p0, .inr (3, [.int p0_round, .int p0_byTurns, .int p0_apart, .int p0_people, .int p0_women, .long p0_couples, .long p0_quarrels, .long p0_togethers, .long p0_barred, .ref a_p0_worths])), (a_p2, .inl (cI, 64, .inl p2_v))] s.heap.size = A at hD ⊢
  have hA : ∀ q : Nat, s.heap.size ≤ q → A q := fun q h => by rw [← hAe]; exact Or.inr h
  have hS : va_S A s.heap s.heap [] := va_S.rf
  have hP : va_P (dC, dI) vwCl [(a_p0, .inr (3, [.int p0_round, .int p0_byTurns, .int p0_apart, .int p0_people, .int p0_women, .long p0_couples, .long p0_quarrels, .long p0_togethers, .long p0_barred, .ref a_p0_worths])), (a_p2, .inl (cI, 64, .inl p2_v))] s.heap := hP
  have hl := lv_entry ([.ref a_p0, .int x1, .ref a_p2]) (n := 8) (Nat.le_of_ble_eq_true rfl)
  rw [lg_entry_eq]
  generalize (lg_sl ([.ref a_p0, .int x1, .ref a_p2]) ++ List.replicate (8 - (lg_sl ([.ref a_p0, .int x1, .ref a_p2])).length) Slot.unset).toArray = ls at hl ⊢
  have hl : lv_has ls 8 [(0, .ref a_p0), (1, .int x1), (2, .ref a_p2)] := hl
  refine pw_Wq (R := rm_X4_weigh) (fun Q hQ => ?_)
  obtain ⟨locs, elocs⟩ : ∃ y : List Loc, y = [] := ⟨_, rfl⟩
  rw [← elocs] at hS ⊢
  have h := hc
  unfold f_X4_weigh at h
  refine lv_aload_n hx hb dX4_weigh_0 rfl (lv_at hl 2 rfl) ?_
  refine va_alen hx hb hK hP 1 0 rfl rfl (v := 64) rfl dX4_weigh_1 ?_
  refine lv_topi (fun v1 ev1 => ?_)
  have h := pw_lt_e ev1 h
  refine lv_bipush (v := 64) hx hb dX4_weigh_2 (by decide) ?_
  refine lv_icmp_ge (tgt := 9) hx hb dX4_weigh_4 (by decide) (fun c2 => ?_) (fun c2 => ?_)
  · have h := pw_cd_p c2 h
    refine lv_iconst (v := 0) hx hb dX4_weigh_9 (by decide) ?_
    refine lv_istore_n (lv' := [(3, .int 0), (0, .ref a_p0), (1, .int x1), (2, .ref a_p2)]) hx hb dX4_weigh_10 rfl hl (by decide) rfl (fun ls hl => ?_)
    refine lv_aload_n hx hb dX4_weigh_11 rfl (lv_at hl 1 rfl) ?_
    refine pw_ci (wr := [(a_p2, .inl (cI, 64, .inl p2_v))]) (va_runV (As := []) (rest := []) ⟨hx, hb, hml, hown, hts⟩ (c_X4_neighbourPairs l dC dI cI cZ s.heap.size a_p0 a_p0_worths p0_round p0_byTurns p0_apart p0_people p0_women p0_couples p0_quarrels p0_togethers p0_barred) (cwV 0 hts gX4_weigh_X4_neighbourPairs rfl rfl rfl (by decide +kernel) ⟨(Nat.le_of_ble_eq_true rfl), (Nat.le_of_ble_eq_true rfl)⟩) (pw_preV hK hP hD [0] rfl rfl (by decide) 3 rfl rfl) rfl rfl hl.1 rfl (lv_room (Nat.le_of_ble_eq_true rfl)) dX4_weigh_12 ⟨(Nat.le_of_ble_eq_true rfl), (Nat.le_of_ble_eq_true rfl)⟩) hP hD hS hA [0] [1] rfl rfl (by decide) (by decide) (fun r3 u H locs hw hP hD hS => ?_)
    have h := pw_lt_e hw h
    have hP : va_P (dC, dI) vwCl [(a_p2, .inl (cI, 64, .inl p2_v)), (a_p0, .inr (3, [.int p0_round, .int p0_byTurns, .int p0_apart, .int p0_people, .int p0_women, .long p0_couples, .long p0_quarrels, .long p0_togethers, .long p0_barred, .ref a_p0_worths]))] H := hP
    have hD : va_D A [(a_p2, .inl (cI, 64, .inl p2_v)), (a_p0, .inr (3, [.int p0_round, .int p0_byTurns, .int p0_apart, .int p0_people, .int p0_women, .long p0_couples, .long p0_quarrels, .long p0_togethers, .long p0_barred, .ref a_p0_worths]))] := hD
    refine lv_istore (lv' := [(4, .int r3), (3, .int 0), (0, .ref a_p0), (1, .int x1), (2, .ref a_p2)]) hx hb dX4_weigh_15 hl (by decide) rfl (fun ls hl => ?_)
    refine lv_iload_n hx hb dX4_weigh_17 rfl (lv_at hl 3 rfl) ?_
    refine lv_iconst (v := 0) hx hb dX4_weigh_18 (by decide) ?_
    refine pw_ci (wr := [(a_p2, .inl (cI, 64, .inl p2_v)), (a_p0, .inr (3, [.int p0_round, .int p0_byTurns, .int p0_apart, .int p0_people, .int p0_women, .long p0_couples, .long p0_quarrels, .long p0_togethers, .long p0_barred, .ref a_p0_worths]))]) (va_runS (As := [.int x1, .int 0]) (rest := []) ⟨hx, hb, hml, hown, hts⟩ (c_X7_personOn l dC dI cI cZ H.size x1 0) (va_cwS 2 hts gX4_weigh_X7_personOn rfl rfl rfl (by decide +kernel) ⟨(Nat.le_of_ble_eq_true rfl), (Nat.le_of_ble_eq_true rfl)⟩) (pw_preS hK hP hD [] rfl rfl (by decide)) rfl rfl hl.1 rfl (lv_room (Nat.le_of_ble_eq_true rfl)) dX4_weigh_19 ⟨(Nat.le_of_ble_eq_true rfl), (Nat.le_of_ble_eq_true rfl)⟩) hP hD hS hA [] [0, 1] rfl rfl (by decide) (by decide) (fun r6 u H locs hw hP hD hS => ?_)
    have h := pw_lt_e hw h
    have hP : va_P (dC, dI) vwCl [(a_p2, .inl (cI, 64, .inl p2_v)), (a_p0, .inr (3, [.int p0_round, .int p0_byTurns, .int p0_apart, .int p0_people, .int p0_women, .long p0_couples, .long p0_quarrels, .long p0_togethers, .long p0_barred, .ref a_p0_worths]))] H := hP
    have hD : va_D A [(a_p2, .inl (cI, 64, .inl p2_v)), (a_p0, .inr (3, [.int p0_round, .int p0_byTurns, .int p0_apart, .int p0_people, .int p0_women, .long p0_couples, .long p0_quarrels, .long p0_togethers, .long p0_barred, .ref a_p0_worths]))] := hD
    refine lv_istore (lv' := [(5, .int r6), (4, .int r3), (3, .int 0), (0, .ref a_p0), (1, .int x1), (2, .ref a_p2)]) hx hb dX4_weigh_22 hl (by decide) rfl (fun ls hl => ?_)
    refine lv_iconst (v := 0) hx hb dX4_weigh_24 (by decide) ?_
    refine lv_istore (lv' := [(6, .int 0), (5, .int r6), (4, .int r3), (3, .int 0), (0, .ref a_p0), (1, .int x1), (2, .ref a_p2)]) hx hb dX4_weigh_25 hl (by decide) rfl (fun ls hl => ?_)
    have hP := hP.sub (ws' := [(a_p0, .inr (3, [.int p0_round, .int p0_byTurns, .int p0_apart, .int p0_people, .int p0_women, .long p0_couples, .long p0_quarrels, .long p0_togethers, .long p0_barred, .ref a_p0_worths])), (a_p2, .inl (cI, 64, .inl p2_v))]) [1, 0] rfl
    have hD := hD.sub (ws' := [(a_p0, .inr (3, [.int p0_round, .int p0_byTurns, .int p0_apart, .int p0_people, .int p0_women, .long p0_couples, .long p0_quarrels, .long p0_togethers, .long p0_barred, .ref a_p0_worths])), (a_p2, .inl (cI, 64, .inl p2_v))]) [1, 0] (by decide) rfl
    have hl := lv_sub (l' := [(0, .ref a_p0), (1, .int x1), (2, .ref a_p2), (3, .int 0), (4, .int r3), (5, .int r6), (6, .int 0)]) hl [4, 5, 6, 3, 2, 1, 0] rfl
    obtain ⟨xx26, hL27, h⟩ := pw_bd_e h
    refine lw_X4_weigh_27 hx hb hml hown hts hA hK a_p0 a_p0_worths a_p2 x1 r3 p0_round p0_byTurns p0_apart p0_people p0_women p0_couples p0_quarrels p0_togethers p0_barred p2_v pw_FU 0 r6 0 xx26 hL27 ?_ _ locs ls hP hD hS hl
    intro y28 ex H locs ls hP hD hS hl
    subst ex
    have h := pw_u1_e h
    refine lv_iload_n hx hb dX4_weigh_85 rfl (lv_at hl 0 rfl) ?_
    rw [hQ]
    exact W.iret (v := y28) hx hb hr (fun t ht hW => ⟨⟨y28, (), rfl, hc.trans h.symm, by rw [ht]; exact hP, va_K.moved hW.alike hK, hD⟩, hS.F ht⟩) hS.2.2 dX4_weigh_86
  · have h := pw_cd_n c2 h
    refine lv_iconst (v := 0) hx hb dX4_weigh_7 (by decide) ?_
    rw [hQ]
    exact W.iret (v := 0) hx hb hr (fun t ht hW => ⟨⟨0, (), rfl, hc.trans h.symm, by rw [ht]; exact hP, va_K.moved hW.alike hK, hD⟩, hS.F ht⟩) hS.2.2 dX4_weigh_8
/-! X4_chairOfMan -/
theorem li_X4_chairOfMan_X4 : ∀ w ∈ u_ws RX4 TX4 10, w ∈ wsX4_chairOfMan := fun w h => List.mem_cons_of_mem _ (List.mem_append_right _ h)
theorem lk_X4_chairOfMan_21 : Cond.fieldLink RX4 21 "NoWifeBeside$Party" "people" "I" ∈ wsX4_chairOfMan := by decide +kernel
abbrev rm_X4_chairOfMan : Room := { frames := 1, cells := 0, slots := 0, locals := 21 }
set_option maxRecDepth 100000 in
set_option maxHeartbeats 4000000 in
theorem lw_X4_chairOfMan_5 {p : Program} {l : Launch} {e : Env} {s : State} {m : MethodId} {args : Array Value} {below : List Frame} {meth : Method} {c : Code} {Q : State → Prop} {dC : Nat → ClassId} {dI : Nat → Nat → Nat} {cI cZ : ClassId} {A : Nat → Prop} (hx : p.tables.exec = Jvm.exec) (hb : c.code = cX4_chairOfMan) (hml : c.maxLocals = 5) (hown : s.vm.findClass RX4 = some m.cls) (hts : ∀ w ∈ wsX4_chairOfMan, w.before args s = true) (hA : ∀ q : Nat, s.heap.size ≤ q → A q) (hK : va_K (dC, dI) vwCl [(cI, .int), (cZ, .boolean)] s) (a_p0 : Nat) (a_p0_worths : Nat) (l1 : Int32) (l2 : Int32) (p0_round : Int32) (p0_byTurns : Int32) (p0_apart : Int32) (p0_people : Int32) (p0_women : Int32) (p0_couples : Int64) (p0_quarrels : Int64) (p0_togethers : Int64) (p0_barred : Int64) :
    ∀ (n : Nat) (l3 : Int32) (l4 : Int32) (xx : (Int32) ⊕ (Unit)), lf_X4_chairOfMan_5 l1 l2 p0_people p0_women n l3 l4 = some xx → ((∀ (e_l4 : Int32), Sum.inl e_l4 = xx → ∀ (H : Heap) (locs : List Loc) (ls : Array Slot), va_P (dC, dI) vwCl [(a_p0, .inr (3, [.int p0_round, .int p0_byTurns, .int p0_apart, .int p0_people, .int p0_women, .long p0_couples, .long p0_quarrels, .long p0_togethers, .long p0_barred, .ref a_p0_worths]))] H → va_D A [(a_p0, .inr (3, [.int p0_round, .int p0_byTurns, .int p0_apart, .int p0_people, .int p0_women, .long p0_couples, .long p0_quarrels, .long p0_togethers, .long p0_barred, .ref a_p0_worths]))] → va_S A s.heap H locs → lv_has ls 5 [(4, .int e_l4)] → W p l e rm_X4_chairOfMan s m args below meth c H locs 0 0 Q (F0 m 39 ls [])) ∧ (Sum.inr () = xx → ∀ (H : Heap) (locs : List Loc) (ls : Array Slot), va_P (dC, dI) vwCl [(a_p0, .inr (3, [.int p0_round, .int p0_byTurns, .int p0_apart, .int p0_people, .int p0_women, .long p0_couples, .long p0_quarrels, .long p0_togethers, .long p0_barred, .ref a_p0_worths]))] H → va_D A [(a_p0, .inr (3, [.int p0_round, .int p0_byTurns, .int p0_apart, .int p0_people, .int p0_women, .long p0_couples, .long p0_quarrels, .long p0_togethers, .long p0_barred, .ref a_p0_worths]))] → va_S A s.heap H locs → lv_has ls 5 [] → W p l e rm_X4_chairOfMan s m args below meth c H locs 0 0 Q (F0 m 51 ls []))) → ∀ (H : Heap) (locs : List Loc) (ls : Array Slot), va_P (dC, dI) vwCl [(a_p0, .inr (3, [.int p0_round, .int p0_byTurns, .int p0_apart, .int p0_people, .int p0_women, .long p0_couples, .long p0_quarrels, .long p0_togethers, .long p0_barred, .ref a_p0_worths]))] H → va_D A [(a_p0, .inr (3, [.int p0_round, .int p0_byTurns, .int p0_apart, .int p0_people, .int p0_women, .long p0_couples, .long p0_quarrels, .long p0_togethers, .long p0_barred, .ref a_p0_worths]))] → va_S A s.heap H locs → lv_has ls 5 [(0, .ref a_p0), (1, .int l1), (2, .int l2), (3, .int l3), (4, .int l4)] → W p l e rm_X4_chairOfMan s m args below meth c H locs 0 0 Q (F0 m 5 ls []) := by
  intro n
  induction n with
  | zero =>
    intro l3 l4 xx h
    rw [lf_X4_chairOfMan_5] at h
    cases h
  | succ n ih =>
    intro l3 l4 xx h KK H locs ls hP hD hS hl
    rw [lf_X4_chairOfMan_5] at h
    refine lv_iload hx hb dX4_chairOfMan_5 (lv_at hl 4 rfl) ?_
    refine lv_aload_n hx hb dX4_chairOfMan_7 rfl (lv_at hl 0 rfl) ?_
    refine va_get (D := (dC, dI)) (ci := 3) (v := .int p0_people) (C := RX4) (T := TX4) (N := 10) hx hb hts li_X4_chairOfMan_X4 hown hK hP 0 rfl rfl 3 (by decide) (hts _ lk_X4_chairOfMan_21) (fun _ h9 => h9) rfl dX4_chairOfMan_8 ?_
    refine lv_icmp_ge (tgt := 51) hx hb dX4_chairOfMan_11 (by decide) (fun c1 => ?_) (fun c1 => ?_)
    · have h := pw_cd_p c1 h
      have hl := lv_sub (l' := []) hl [] rfl
      exact KK.2 (Option.some.inj h) _ locs ls hP hD hS hl
    · have h := pw_cd_n c1 h
      refine lv_iload hx hb dX4_chairOfMan_14 (lv_at hl 4 rfl) ?_
      refine lv_bipush (v := 7) hx hb dX4_chairOfMan_16 (by decide) ?_
      refine lv_icmp_ge (tgt := 51) hx hb dX4_chairOfMan_18 (by decide) (fun c2 => ?_) (fun c2 => ?_)
      · have h := pw_cd_p c2 h
        have hl := lv_sub (l' := []) hl [] rfl
        exact KK.2 (Option.some.inj h) _ locs ls hP hD hS hl
      · have h := pw_cd_n c2 h
        refine lv_aload_n hx hb dX4_chairOfMan_21 rfl (lv_at hl 0 rfl) ?_
        refine lv_iload_n hx hb dX4_chairOfMan_22 rfl (lv_at hl 1 rfl) ?_
        refine lv_iload hx hb dX4_chairOfMan_23 (lv_at hl 4 rfl) ?_
        refine pw_ci (wr := [(a_p0, .inr (3, [.int p0_round, .int p0_byTurns, .int p0_apart, .int p0_people, .int p0_women, .long p0_couples, .long p0_quarrels, .long p0_togethers, .long p0_barred, .ref a_p0_worths]))]) (va_runS (As := [.int l1, .int l4]) (rest := [.ref a_p0]) ⟨hx, hb, hml, hown, hts⟩ (c_X7_personOn l dC dI cI cZ H.size l1 l4) (va_cwS 2 hts gX4_chairOfMan_X7_personOn rfl rfl rfl (by decide +kernel) ⟨(Nat.le_of_ble_eq_true rfl), (Nat.le_of_ble_eq_true rfl)⟩) (pw_preS hK hP hD [] rfl rfl (by decide)) rfl rfl hl.1 rfl (lv_room (Nat.le_of_ble_eq_true rfl)) dX4_chairOfMan_25 ⟨(Nat.le_of_ble_eq_true rfl), (Nat.le_of_ble_eq_true rfl)⟩) hP hD hS hA [] [0] rfl rfl (by decide) (by decide) (fun r3 u H locs hw hP hD hS => ?_)
        have h := pw_lt_e hw h
        have hP : va_P (dC, dI) vwCl [(a_p0, .inr (3, [.int p0_round, .int p0_byTurns, .int p0_apart, .int p0_people, .int p0_women, .long p0_couples, .long p0_quarrels, .long p0_togethers, .long p0_barred, .ref a_p0_worths]))] H := hP
        have hD : va_D A [(a_p0, .inr (3, [.int p0_round, .int p0_byTurns, .int p0_apart, .int p0_people, .int p0_women, .long p0_couples, .long p0_quarrels, .long p0_togethers, .long p0_barred, .ref a_p0_worths]))] := hD
        refine pw_ci (wr := []) (va_runV (As := [.int r3]) (rest := []) ⟨hx, hb, hml, hown, hts⟩ (c_X4_isWoman l dC dI cI cZ H.size a_p0 a_p0_worths p0_round p0_byTurns p0_apart p0_people p0_women p0_couples p0_quarrels p0_togethers p0_barred r3) (cwV 1 hts gX4_chairOfMan_X4_isWoman rfl rfl rfl (by decide +kernel) ⟨(Nat.le_of_ble_eq_true rfl), (Nat.le_of_ble_eq_true rfl)⟩) (pw_preV hK hP hD [0] rfl rfl (by decide) 3 rfl rfl) rfl rfl hl.1 rfl (lv_room (Nat.le_of_ble_eq_true rfl)) dX4_chairOfMan_28 ⟨(Nat.le_of_ble_eq_true rfl), (Nat.le_of_ble_eq_true rfl)⟩) hP hD hS hA [0] [] rfl rfl (by decide) (by decide) (fun r6 u H locs hw hP hD hS => ?_)
        have h := pw_lt_e hw h
        have hP : va_P (dC, dI) vwCl [(a_p0, .inr (3, [.int p0_round, .int p0_byTurns, .int p0_apart, .int p0_people, .int p0_women, .long p0_couples, .long p0_quarrels, .long p0_togethers, .long p0_barred, .ref a_p0_worths]))] H := hP
        have hD : va_D A [(a_p0, .inr (3, [.int p0_round, .int p0_byTurns, .int p0_apart, .int p0_people, .int p0_women, .long p0_couples, .long p0_quarrels, .long p0_togethers, .long p0_barred, .ref a_p0_worths]))] := hD
        refine lv_if_ne (tgt := 45) hx hb dX4_chairOfMan_31 (by decide) (fun c9 => ?_) (fun c9 => ?_)
        · have h := pw_cd_p c9 h
          refine lv_iinc (v := (l4 + 1)) (lv' := [(4, .int (l4 + 1)), (0, .ref a_p0), (1, .int l1), (2, .int l2), (3, .int l3)]) hx hb dX4_chairOfMan_45 hl (k := 4) rfl rfl (by decide) rfl (fun ls hl => ?_)
          refine lv_goto (tgt := 5) hx hb dX4_chairOfMan_48 (by decide) ?_
          have hl := lv_sub (l' := [(0, .ref a_p0), (1, .int l1), (2, .int l2), (3, .int l3), (4, .int (l4 + 1))]) hl [1, 2, 3, 4, 0] rfl
          exact ih l3 (l4 + 1) xx h KK _ locs ls hP hD hS hl
        · have h := pw_cd_n (fun q => q c9) h
          refine lv_iload_n hx hb dX4_chairOfMan_34 rfl (lv_at hl 3 rfl) ?_
          refine lv_iload_n hx hb dX4_chairOfMan_35 rfl (lv_at hl 2 rfl) ?_
          refine lv_icmp_ne (tgt := 42) hx hb dX4_chairOfMan_36 (by decide) (fun c10 => ?_) (fun c10 => ?_)
          · have h := pw_cd_p c10 h
            refine lv_iinc (v := (l3 + 1)) (lv' := [(3, .int (l3 + 1)), (0, .ref a_p0), (1, .int l1), (2, .int l2), (4, .int l4)]) hx hb dX4_chairOfMan_42 hl (k := 3) rfl rfl (by decide) rfl (fun ls hl => ?_)
            refine lv_iinc (v := (l4 + 1)) (lv' := [(4, .int (l4 + 1)), (3, .int (l3 + 1)), (0, .ref a_p0), (1, .int l1), (2, .int l2)]) hx hb dX4_chairOfMan_45 hl (k := 4) rfl rfl (by decide) rfl (fun ls hl => ?_)
            refine lv_goto (tgt := 5) hx hb dX4_chairOfMan_48 (by decide) ?_
            have hl := lv_sub (l' := [(0, .ref a_p0), (1, .int l1), (2, .int l2), (3, .int (l3 + 1)), (4, .int (l4 + 1))]) hl [2, 3, 4, 1, 0] rfl
            exact ih (l3 + 1) (l4 + 1) xx h KK _ locs ls hP hD hS hl
          · have h := pw_cd_n (fun q => q c10) h
            have hl := lv_sub (l' := [(4, .int l4)]) hl [4] rfl
            exact KK.1 l4 (Option.some.inj h) _ locs ls hP hD hS hl
set_option maxRecDepth 100000 in
set_option maxHeartbeats 4000000 in
theorem c_X4_chairOfMan (l : Launch) (dC : Nat → ClassId) (dI : Nat → Nat → Nat) (cI cZ : ClassId) (sz : Nat) (a_p0 : Nat) (a_p0_worths : Nat) (p0_round : Int32) (p0_byTurns : Int32) (p0_apart : Int32) (p0_people : Int32) (p0_women : Int32) (p0_couples : Int64) (p0_quarrels : Int64) (p0_togethers : Int64) (p0_barred : Int64) (x1 : Int32) (x2 : Int32) (xx : Int32) (hc : f_X4_chairOfMan x1 x2 p0_people p0_women = some xx) : Met l yX4_chairOfMan wsX4_chairOfMan rm_X4_chairOfMan (va_Pc [.ref a_p0, .int x1, .int x2] (pw_pre (dC, dI) cI cZ [(a_p0, .inr (3, [.int p0_round, .int p0_byTurns, .int p0_apart, .int p0_people, .int p0_women, .long p0_couples, .long p0_quarrels, .long p0_togethers, .long p0_barred, .ref a_p0_worths]))] sz)) (va_Qi (fun (r : Int32) (u : Unit) => f_X4_chairOfMan x1 x2 p0_people p0_women = some r) (fun u t => pw_post (dC, dI) cI cZ (va_A [(a_p0, .inr (3, [.int p0_round, .int p0_byTurns, .int p0_apart, .int p0_people, .int p0_women, .long p0_couples, .long p0_quarrels, .long p0_togethers, .long p0_barred, .ref a_p0_worths]))] sz) [(a_p0, .inr (3, [.int p0_round, .int p0_byTurns, .int p0_apart, .int p0_people, .int p0_women, .long p0_couples, .long p0_quarrels, .long p0_togethers, .long p0_barred, .ref a_p0_worths]))] t) (va_A [(a_p0, .inr (3, [.int p0_round, .int p0_byTurns, .int p0_apart, .int p0_people, .int p0_women, .long p0_couples, .long p0_quarrels, .long p0_togethers, .long p0_barred, .ref a_p0_worths]))] sz)) 0 0 (va_A [(a_p0, .inr (3, [.int p0_round, .int p0_byTurns, .int p0_apart, .int p0_people, .int p0_women, .long p0_couples, .long p0_quarrels, .long p0_togethers, .long p0_barred, .ref a_p0_worths]))] sz) := by
  refine Met.ofW (cc := cX4_chairOfMan) (maxL := 5) (ret := (some .int)) (by decide) rfl ?_
  intro p e s m args below meth c s₁ B hml hv
  obtain ⟨rfl, hsz, hP, hK, hD0⟩ := hv
  have hx := B.exec
  have hb := B.bytes
  have hr := B.returns
  have hts := atoms_spec (ws := wsX4_chairOfMan) B.pre
  have hown : s.vm.findClass RX4 = some m.cls := findClass_of_methodNamed B.named
  have hlocks := B.notSynchronized
  subst hsz
  have hD := hD0.self (sz := s.heap.size)
  generalize hAe : va_A [(a_p0, .inr (3, [.int p0_round, .int p0_byTurns, .int p0_apart, .int p0_people, .int p0_women, .long p0_couples, .long p0_quarrels, .long p0_togethers, .long p0_barred, .ref a_p0_worths]))] s.heap.size = A at hD ⊢
  have hA : ∀ q : Nat, s.heap.size ≤ q → A q := fun q h => by rw [← hAe]; exact Or.inr h
  have hS : va_S A s.heap s.heap [] := va_S.rf
  have hP : va_P (dC, dI) vwCl [(a_p0, .inr (3, [.int p0_round, .int p0_byTurns, .int p0_apart, .int p0_people, .int p0_women, .long p0_couples, .long p0_quarrels, .long p0_togethers, .long p0_barred, .ref a_p0_worths]))] s.heap := hP
  have hl := lv_entry ([.ref a_p0, .int x1, .int x2]) (n := 5) (Nat.le_of_ble_eq_true rfl)
  rw [lg_entry_eq]
  generalize (lg_sl ([.ref a_p0, .int x1, .int x2]) ++ List.replicate (5 - (lg_sl ([.ref a_p0, .int x1, .int x2])).length) Slot.unset).toArray = ls at hl ⊢
  have hl : lv_has ls 5 [(0, .ref a_p0), (1, .int x1), (2, .int x2)] := hl
  refine pw_Wq (R := rm_X4_chairOfMan) (fun Q hQ => ?_)
  obtain ⟨locs, elocs⟩ : ∃ y : List Loc, y = [] := ⟨_, rfl⟩
  rw [← elocs] at hS ⊢
  have h := hc
  unfold f_X4_chairOfMan at h
  refine lv_iconst (v := 0) hx hb dX4_chairOfMan_0 (by decide) ?_
  refine lv_istore_n (lv' := [(3, .int 0), (0, .ref a_p0), (1, .int x1), (2, .int x2)]) hx hb dX4_chairOfMan_1 rfl hl (by decide) rfl (fun ls hl => ?_)
  refine lv_iconst (v := 0) hx hb dX4_chairOfMan_2 (by decide) ?_
  refine lv_istore (lv' := [(4, .int 0), (3, .int 0), (0, .ref a_p0), (1, .int x1), (2, .int x2)]) hx hb dX4_chairOfMan_3 hl (by decide) rfl (fun ls hl => ?_)
  have hl := lv_sub (l' := [(0, .ref a_p0), (1, .int x1), (2, .int x2), (3, .int 0), (4, .int 0)]) hl [2, 3, 4, 1, 0] rfl
  obtain ⟨xx11, hL12, h⟩ := pw_bs_e h
  refine lw_X4_chairOfMan_5 hx hb hml hown hts hA hK a_p0 a_p0_worths x1 x2 p0_round p0_byTurns p0_apart p0_people p0_women p0_couples p0_quarrels p0_togethers p0_barred pw_FU 0 0 xx11 hL12 ⟨?_, ?_⟩ _ locs ls hP hD hS hl
  · intro y13 ex H locs ls hP hD hS hl
    subst ex
    have h := pw_sl_e h
    have h := pw_u1_e h
    refine lv_iload hx hb dX4_chairOfMan_39 (lv_at hl 0 rfl) ?_
    rw [hQ]
    exact W.iret (v := y13) hx hb hr (fun t ht hW => ⟨⟨y13, (), rfl, hc.trans h.symm, by rw [ht]; exact hP, va_K.moved hW.alike hK, hD⟩, hS.F ht⟩) hS.2.2 dX4_chairOfMan_41
  · intro ex H locs ls hP hD hS hl
    subst ex
    have h := pw_sr_e h
    have h := pw_u1_e h
    refine lv_iconst (v := 0) hx hb dX4_chairOfMan_51 (by decide) ?_
    rw [hQ]
    exact W.iret (v := 0) hx hb hr (fun t ht hW => ⟨⟨0, (), rfl, hc.trans h.symm, by rw [ht]; exact hP, va_K.moved hW.alike hK, hD⟩, hS.F ht⟩) hS.2.2 dX4_chairOfMan_52
/-! X4_afterCourse -/
theorem li_X4_afterCourse_X4 : ∀ w ∈ u_ws RX4 TX4 10, w ∈ wsX4_afterCourse := fun w h => List.mem_cons_of_mem _ (List.mem_append_right _ h)
theorem lk_X4_afterCourse_21 : Cond.fieldLink RX4 21 "NoWifeBeside$Party" "people" "I" ∈ wsX4_afterCourse := by decide +kernel
abbrev rm_X4_afterCourse : Room := { frames := 2, cells := 0, slots := 0, locals := 45 }
set_option maxRecDepth 100000 in
set_option maxHeartbeats 4000000 in
theorem lw_X4_afterCourse_21 {p : Program} {l : Launch} {e : Env} {s : State} {m : MethodId} {args : Array Value} {below : List Frame} {meth : Method} {c : Code} {Q : State → Prop} {dC : Nat → ClassId} {dI : Nat → Nat → Nat} {cI cZ : ClassId} {A : Nat → Prop} (hx : p.tables.exec = Jvm.exec) (hb : c.code = cX4_afterCourse) (hml : c.maxLocals = 8) (hown : s.vm.findClass RX4 = some m.cls) (hts : ∀ w ∈ wsX4_afterCourse, w.before args s = true) (hA : ∀ q : Nat, s.heap.size ≤ q → A q) (hK : va_K (dC, dI) vwCl [(cI, .int), (cZ, .boolean)] s) (a_p0 : Nat) (a_p0_worths : Nat) (l1 : Int32) (l2 : Int32) (l3 : Int32) (p0_round : Int32) (p0_byTurns : Int32) (p0_apart : Int32) (p0_people : Int32) (p0_women : Int32) (p0_couples : Int64) (p0_quarrels : Int64) (p0_togethers : Int64) (p0_barred : Int64) :
    ∀ (n : Nat) (l4 : Int32) (l5 : Int32) (l6 : Int32) (xx : Int32), lf_X4_afterCourse_21 l1 l2 l3 p0_people p0_women n l4 l5 l6 = some xx → ((∀ (e_l4 : Int32), e_l4 = xx → ∀ (H : Heap) (locs : List Loc) (ls : Array Slot), va_P (dC, dI) vwCl [(a_p0, .inr (3, [.int p0_round, .int p0_byTurns, .int p0_apart, .int p0_people, .int p0_women, .long p0_couples, .long p0_quarrels, .long p0_togethers, .long p0_barred, .ref a_p0_worths]))] H → va_D A [(a_p0, .inr (3, [.int p0_round, .int p0_byTurns, .int p0_apart, .int p0_people, .int p0_women, .long p0_couples, .long p0_quarrels, .long p0_togethers, .long p0_barred, .ref a_p0_worths]))] → va_S A s.heap H locs → lv_has ls 8 [(4, .int e_l4)] → W p l e rm_X4_afterCourse s m args below meth c H locs 0 0 Q (F0 m 83 ls []))) → ∀ (H : Heap) (locs : List Loc) (ls : Array Slot), va_P (dC, dI) vwCl [(a_p0, .inr (3, [.int p0_round, .int p0_byTurns, .int p0_apart, .int p0_people, .int p0_women, .long p0_couples, .long p0_quarrels, .long p0_togethers, .long p0_barred, .ref a_p0_worths]))] H → va_D A [(a_p0, .inr (3, [.int p0_round, .int p0_byTurns, .int p0_apart, .int p0_people, .int p0_women, .long p0_couples, .long p0_quarrels, .long p0_togethers, .long p0_barred, .ref a_p0_worths]))] → va_S A s.heap H locs → lv_has ls 8 [(0, .ref a_p0), (1, .int l1), (2, .int l2), (3, .int l3), (4, .int l4), (5, .int l5), (6, .int l6)] → W p l e rm_X4_afterCourse s m args below meth c H locs 0 0 Q (F0 m 21 ls []) := by
  intro n
  induction n with
  | zero =>
    intro l4 l5 l6 xx h
    rw [lf_X4_afterCourse_21] at h
    cases h
  | succ n ih =>
    intro l4 l5 l6 xx h KK H locs ls hP hD hS hl
    rw [lf_X4_afterCourse_21] at h
    refine lv_iload hx hb dX4_afterCourse_21 (lv_at hl 6 rfl) ?_
    refine lv_aload_n hx hb dX4_afterCourse_23 rfl (lv_at hl 0 rfl) ?_
    refine va_get (D := (dC, dI)) (ci := 3) (v := .int p0_people) (C := RX4) (T := TX4) (N := 10) hx hb hts li_X4_afterCourse_X4 hown hK hP 0 rfl rfl 3 (by decide) (hts _ lk_X4_afterCourse_21) (fun _ h9 => h9) rfl dX4_afterCourse_24 ?_
    refine lv_icmp_ge (tgt := 83) hx hb dX4_afterCourse_27 (by decide) (fun c5 => ?_) (fun c5 => ?_)
    · have h := pw_cd_p c5 h
      have hl := lv_sub (l' := [(4, .int l4)]) hl [4] rfl
      exact KK l4 (Option.some.inj h) _ locs ls hP hD hS hl
    · have h := pw_cd_n c5 h
      refine lv_iload hx hb dX4_afterCourse_30 (lv_at hl 6 rfl) ?_
      refine lv_bipush (v := 7) hx hb dX4_afterCourse_32 (by decide) ?_
      refine lv_icmp_ge (tgt := 83) hx hb dX4_afterCourse_34 (by decide) (fun c6 => ?_) (fun c6 => ?_)
      · have h := pw_cd_p c6 h
        have hl := lv_sub (l' := [(4, .int l4)]) hl [4] rfl
        exact KK l4 (Option.some.inj h) _ locs ls hP hD hS hl
      · have h := pw_cd_n c6 h
        refine lv_iload_n hx hb dX4_afterCourse_37 rfl (lv_at hl 1 rfl) ?_
        refine lv_iload hx hb dX4_afterCourse_38 (lv_at hl 6 rfl) ?_
        refine pw_ci (wr := [(a_p0, .inr (3, [.int p0_round, .int p0_byTurns, .int p0_apart, .int p0_people, .int p0_women, .long p0_couples, .long p0_quarrels, .long p0_togethers, .long p0_barred, .ref a_p0_worths]))]) (va_runS (As := [.int l1, .int l6]) (rest := []) ⟨hx, hb, hml, hown, hts⟩ (c_X7_personOn l dC dI cI cZ H.size l1 l6) (va_cwS 2 hts gX4_afterCourse_X7_personOn rfl rfl rfl (by decide +kernel) ⟨(Nat.le_of_ble_eq_true rfl), (Nat.le_of_ble_eq_true rfl)⟩) (pw_preS hK hP hD [] rfl rfl (by decide)) rfl rfl hl.1 rfl (lv_room (Nat.le_of_ble_eq_true rfl)) dX4_afterCourse_40 ⟨(Nat.le_of_ble_eq_true rfl), (Nat.le_of_ble_eq_true rfl)⟩) hP hD hS hA [] [0] rfl rfl (by decide) (by decide) (fun r7 u H locs hw hP hD hS => ?_)
        have h := pw_lt_e hw h
        have hP : va_P (dC, dI) vwCl [(a_p0, .inr (3, [.int p0_round, .int p0_byTurns, .int p0_apart, .int p0_people, .int p0_women, .long p0_couples, .long p0_quarrels, .long p0_togethers, .long p0_barred, .ref a_p0_worths]))] H := hP
        have hD : va_D A [(a_p0, .inr (3, [.int p0_round, .int p0_byTurns, .int p0_apart, .int p0_people, .int p0_women, .long p0_couples, .long p0_quarrels, .long p0_togethers, .long p0_barred, .ref a_p0_worths]))] := hD
        refine lv_istore (lv' := [(7, .int r7), (0, .ref a_p0), (1, .int l1), (2, .int l2), (3, .int l3), (4, .int l4), (5, .int l5), (6, .int l6)]) hx hb dX4_afterCourse_43 hl (by decide) rfl (fun ls hl => ?_)
        refine lv_aload_n hx hb dX4_afterCourse_45 rfl (lv_at hl 1 rfl) ?_
        refine lv_iload hx hb dX4_afterCourse_46 (lv_at hl 0 rfl) ?_
        refine pw_ci (wr := []) (va_runV (As := [.int r7]) (rest := []) ⟨hx, hb, hml, hown, hts⟩ (c_X4_isWoman l dC dI cI cZ H.size a_p0 a_p0_worths p0_round p0_byTurns p0_apart p0_people p0_women p0_couples p0_quarrels p0_togethers p0_barred r7) (cwV 1 hts gX4_afterCourse_X4_isWoman rfl rfl rfl (by decide +kernel) ⟨(Nat.le_of_ble_eq_true rfl), (Nat.le_of_ble_eq_true rfl)⟩) (pw_preV hK hP hD [0] rfl rfl (by decide) 3 rfl rfl) rfl rfl hl.1 rfl (lv_room (Nat.le_of_ble_eq_true rfl)) dX4_afterCourse_48 ⟨(Nat.le_of_ble_eq_true rfl), (Nat.le_of_ble_eq_true rfl)⟩) hP hD hS hA [0] [] rfl rfl (by decide) (by decide) (fun r10 u H locs hw hP hD hS => ?_)
        have h := pw_lt_e hw h
        have hP : va_P (dC, dI) vwCl [(a_p0, .inr (3, [.int p0_round, .int p0_byTurns, .int p0_apart, .int p0_people, .int p0_women, .long p0_couples, .long p0_quarrels, .long p0_togethers, .long p0_barred, .ref a_p0_worths]))] H := hP
        have hD : va_D A [(a_p0, .inr (3, [.int p0_round, .int p0_byTurns, .int p0_apart, .int p0_people, .int p0_women, .long p0_couples, .long p0_quarrels, .long p0_togethers, .long p0_barred, .ref a_p0_worths]))] := hD
        refine lv_if_ne (tgt := 77) hx hb dX4_afterCourse_51 (by decide) (fun c13 => ?_) (fun c13 => ?_)
        · have h := pw_cd_p c13 h
          refine lv_iinc (v := (l6 + 1)) (lv' := [(6, .int (l6 + 1)), (7, .int r7), (0, .ref a_p0), (1, .int l1), (2, .int l2), (3, .int l3), (4, .int l4), (5, .int l5)]) hx hb dX4_afterCourse_77 hl (k := 7) rfl rfl (by decide) rfl (fun ls hl => ?_)
          refine lv_goto (tgt := 21) hx hb dX4_afterCourse_80 (by decide) ?_
          have hl := lv_sub (l' := [(0, .ref a_p0), (1, .int l1), (2, .int l2), (3, .int l3), (4, .int l4), (5, .int l5), (6, .int (l6 + 1))]) hl [2, 3, 4, 5, 6, 7, 0] rfl
          exact ih l4 l5 (l6 + 1) xx h KK _ locs ls hP hD hS hl
        · have h := pw_cd_n (fun q => q c13) h
          refine lv_iload hx hb dX4_afterCourse_54 (lv_at hl 5 rfl) ?_
          refine lv_aload_n hx hb dX4_afterCourse_56 rfl (lv_at hl 1 rfl) ?_
          refine lv_iload_n hx hb dX4_afterCourse_57 rfl (lv_at hl 2 rfl) ?_
          refine lv_iload hx hb dX4_afterCourse_58 (lv_at hl 6 rfl) ?_
          refine lv_iload_n hx hb dX4_afterCourse_60 rfl (lv_at hl 3 rfl) ?_
          refine lv_iadd hx hb dX4_afterCourse_61 ?_
          refine lv_iload_n hx hb dX4_afterCourse_62 rfl (lv_at hl 4 rfl) ?_
          obtain ⟨g14, h⟩ := pw_gd_e h
          refine lv_irem hx hb dX4_afterCourse_63 g14 ?_
          obtain ⟨xx17, hc16, h⟩ := pw_bd_e h
          refine pw_ci (wr := []) (va_runV (As := [.int l1, .int ((l5 + l2) - (l5 + l2) / l3 * l3)]) (rest := [.int l4]) ⟨hx, hb, hml, hown, hts⟩ (c_X4_chairOfMan l dC dI cI cZ H.size a_p0 a_p0_worths p0_round p0_byTurns p0_apart p0_people p0_women p0_couples p0_quarrels p0_togethers p0_barred l1 ((l5 + l2) - (l5 + l2) / l3 * l3) xx17 hc16) (cwV 2 hts gX4_afterCourse_X4_chairOfMan rfl rfl rfl (by decide +kernel) ⟨(Nat.le_of_ble_eq_true rfl), (Nat.le_of_ble_eq_true rfl)⟩) (pw_preV hK hP hD [0] rfl rfl (by decide) 3 rfl rfl) rfl rfl hl.1 rfl (lv_room (Nat.le_of_ble_eq_true rfl)) dX4_afterCourse_64 ⟨(Nat.le_of_ble_eq_true rfl), (Nat.le_of_ble_eq_true rfl)⟩) hP hD hS hA [0] [] rfl rfl (by decide) (by decide) (fun r15 u H locs hw hP hD hS => ?_)
          have ex : r15 = xx17 := Option.some.inj (hw.symm.trans hc16)
          subst ex
          have h := pw_u1_e h
          have hP : va_P (dC, dI) vwCl [(a_p0, .inr (3, [.int p0_round, .int p0_byTurns, .int p0_apart, .int p0_people, .int p0_women, .long p0_couples, .long p0_quarrels, .long p0_togethers, .long p0_barred, .ref a_p0_worths]))] H := hP
          have hD : va_D A [(a_p0, .inr (3, [.int p0_round, .int p0_byTurns, .int p0_apart, .int p0_people, .int p0_women, .long p0_couples, .long p0_quarrels, .long p0_togethers, .long p0_barred, .ref a_p0_worths]))] := hD
          refine lv_iload hx hb dX4_afterCourse_67 (lv_at hl 0 rfl) ?_
          refine pw_ci (wr := [(a_p0, .inr (3, [.int p0_round, .int p0_byTurns, .int p0_apart, .int p0_people, .int p0_women, .long p0_couples, .long p0_quarrels, .long p0_togethers, .long p0_barred, .ref a_p0_worths]))]) (va_runS (As := [.int l4, .int r15, .int r7]) (rest := []) ⟨hx, hb, hml, hown, hts⟩ (c_X7_with l dC dI cI cZ H.size l4 r15 r7) (va_cwS 3 hts gX4_afterCourse_X7_with rfl rfl rfl (by decide +kernel) ⟨(Nat.le_of_ble_eq_true rfl), (Nat.le_of_ble_eq_true rfl)⟩) (pw_preS hK hP hD [] rfl rfl (by decide)) rfl rfl hl.1 rfl (lv_room (Nat.le_of_ble_eq_true rfl)) dX4_afterCourse_69 ⟨(Nat.le_of_ble_eq_true rfl), (Nat.le_of_ble_eq_true rfl)⟩) hP hD hS hA [] [0] rfl rfl (by decide) (by decide) (fun r18 u H locs hw hP hD hS => ?_)
          have h := pw_lt_e hw h
          have hP : va_P (dC, dI) vwCl [(a_p0, .inr (3, [.int p0_round, .int p0_byTurns, .int p0_apart, .int p0_people, .int p0_women, .long p0_couples, .long p0_quarrels, .long p0_togethers, .long p0_barred, .ref a_p0_worths]))] H := hP
          have hD : va_D A [(a_p0, .inr (3, [.int p0_round, .int p0_byTurns, .int p0_apart, .int p0_people, .int p0_women, .long p0_couples, .long p0_quarrels, .long p0_togethers, .long p0_barred, .ref a_p0_worths]))] := hD
          refine lv_istore (lv' := [(4, .int r18), (7, .int r7), (0, .ref a_p0), (1, .int l1), (2, .int l2), (3, .int l3), (5, .int l5), (6, .int l6)]) hx hb dX4_afterCourse_72 hl (by decide) rfl (fun ls hl => ?_)
          refine lv_iinc (v := (l5 + 1)) (lv' := [(5, .int (l5 + 1)), (4, .int r18), (7, .int r7), (0, .ref a_p0), (1, .int l1), (2, .int l2), (3, .int l3), (6, .int l6)]) hx hb dX4_afterCourse_74 hl (k := 6) rfl rfl (by decide) rfl (fun ls hl => ?_)
          refine lv_iinc (v := (l6 + 1)) (lv' := [(6, .int (l6 + 1)), (5, .int (l5 + 1)), (4, .int r18), (7, .int r7), (0, .ref a_p0), (1, .int l1), (2, .int l2), (3, .int l3)]) hx hb dX4_afterCourse_77 hl (k := 7) rfl rfl (by decide) rfl (fun ls hl => ?_)
          refine lv_goto (tgt := 21) hx hb dX4_afterCourse_80 (by decide) ?_
          have hl := lv_sub (l' := [(0, .ref a_p0), (1, .int l1), (2, .int l2), (3, .int l3), (4, .int r18), (5, .int (l5 + 1)), (6, .int (l6 + 1))]) hl [4, 5, 6, 7, 2, 1, 0] rfl
          exact ih r18 (l5 + 1) (l6 + 1) xx h KK _ locs ls hP hD hS hl
set_option maxRecDepth 100000 in
set_option maxHeartbeats 4000000 in
theorem c_X4_afterCourse (l : Launch) (dC : Nat → ClassId) (dI : Nat → Nat → Nat) (cI cZ : ClassId) (sz : Nat) (a_p0 : Nat) (a_p0_worths : Nat) (p0_round : Int32) (p0_byTurns : Int32) (p0_apart : Int32) (p0_people : Int32) (p0_women : Int32) (p0_couples : Int64) (p0_quarrels : Int64) (p0_togethers : Int64) (p0_barred : Int64) (x1 : Int32) (x2 : Int32) (xx : Int32) (hc : f_X4_afterCourse x1 x2 p0_people p0_women = some xx) : Met l yX4_afterCourse wsX4_afterCourse rm_X4_afterCourse (va_Pc [.ref a_p0, .int x1, .int x2] (pw_pre (dC, dI) cI cZ [(a_p0, .inr (3, [.int p0_round, .int p0_byTurns, .int p0_apart, .int p0_people, .int p0_women, .long p0_couples, .long p0_quarrels, .long p0_togethers, .long p0_barred, .ref a_p0_worths]))] sz)) (va_Qi (fun (r : Int32) (u : Unit) => f_X4_afterCourse x1 x2 p0_people p0_women = some r) (fun u t => pw_post (dC, dI) cI cZ (va_A [(a_p0, .inr (3, [.int p0_round, .int p0_byTurns, .int p0_apart, .int p0_people, .int p0_women, .long p0_couples, .long p0_quarrels, .long p0_togethers, .long p0_barred, .ref a_p0_worths]))] sz) [(a_p0, .inr (3, [.int p0_round, .int p0_byTurns, .int p0_apart, .int p0_people, .int p0_women, .long p0_couples, .long p0_quarrels, .long p0_togethers, .long p0_barred, .ref a_p0_worths]))] t) (va_A [(a_p0, .inr (3, [.int p0_round, .int p0_byTurns, .int p0_apart, .int p0_people, .int p0_women, .long p0_couples, .long p0_quarrels, .long p0_togethers, .long p0_barred, .ref a_p0_worths]))] sz)) 0 0 (va_A [(a_p0, .inr (3, [.int p0_round, .int p0_byTurns, .int p0_apart, .int p0_people, .int p0_women, .long p0_couples, .long p0_quarrels, .long p0_togethers, .long p0_barred, .ref a_p0_worths]))] sz) := by
  refine Met.ofW (cc := cX4_afterCourse) (maxL := 8) (ret := (some .int)) (by decide) rfl ?_
  intro p e s m args below meth c s₁ B hml hv
  obtain ⟨rfl, hsz, hP, hK, hD0⟩ := hv
  have hx := B.exec
  have hb := B.bytes
  have hr := B.returns
  have hts := atoms_spec (ws := wsX4_afterCourse) B.pre
  have hown : s.vm.findClass RX4 = some m.cls := findClass_of_methodNamed B.named
  have hlocks := B.notSynchronized
  subst hsz
  have hD := hD0.self (sz := s.heap.size)
  generalize hAe : va_A [(a_p0, .inr (3, [.int p0_round, .int p0_byTurns, .int p0_apart, .int p0_people, .int p0_women, .long p0_couples, .long p0_quarrels, .long p0_togethers, .long p0_barred, .ref a_p0_worths]))] s.heap.size = A at hD ⊢
  have hA : ∀ q : Nat, s.heap.size ≤ q → A q := fun q h => by rw [← hAe]; exact Or.inr h
  have hS : va_S A s.heap s.heap [] := va_S.rf
  have hP : va_P (dC, dI) vwCl [(a_p0, .inr (3, [.int p0_round, .int p0_byTurns, .int p0_apart, .int p0_people, .int p0_women, .long p0_couples, .long p0_quarrels, .long p0_togethers, .long p0_barred, .ref a_p0_worths]))] s.heap := hP
  have hl := lv_entry ([.ref a_p0, .int x1, .int x2]) (n := 8) (Nat.le_of_ble_eq_true rfl)
  rw [lg_entry_eq]
  generalize (lg_sl ([.ref a_p0, .int x1, .int x2]) ++ List.replicate (8 - (lg_sl ([.ref a_p0, .int x1, .int x2])).length) Slot.unset).toArray = ls at hl ⊢
  have hl : lv_has ls 8 [(0, .ref a_p0), (1, .int x1), (2, .int x2)] := hl
  refine pw_Wq (R := rm_X4_afterCourse) (fun Q hQ => ?_)
  obtain ⟨locs, elocs⟩ : ∃ y : List Loc, y = [] := ⟨_, rfl⟩
  rw [← elocs] at hS ⊢
  have h := hc
  unfold f_X4_afterCourse at h
  refine lv_aload_n hx hb dX4_afterCourse_0 rfl (lv_at hl 0 rfl) ?_
  refine pw_ci (wr := []) (va_runV (As := []) (rest := []) ⟨hx, hb, hml, hown, hts⟩ (c_X4_men l dC dI cI cZ s.heap.size a_p0 a_p0_worths p0_round p0_byTurns p0_apart p0_people p0_women p0_couples p0_quarrels p0_togethers p0_barred) (cwV 0 hts gX4_afterCourse_X4_men rfl rfl rfl (by decide +kernel) ⟨(Nat.le_of_ble_eq_true rfl), (Nat.le_of_ble_eq_true rfl)⟩) (pw_preV hK hP hD [0] rfl rfl (by decide) 3 rfl rfl) rfl rfl hl.1 rfl (lv_room (Nat.le_of_ble_eq_true rfl)) dX4_afterCourse_1 ⟨(Nat.le_of_ble_eq_true rfl), (Nat.le_of_ble_eq_true rfl)⟩) hP hD hS hA [0] [] rfl rfl (by decide) (by decide) (fun r1 u H locs hw hP hD hS => ?_)
  have h := pw_lt_e hw h
  have hP : va_P (dC, dI) vwCl [(a_p0, .inr (3, [.int p0_round, .int p0_byTurns, .int p0_apart, .int p0_people, .int p0_women, .long p0_couples, .long p0_quarrels, .long p0_togethers, .long p0_barred, .ref a_p0_worths]))] H := hP
  have hD : va_D A [(a_p0, .inr (3, [.int p0_round, .int p0_byTurns, .int p0_apart, .int p0_people, .int p0_women, .long p0_couples, .long p0_quarrels, .long p0_togethers, .long p0_barred, .ref a_p0_worths]))] := hD
  refine lv_istore_n (lv' := [(3, .int r1), (0, .ref a_p0), (1, .int x1), (2, .int x2)]) hx hb dX4_afterCourse_4 rfl hl (by decide) rfl (fun ls hl => ?_)
  refine lv_iload_n hx hb dX4_afterCourse_5 rfl (lv_at hl 0 rfl) ?_
  refine lv_iconst (v := 1) hx hb dX4_afterCourse_6 (by decide) ?_
  refine lv_icmp_ge (tgt := 12) hx hb dX4_afterCourse_7 (by decide) (fun c4 => ?_) (fun c4 => ?_)
  · have h := pw_cd_p c4 h
    refine lv_iload_n hx hb dX4_afterCourse_12 rfl (lv_at hl 2 rfl) ?_
    refine lv_istore (lv' := [(4, .int x1), (3, .int r1), (0, .ref a_p0), (1, .int x1), (2, .int x2)]) hx hb dX4_afterCourse_13 hl (by decide) rfl (fun ls hl => ?_)
    refine lv_iconst (v := 0) hx hb dX4_afterCourse_15 (by decide) ?_
    refine lv_istore (lv' := [(5, .int 0), (4, .int x1), (3, .int r1), (0, .ref a_p0), (1, .int x1), (2, .int x2)]) hx hb dX4_afterCourse_16 hl (by decide) rfl (fun ls hl => ?_)
    refine lv_iconst (v := 0) hx hb dX4_afterCourse_18 (by decide) ?_
    refine lv_istore (lv' := [(6, .int 0), (5, .int 0), (4, .int x1), (3, .int r1), (0, .ref a_p0), (1, .int x1), (2, .int x2)]) hx hb dX4_afterCourse_19 hl (by decide) rfl (fun ls hl => ?_)
    have hl := lv_sub (l' := [(0, .ref a_p0), (1, .int x1), (2, .int x2), (3, .int r1), (4, .int x1), (5, .int 0), (6, .int 0)]) hl [4, 5, 6, 3, 2, 1, 0] rfl
    obtain ⟨xx21, hL22, h⟩ := pw_bd_e h
    refine lw_X4_afterCourse_21 hx hb hml hown hts hA hK a_p0 a_p0_worths x1 x2 r1 p0_round p0_byTurns p0_apart p0_people p0_women p0_couples p0_quarrels p0_togethers p0_barred pw_FU x1 0 0 xx21 hL22 ?_ _ locs ls hP hD hS hl
    intro y23 ex H locs ls hP hD hS hl
    subst ex
    have h := pw_u1_e h
    refine lv_iload hx hb dX4_afterCourse_83 (lv_at hl 0 rfl) ?_
    rw [hQ]
    exact W.iret (v := y23) hx hb hr (fun t ht hW => ⟨⟨y23, (), rfl, hc.trans h.symm, by rw [ht]; exact hP, va_K.moved hW.alike hK, hD⟩, hS.F ht⟩) hS.2.2 dX4_afterCourse_85
  · have h := pw_cd_n c4 h
    refine lv_iload_n hx hb dX4_afterCourse_10 rfl (lv_at hl 2 rfl) ?_
    rw [hQ]
    exact W.iret (v := x1) hx hb hr (fun t ht hW => ⟨⟨x1, (), rfl, hc.trans h.symm, by rw [ht]; exact hP, va_K.moved hW.alike hK, hD⟩, hS.F ht⟩) hS.2.2 dX4_afterCourse_11
/-! X4_clear -/
theorem li_X4_clear_X4 : ∀ w ∈ u_ws RX4 TX4 10, w ∈ wsX4_clear := fun w h => List.mem_cons_of_mem _ (List.mem_append_right _ h)
theorem lk_X4_clear_9 : Cond.fieldLink RX4 9 "NoWifeBeside$Party" "round" "Z" ∈ wsX4_clear := by decide +kernel
theorem lk_X4_clear_15 : Cond.fieldLink RX4 15 "NoWifeBeside$Party" "byTurns" "Z" ∈ wsX4_clear := by decide +kernel
theorem lk_X4_clear_18 : Cond.fieldLink RX4 18 "NoWifeBeside$Party" "apart" "Z" ∈ wsX4_clear := by decide +kernel
theorem lk_X4_clear_21 : Cond.fieldLink RX4 21 "NoWifeBeside$Party" "people" "I" ∈ wsX4_clear := by decide +kernel
theorem lk_X4_clear_25 : Cond.fieldLink RX4 25 "NoWifeBeside$Party" "women" "I" ∈ wsX4_clear := by decide +kernel
theorem lk_X4_clear_28 : Cond.fieldLink RX4 28 "NoWifeBeside$Party" "couples" "J" ∈ wsX4_clear := by decide +kernel
theorem lk_X4_clear_32 : Cond.fieldLink RX4 32 "NoWifeBeside$Party" "quarrels" "J" ∈ wsX4_clear := by decide +kernel
theorem lk_X4_clear_35 : Cond.fieldLink RX4 35 "NoWifeBeside$Party" "togethers" "J" ∈ wsX4_clear := by decide +kernel
theorem lk_X4_clear_38 : Cond.fieldLink RX4 38 "NoWifeBeside$Party" "barred" "J" ∈ wsX4_clear := by decide +kernel
theorem lk_X4_clear_43 : Cond.fieldLink RX4 43 "NoWifeBeside$Party" "worths" "[I" ∈ wsX4_clear := by decide +kernel
abbrev rm_X4_clear : Room := { frames := 0, cells := 0, slots := 0, locals := 0 }
set_option maxRecDepth 100000 in
set_option maxHeartbeats 4000000 in
theorem lw_X4_clear_47 {p : Program} {l : Launch} {e : Env} {s : State} {m : MethodId} {args : Array Value} {below : List Frame} {meth : Method} {c : Code} {Q : State → Prop} {dC : Nat → ClassId} {dI : Nat → Nat → Nat} {cI cZ : ClassId} {A : Nat → Prop} (hx : p.tables.exec = Jvm.exec) (hb : c.code = cX4_clear) (hml : c.maxLocals = 2) (hown : s.vm.findClass RX4 = some m.cls) (hts : ∀ w ∈ wsX4_clear, w.before args s = true) (hA : ∀ q : Nat, s.heap.size ≤ q → A q) (hK : va_K (dC, dI) vwCl [(cI, .int), (cZ, .boolean)] s) (a_p0 : Nat) (a_p0_worths : Nat) (p0_round : Int32) (p0_byTurns : Int32) (p0_apart : Int32) (p0_people : Int32) (p0_women : Int32) (p0_couples : Int64) (p0_quarrels : Int64) (p0_togethers : Int64) (p0_barred : Int64) :
    ∀ (n : Nat) (l1 : Int32) (p0_worths_v : Nat → Int32) (xx : (Nat → Int32)), lf_X4_clear_47 n l1 p0_worths_v = some xx → ((∀ (e_p0_worths_v : Nat → Int32), e_p0_worths_v = xx → ∀ (H : Heap) (locs : List Loc) (ls : Array Slot), va_P (dC, dI) vwCl [(a_p0, .inr (3, [.int p0_round, .int p0_byTurns, .int p0_apart, .int p0_people, .int p0_women, .long p0_couples, .long p0_quarrels, .long p0_togethers, .long p0_barred, .ref a_p0_worths])), (a_p0_worths, .inl (cI, 64, .inl e_p0_worths_v))] H → va_D A [(a_p0, .inr (3, [.int p0_round, .int p0_byTurns, .int p0_apart, .int p0_people, .int p0_women, .long p0_couples, .long p0_quarrels, .long p0_togethers, .long p0_barred, .ref a_p0_worths])), (a_p0_worths, .inl (cI, 64, .inl e_p0_worths_v))] → va_S A s.heap H locs → lv_has ls 2 [] → W p l e rm_X4_clear s m args below meth c H locs 0 0 Q (F0 m 69 ls []))) → ∀ (H : Heap) (locs : List Loc) (ls : Array Slot), va_P (dC, dI) vwCl [(a_p0, .inr (3, [.int p0_round, .int p0_byTurns, .int p0_apart, .int p0_people, .int p0_women, .long p0_couples, .long p0_quarrels, .long p0_togethers, .long p0_barred, .ref a_p0_worths])), (a_p0_worths, .inl (cI, 64, .inl p0_worths_v))] H → va_D A [(a_p0, .inr (3, [.int p0_round, .int p0_byTurns, .int p0_apart, .int p0_people, .int p0_women, .long p0_couples, .long p0_quarrels, .long p0_togethers, .long p0_barred, .ref a_p0_worths])), (a_p0_worths, .inl (cI, 64, .inl p0_worths_v))] → va_S A s.heap H locs → lv_has ls 2 [(0, .ref a_p0), (1, .int l1)] → W p l e rm_X4_clear s m args below meth c H locs 0 0 Q (F0 m 47 ls []) := by
  intro n
  induction n with
  | zero =>
    intro l1 p0_worths_v xx h
    rw [lf_X4_clear_47] at h
    cases h
  | succ n ih =>
    intro l1 p0_worths_v xx h KK H locs ls hP hD hS hl
    rw [lf_X4_clear_47] at h
    refine lv_iload_n hx hb dX4_clear_47 rfl (lv_at hl 1 rfl) ?_
    refine lv_aload_n hx hb dX4_clear_48 rfl (lv_at hl 0 rfl) ?_
    refine va_get (D := (dC, dI)) (ci := 3) (v := .ref a_p0_worths) (C := RX4) (T := TX4) (N := 10) hx hb hts li_X4_clear_X4 hown hK hP 0 rfl rfl 9 (by decide) (hts _ lk_X4_clear_43) (fun _ h9 => h9) rfl dX4_clear_49 ?_
    refine va_alen hx hb hK hP 1 0 rfl rfl (v := 64) rfl dX4_clear_52 ?_
    refine lv_topi (fun v1 ev1 => ?_)
    have h := pw_lt_e ev1 h
    refine lv_icmp_ge (tgt := 69) hx hb dX4_clear_53 (by decide) (fun c2 => ?_) (fun c2 => ?_)
    · have h := pw_cd_p c2 h
      have hl := lv_sub (l' := []) hl [] rfl
      exact KK p0_worths_v (Option.some.inj h) _ locs ls hP hD hS hl
    · have h := pw_cd_n c2 h
      refine lv_aload_n hx hb dX4_clear_56 rfl (lv_at hl 0 rfl) ?_
      refine va_get (D := (dC, dI)) (ci := 3) (v := .ref a_p0_worths) (C := RX4) (T := TX4) (N := 10) hx hb hts li_X4_clear_X4 hown hK hP 0 rfl rfl 9 (by decide) (hts _ lk_X4_clear_43) (fun _ h9 => h9) rfl dX4_clear_57 ?_
      refine lv_iload_n hx hb dX4_clear_60 rfl (lv_at hl 1 rfl) ?_
      refine lv_iconst (v := 0) hx hb dX4_clear_61 (by decide) ?_
      obtain ⟨g3, h⟩ := pw_gd_e h
      refine va_iast hx hb hK hP hD hS 1 0 rfl rfl g3 dX4_clear_62 (fun H locs hP hD hS => ?_)
      obtain ⟨f4, ef4⟩ : ∃ y : Nat → Int32, y = (upd p0_worths_v (Int32.toNatClampNeg l1) 0) := ⟨_, rfl⟩
      have h := pw_lt_e ef4 h
      rw [← ef4] at hP hD
      have hP : va_P (dC, dI) vwCl [(a_p0, .inr (3, [.int p0_round, .int p0_byTurns, .int p0_apart, .int p0_people, .int p0_women, .long p0_couples, .long p0_quarrels, .long p0_togethers, .long p0_barred, .ref a_p0_worths])), (a_p0_worths, .inl (cI, 64, .inl f4))] H := hP
      have hD : va_D A [(a_p0, .inr (3, [.int p0_round, .int p0_byTurns, .int p0_apart, .int p0_people, .int p0_women, .long p0_couples, .long p0_quarrels, .long p0_togethers, .long p0_barred, .ref a_p0_worths])), (a_p0_worths, .inl (cI, 64, .inl f4))] := hD
      refine lv_iinc (v := (l1 + 1)) (lv' := [(1, .int (l1 + 1)), (0, .ref a_p0)]) hx hb dX4_clear_63 hl (k := 1) rfl rfl (by decide) rfl (fun ls hl => ?_)
      refine lv_goto (tgt := 47) hx hb dX4_clear_66 (by decide) ?_
      have hl := lv_sub (l' := [(0, .ref a_p0), (1, .int (l1 + 1))]) hl [1, 0] rfl
      exact ih (l1 + 1) f4 xx h KK _ locs ls hP hD hS hl
set_option maxRecDepth 100000 in
set_option maxHeartbeats 4000000 in
theorem c_X4_clear (l : Launch) (dC : Nat → ClassId) (dI : Nat → Nat → Nat) (cI cZ : ClassId) (sz : Nat) (a_p0 : Nat) (a_p0_worths : Nat) (p0_round : Int32) (p0_byTurns : Int32) (p0_apart : Int32) (p0_people : Int32) (p0_women : Int32) (p0_couples : Int64) (p0_quarrels : Int64) (p0_togethers : Int64) (p0_barred : Int64) (p0_worths_v : Nat → Int32) (xx : Int32 × Int32 × Int32 × Int32 × Int32 × Int64 × Int64 × Int64 × Int64 × (Nat → Int32)) (hc : f_X4_clear p0_worths_v = some xx) : Met l yX4_clear wsX4_clear rm_X4_clear (va_Pc [.ref a_p0] (pw_pre (dC, dI) cI cZ [(a_p0, .inr (3, [.int p0_round, .int p0_byTurns, .int p0_apart, .int p0_people, .int p0_women, .long p0_couples, .long p0_quarrels, .long p0_togethers, .long p0_barred, .ref a_p0_worths])), (a_p0_worths, .inl (cI, 64, .inl p0_worths_v))] sz)) (va_Qv (fun (u : Int32 × Int32 × Int32 × Int32 × Int32 × Int64 × Int64 × Int64 × Int64 × (Nat → Int32)) => f_X4_clear p0_worths_v = some (u.1, u.2.1, u.2.2.1, u.2.2.2.1, u.2.2.2.2.1, u.2.2.2.2.2.1, u.2.2.2.2.2.2.1, u.2.2.2.2.2.2.2.1, u.2.2.2.2.2.2.2.2.1, u.2.2.2.2.2.2.2.2.2)) (fun u t => pw_post (dC, dI) cI cZ (va_A [(a_p0, .inr (3, [.int p0_round, .int p0_byTurns, .int p0_apart, .int p0_people, .int p0_women, .long p0_couples, .long p0_quarrels, .long p0_togethers, .long p0_barred, .ref a_p0_worths])), (a_p0_worths, .inl (cI, 64, .inl p0_worths_v))] sz) [(a_p0, .inr (3, [.int u.1, .int u.2.1, .int u.2.2.1, .int u.2.2.2.1, .int u.2.2.2.2.1, .long u.2.2.2.2.2.1, .long u.2.2.2.2.2.2.1, .long u.2.2.2.2.2.2.2.1, .long u.2.2.2.2.2.2.2.2.1, .ref a_p0_worths])), (a_p0_worths, .inl (cI, 64, .inl u.2.2.2.2.2.2.2.2.2))] t) (va_A [(a_p0, .inr (3, [.int p0_round, .int p0_byTurns, .int p0_apart, .int p0_people, .int p0_women, .long p0_couples, .long p0_quarrels, .long p0_togethers, .long p0_barred, .ref a_p0_worths])), (a_p0_worths, .inl (cI, 64, .inl p0_worths_v))] sz)) 0 0 (va_A [(a_p0, .inr (3, [.int p0_round, .int p0_byTurns, .int p0_apart, .int p0_people, .int p0_women, .long p0_couples, .long p0_quarrels, .long p0_togethers, .long p0_barred, .ref a_p0_worths])), (a_p0_worths, .inl (cI, 64, .inl p0_worths_v))] sz) := by
  refine Met.ofW (cc := cX4_clear) (maxL := 2) (ret := none) (by decide) rfl ?_
  intro p e s m args below meth c s₁ B hml hv
  obtain ⟨rfl, hsz, hP, hK, hD0⟩ := hv
  have hx := B.exec
  have hb := B.bytes
  have hr := B.returns
  have hts := atoms_spec (ws := wsX4_clear) B.pre
  have hown : s.vm.findClass RX4 = some m.cls := findClass_of_methodNamed B.named
  have hlocks := B.notSynchronized
  subst hsz
  have hD := hD0.self (sz := s.heap.size)
  generalize hAe : va_A [(a_p0, .inr (3, [.int p0_round, .int p0_byTurns, .int p0_apart, .int p0_people, .int p0_women, .long p0_couples, .long p0_quarrels, .long p0_togethers, .long p0_barred, .ref a_p0_worths])), (a_p0_worths, .inl (cI, 64, .inl p0_worths_v))] s.heap.size = A at hD ⊢
  have hA : ∀ q : Nat, s.heap.size ≤ q → A q := fun q h => by rw [← hAe]; exact Or.inr h
  have hS : va_S A s.heap s.heap [] := va_S.rf
  have hP : va_P (dC, dI) vwCl [(a_p0, .inr (3, [.int p0_round, .int p0_byTurns, .int p0_apart, .int p0_people, .int p0_women, .long p0_couples, .long p0_quarrels, .long p0_togethers, .long p0_barred, .ref a_p0_worths])), (a_p0_worths, .inl (cI, 64, .inl p0_worths_v))] s.heap := hP
  have hl := lv_entry ([.ref a_p0]) (n := 2) (Nat.le_of_ble_eq_true rfl)
  rw [lg_entry_eq]
  generalize (lg_sl ([.ref a_p0]) ++ List.replicate (2 - (lg_sl ([.ref a_p0])).length) Slot.unset).toArray = ls at hl ⊢
  have hl : lv_has ls 2 [(0, .ref a_p0)] := hl
  refine pw_Wq (R := rm_X4_clear) (fun Q hQ => ?_)
  obtain ⟨locs, elocs⟩ : ∃ y : List Loc, y = [] := ⟨_, rfl⟩
  rw [← elocs] at hS ⊢
  have h := hc
  unfold f_X4_clear at h
  refine lv_aload_n hx hb dX4_clear_0 rfl (lv_at hl 0 rfl) ?_
  refine lv_iconst (v := 0) hx hb dX4_clear_1 (by decide) ?_
  refine va_put (D := (dC, dI)) (ci := 3) (v := .int 0) (ty := .boolean) (C := RX4) (T := TX4) (N := 10) hx hb hts li_X4_clear_X4 tyX4 tyX4_ok nmX4 hown hK hP hD hS 0 rfl rfl 0 (by decide) (hts _ lk_X4_clear_9) (fun _ h9 => h9) rfl (by decide +kernel) rfl rfl (Nat.le_of_ble_eq_true rfl) dX4_clear_2 (fun H locs hP hD hS => ?_)
  have hP : va_P (dC, dI) vwCl [(a_p0, .inr (3, [.int 0, .int p0_byTurns, .int p0_apart, .int p0_people, .int p0_women, .long p0_couples, .long p0_quarrels, .long p0_togethers, .long p0_barred, .ref a_p0_worths])), (a_p0_worths, .inl (cI, 64, .inl p0_worths_v))] H := hP
  have hD : va_D A [(a_p0, .inr (3, [.int 0, .int p0_byTurns, .int p0_apart, .int p0_people, .int p0_women, .long p0_couples, .long p0_quarrels, .long p0_togethers, .long p0_barred, .ref a_p0_worths])), (a_p0_worths, .inl (cI, 64, .inl p0_worths_v))] := hD
  refine lv_aload_n hx hb dX4_clear_5 rfl (lv_at hl 0 rfl) ?_
  refine lv_iconst (v := 0) hx hb dX4_clear_6 (by decide) ?_
  refine va_put (D := (dC, dI)) (ci := 3) (v := .int 0) (ty := .boolean) (C := RX4) (T := TX4) (N := 10) hx hb hts li_X4_clear_X4 tyX4 tyX4_ok nmX4 hown hK hP hD hS 0 rfl rfl 1 (by decide) (hts _ lk_X4_clear_15) (fun _ h9 => h9) rfl (by decide +kernel) rfl rfl (Nat.le_of_ble_eq_true rfl) dX4_clear_7 (fun H locs hP hD hS => ?_)
  have hP : va_P (dC, dI) vwCl [(a_p0, .inr (3, [.int 0, .int 0, .int p0_apart, .int p0_people, .int p0_women, .long p0_couples, .long p0_quarrels, .long p0_togethers, .long p0_barred, .ref a_p0_worths])), (a_p0_worths, .inl (cI, 64, .inl p0_worths_v))] H := hP
  have hD : va_D A [(a_p0, .inr (3, [.int 0, .int 0, .int p0_apart, .int p0_people, .int p0_women, .long p0_couples, .long p0_quarrels, .long p0_togethers, .long p0_barred, .ref a_p0_worths])), (a_p0_worths, .inl (cI, 64, .inl p0_worths_v))] := hD
  refine lv_aload_n hx hb dX4_clear_10 rfl (lv_at hl 0 rfl) ?_
  refine lv_iconst (v := 0) hx hb dX4_clear_11 (by decide) ?_
  refine va_put (D := (dC, dI)) (ci := 3) (v := .int 0) (ty := .boolean) (C := RX4) (T := TX4) (N := 10) hx hb hts li_X4_clear_X4 tyX4 tyX4_ok nmX4 hown hK hP hD hS 0 rfl rfl 2 (by decide) (hts _ lk_X4_clear_18) (fun _ h9 => h9) rfl (by decide +kernel) rfl rfl (Nat.le_of_ble_eq_true rfl) dX4_clear_12 (fun H locs hP hD hS => ?_)
  have hP : va_P (dC, dI) vwCl [(a_p0, .inr (3, [.int 0, .int 0, .int 0, .int p0_people, .int p0_women, .long p0_couples, .long p0_quarrels, .long p0_togethers, .long p0_barred, .ref a_p0_worths])), (a_p0_worths, .inl (cI, 64, .inl p0_worths_v))] H := hP
  have hD : va_D A [(a_p0, .inr (3, [.int 0, .int 0, .int 0, .int p0_people, .int p0_women, .long p0_couples, .long p0_quarrels, .long p0_togethers, .long p0_barred, .ref a_p0_worths])), (a_p0_worths, .inl (cI, 64, .inl p0_worths_v))] := hD
  refine lv_aload_n hx hb dX4_clear_15 rfl (lv_at hl 0 rfl) ?_
  refine lv_iconst (v := 0) hx hb dX4_clear_16 (by decide) ?_
  refine va_put (D := (dC, dI)) (ci := 3) (v := .int 0) (ty := .int) (C := RX4) (T := TX4) (N := 10) hx hb hts li_X4_clear_X4 tyX4 tyX4_ok nmX4 hown hK hP hD hS 0 rfl rfl 3 (by decide) (hts _ lk_X4_clear_21) (fun _ h9 => h9) rfl (by decide +kernel) rfl rfl (Nat.le_of_ble_eq_true rfl) dX4_clear_17 (fun H locs hP hD hS => ?_)
  have hP : va_P (dC, dI) vwCl [(a_p0, .inr (3, [.int 0, .int 0, .int 0, .int 0, .int p0_women, .long p0_couples, .long p0_quarrels, .long p0_togethers, .long p0_barred, .ref a_p0_worths])), (a_p0_worths, .inl (cI, 64, .inl p0_worths_v))] H := hP
  have hD : va_D A [(a_p0, .inr (3, [.int 0, .int 0, .int 0, .int 0, .int p0_women, .long p0_couples, .long p0_quarrels, .long p0_togethers, .long p0_barred, .ref a_p0_worths])), (a_p0_worths, .inl (cI, 64, .inl p0_worths_v))] := hD
  refine lv_aload_n hx hb dX4_clear_20 rfl (lv_at hl 0 rfl) ?_
  refine lv_iconst (v := 0) hx hb dX4_clear_21 (by decide) ?_
  refine va_put (D := (dC, dI)) (ci := 3) (v := .int 0) (ty := .int) (C := RX4) (T := TX4) (N := 10) hx hb hts li_X4_clear_X4 tyX4 tyX4_ok nmX4 hown hK hP hD hS 0 rfl rfl 4 (by decide) (hts _ lk_X4_clear_25) (fun _ h9 => h9) rfl (by decide +kernel) rfl rfl (Nat.le_of_ble_eq_true rfl) dX4_clear_22 (fun H locs hP hD hS => ?_)
  have hP : va_P (dC, dI) vwCl [(a_p0, .inr (3, [.int 0, .int 0, .int 0, .int 0, .int 0, .long p0_couples, .long p0_quarrels, .long p0_togethers, .long p0_barred, .ref a_p0_worths])), (a_p0_worths, .inl (cI, 64, .inl p0_worths_v))] H := hP
  have hD : va_D A [(a_p0, .inr (3, [.int 0, .int 0, .int 0, .int 0, .int 0, .long p0_couples, .long p0_quarrels, .long p0_togethers, .long p0_barred, .ref a_p0_worths])), (a_p0_worths, .inl (cI, 64, .inl p0_worths_v))] := hD
  refine lv_aload_n hx hb dX4_clear_25 rfl (lv_at hl 0 rfl) ?_
  refine lv_lconst (v := 0) hx hb dX4_clear_26 (by decide) ?_
  refine va_put (D := (dC, dI)) (ci := 3) (v := .long 0) (ty := .long) (C := RX4) (T := TX4) (N := 10) hx hb hts li_X4_clear_X4 tyX4 tyX4_ok nmX4 hown hK hP hD hS 0 rfl rfl 5 (by decide) (hts _ lk_X4_clear_28) (fun _ h9 => h9) rfl (by decide +kernel) rfl rfl (Nat.le_of_ble_eq_true rfl) dX4_clear_27 (fun H locs hP hD hS => ?_)
  have hP : va_P (dC, dI) vwCl [(a_p0, .inr (3, [.int 0, .int 0, .int 0, .int 0, .int 0, .long 0, .long p0_quarrels, .long p0_togethers, .long p0_barred, .ref a_p0_worths])), (a_p0_worths, .inl (cI, 64, .inl p0_worths_v))] H := hP
  have hD : va_D A [(a_p0, .inr (3, [.int 0, .int 0, .int 0, .int 0, .int 0, .long 0, .long p0_quarrels, .long p0_togethers, .long p0_barred, .ref a_p0_worths])), (a_p0_worths, .inl (cI, 64, .inl p0_worths_v))] := hD
  refine lv_aload_n hx hb dX4_clear_30 rfl (lv_at hl 0 rfl) ?_
  refine lv_lconst (v := 0) hx hb dX4_clear_31 (by decide) ?_
  refine va_put (D := (dC, dI)) (ci := 3) (v := .long 0) (ty := .long) (C := RX4) (T := TX4) (N := 10) hx hb hts li_X4_clear_X4 tyX4 tyX4_ok nmX4 hown hK hP hD hS 0 rfl rfl 6 (by decide) (hts _ lk_X4_clear_32) (fun _ h9 => h9) rfl (by decide +kernel) rfl rfl (Nat.le_of_ble_eq_true rfl) dX4_clear_32 (fun H locs hP hD hS => ?_)
  have hP : va_P (dC, dI) vwCl [(a_p0, .inr (3, [.int 0, .int 0, .int 0, .int 0, .int 0, .long 0, .long 0, .long p0_togethers, .long p0_barred, .ref a_p0_worths])), (a_p0_worths, .inl (cI, 64, .inl p0_worths_v))] H := hP
  have hD : va_D A [(a_p0, .inr (3, [.int 0, .int 0, .int 0, .int 0, .int 0, .long 0, .long 0, .long p0_togethers, .long p0_barred, .ref a_p0_worths])), (a_p0_worths, .inl (cI, 64, .inl p0_worths_v))] := hD
  refine lv_aload_n hx hb dX4_clear_35 rfl (lv_at hl 0 rfl) ?_
  refine lv_lconst (v := 0) hx hb dX4_clear_36 (by decide) ?_
  refine va_put (D := (dC, dI)) (ci := 3) (v := .long 0) (ty := .long) (C := RX4) (T := TX4) (N := 10) hx hb hts li_X4_clear_X4 tyX4 tyX4_ok nmX4 hown hK hP hD hS 0 rfl rfl 7 (by decide) (hts _ lk_X4_clear_35) (fun _ h9 => h9) rfl (by decide +kernel) rfl rfl (Nat.le_of_ble_eq_true rfl) dX4_clear_37 (fun H locs hP hD hS => ?_)
  have hP : va_P (dC, dI) vwCl [(a_p0, .inr (3, [.int 0, .int 0, .int 0, .int 0, .int 0, .long 0, .long 0, .long 0, .long p0_barred, .ref a_p0_worths])), (a_p0_worths, .inl (cI, 64, .inl p0_worths_v))] H := hP
  have hD : va_D A [(a_p0, .inr (3, [.int 0, .int 0, .int 0, .int 0, .int 0, .long 0, .long 0, .long 0, .long p0_barred, .ref a_p0_worths])), (a_p0_worths, .inl (cI, 64, .inl p0_worths_v))] := hD
  refine lv_aload_n hx hb dX4_clear_40 rfl (lv_at hl 0 rfl) ?_
  refine lv_lconst (v := 0) hx hb dX4_clear_41 (by decide) ?_
  refine va_put (D := (dC, dI)) (ci := 3) (v := .long 0) (ty := .long) (C := RX4) (T := TX4) (N := 10) hx hb hts li_X4_clear_X4 tyX4 tyX4_ok nmX4 hown hK hP hD hS 0 rfl rfl 8 (by decide) (hts _ lk_X4_clear_38) (fun _ h9 => h9) rfl (by decide +kernel) rfl rfl (Nat.le_of_ble_eq_true rfl) dX4_clear_42 (fun H locs hP hD hS => ?_)
  have hP : va_P (dC, dI) vwCl [(a_p0, .inr (3, [.int 0, .int 0, .int 0, .int 0, .int 0, .long 0, .long 0, .long 0, .long 0, .ref a_p0_worths])), (a_p0_worths, .inl (cI, 64, .inl p0_worths_v))] H := hP
  have hD : va_D A [(a_p0, .inr (3, [.int 0, .int 0, .int 0, .int 0, .int 0, .long 0, .long 0, .long 0, .long 0, .ref a_p0_worths])), (a_p0_worths, .inl (cI, 64, .inl p0_worths_v))] := hD
  refine lv_iconst (v := 0) hx hb dX4_clear_45 (by decide) ?_
  refine lv_istore_n (lv' := [(1, .int 0), (0, .ref a_p0)]) hx hb dX4_clear_46 rfl hl (by decide) rfl (fun ls hl => ?_)
  have hl := lv_sub (l' := [(0, .ref a_p0), (1, .int 0)]) hl [1, 0] rfl
  obtain ⟨xx5, hL6, h⟩ := pw_bd_e h
  refine lw_X4_clear_47 hx hb hml hown hts hA hK a_p0 a_p0_worths 0 0 0 0 0 0 0 0 0 pw_FU 0 p0_worths_v xx5 hL6 ?_ _ locs ls hP hD hS hl
  intro y7 ex H locs ls hP hD hS hl
  subst ex
  have h := pw_u1_e h
  rw [hQ]
  exact W.vret hx hb hr (fun t ht hW => ⟨⟨(0, 0, 0, 0, 0, 0, 0, 0, 0, y7), rfl, hc.trans h.symm, by rw [ht]; exact hP, va_K.moved hW.alike hK, hD⟩, hS.F ht⟩) hS.2.2 dX4_clear_69
