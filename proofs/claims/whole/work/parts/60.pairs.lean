/-! X3_cell -/
abbrev rm_X3_cell : Room := { frames := 0, cells := 0, slots := 0, locals := 0 }
set_option maxRecDepth 100000 in
set_option maxHeartbeats 4000000 in
theorem c_X3_cell (l : Launch) (dC : Nat → ClassId) (dI : Nat → Nat → Nat) (cI cZ : ClassId) (sz : Nat) (x0 : Int32) (x1 : Int32) : Met l yX3_cell wsX3_cell rm_X3_cell (va_Pc [.int x0, .int x1] (pw_pre (dC, dI) cI cZ [] sz)) (va_Qi (fun (r : Int32) (u : Unit) => r = f_X3_cell x0 x1) (fun u t => pw_post (dC, dI) cI cZ (va_A [] sz) [] t) (va_A [] sz)) 0 0 (va_A [] sz) := by
  refine Met.ofW (cc := cX3_cell) (maxL := 2) (ret := (some .int)) (by decide) rfl ?_
  intro p e s m args below meth c s₁ B hml hv
  obtain ⟨rfl, hsz, hP, hK, hD0⟩ := hv
  have hx := B.exec
  have hb := B.bytes
  have hr := B.returns
  have hts := atoms_spec (ws := wsX3_cell) B.pre
  have hown : s.vm.findClass RX3 = some m.cls := findClass_of_methodNamed B.named
  have hlocks := B.notSynchronized
  subst hsz
  have hD := hD0.self (sz := s.heap.size)
  generalize hAe : va_A [] s.heap.size = A at hD ⊢
  have hA : ∀ q : Nat, s.heap.size ≤ q → A q := fun q h => by rw [← hAe]; exact Or.inr h
  have hS : va_S A s.heap s.heap [] := va_S.rf
  have hP : va_P (dC, dI) vwCl [] s.heap := hP
  have hl := lv_entry ([.int x0, .int x1]) (n := 2) (Nat.le_of_ble_eq_true rfl)
  rw [lg_entry_eq]
  generalize (lg_sl ([.int x0, .int x1]) ++ List.replicate (2 - (lg_sl ([.int x0, .int x1])).length) Slot.unset).toArray = ls at hl ⊢
  have hl : lv_has ls 2 [(0, .int x0), (1, .int x1)] := hl
  refine pw_Wq (R := rm_X3_cell) (fun Q hQ => ?_)
  obtain ⟨locs, elocs⟩ : ∃ y : List Loc, y = [] := ⟨_, rfl⟩
  rw [← elocs] at hS ⊢
  obtain ⟨xx, hc⟩ : ∃ y, f_X3_cell x0 x1 = y := ⟨_, rfl⟩
  have h := hc
  unfold f_X3_cell at h
  refine lv_iload_n hx hb dX3_cell_0 rfl (lv_at hl 0 rfl) ?_
  refine lv_bipush (v := 7) hx hb dX3_cell_1 (by decide) ?_
  refine lv_iand hx hb dX3_cell_3 ?_
  refine lv_iconst (v := 3) hx hb dX3_cell_4 (by decide) ?_
  refine lv_ishl hx hb dX3_cell_5 ?_
  refine lv_iload_n hx hb dX3_cell_6 rfl (lv_at hl 1 rfl) ?_
  refine lv_bipush (v := 7) hx hb dX3_cell_7 (by decide) ?_
  refine lv_iand hx hb dX3_cell_9 ?_
  refine lv_ior hx hb dX3_cell_10 ?_
  rw [hQ]
  exact W.iret (v := (((x0 &&& 7) <<< (3 &&& 31)) ||| (x1 &&& 7))) hx hb hr (fun t ht hW => ⟨⟨(((x0 &&& 7) <<< (3 &&& 31)) ||| (x1 &&& 7)), (), rfl, h.trans hc.symm, by rw [ht]; exact hP, va_K.moved hW.alike hK, hD⟩, hS.F ht⟩) hS.2.2 dX3_cell_11
/-! X3_cellOfTwo -/
abbrev rm_X3_cellOfTwo : Room := { frames := 1, cells := 0, slots := 0, locals := 21 }
set_option maxRecDepth 100000 in
set_option maxHeartbeats 4000000 in
theorem c_X3_cellOfTwo (l : Launch) (dC : Nat → ClassId) (dI : Nat → Nat → Nat) (cI cZ : ClassId) (sz : Nat) (x0 : Int32) (x1 : Int32) : Met l yX3_cellOfTwo wsX3_cellOfTwo rm_X3_cellOfTwo (va_Pc [.int x0, .int x1] (pw_pre (dC, dI) cI cZ [] sz)) (va_Qi (fun (r : Int32) (u : Unit) => r = f_X3_cellOfTwo x0 x1) (fun u t => pw_post (dC, dI) cI cZ (va_A [] sz) [] t) (va_A [] sz)) 0 0 (va_A [] sz) := by
  refine Met.ofW (cc := cX3_cellOfTwo) (maxL := 2) (ret := (some .int)) (by decide) rfl ?_
  intro p e s m args below meth c s₁ B hml hv
  obtain ⟨rfl, hsz, hP, hK, hD0⟩ := hv
  have hx := B.exec
  have hb := B.bytes
  have hr := B.returns
  have hts := atoms_spec (ws := wsX3_cellOfTwo) B.pre
  have hown : s.vm.findClass RX3 = some m.cls := findClass_of_methodNamed B.named
  have hlocks := B.notSynchronized
  subst hsz
  have hD := hD0.self (sz := s.heap.size)
  generalize hAe : va_A [] s.heap.size = A at hD ⊢
  have hA : ∀ q : Nat, s.heap.size ≤ q → A q := fun q h => by rw [← hAe]; exact Or.inr h
  have hS : va_S A s.heap s.heap [] := va_S.rf
  have hP : va_P (dC, dI) vwCl [] s.heap := hP
  have hl := lv_entry ([.int x0, .int x1]) (n := 2) (Nat.le_of_ble_eq_true rfl)
  rw [lg_entry_eq]
  generalize (lg_sl ([.int x0, .int x1]) ++ List.replicate (2 - (lg_sl ([.int x0, .int x1])).length) Slot.unset).toArray = ls at hl ⊢
  have hl : lv_has ls 2 [(0, .int x0), (1, .int x1)] := hl
  refine pw_Wq (R := rm_X3_cellOfTwo) (fun Q hQ => ?_)
  obtain ⟨locs, elocs⟩ : ∃ y : List Loc, y = [] := ⟨_, rfl⟩
  rw [← elocs] at hS ⊢
  obtain ⟨xx, hc⟩ : ∃ y, f_X3_cellOfTwo x0 x1 = y := ⟨_, rfl⟩
  have h := hc
  unfold f_X3_cellOfTwo at h
  refine lv_iload_n hx hb dX3_cellOfTwo_0 rfl (lv_at hl 0 rfl) ?_
  refine lv_iload_n hx hb dX3_cellOfTwo_1 rfl (lv_at hl 1 rfl) ?_
  refine lv_icmp_ge (tgt := 13) hx hb dX3_cellOfTwo_2 (by decide) (fun c1 => ?_) (fun c1 => ?_)
  · have h := pw_cd_p c1 h
    refine lv_iload_n hx hb dX3_cellOfTwo_13 rfl (lv_at hl 1 rfl) ?_
    refine lv_iload_n hx hb dX3_cellOfTwo_14 rfl (lv_at hl 0 rfl) ?_
    refine pw_ci (wr := []) (va_runS (As := [.int x1, .int x0]) (rest := []) ⟨hx, hb, hml, hown, hts⟩ (c_X3_cell l dC dI cI cZ s.heap.size x1 x0) (va_cwS 2 hts gX3_cellOfTwo_X3_cell rfl rfl rfl (by decide +kernel) ⟨(Nat.le_of_ble_eq_true rfl), (Nat.le_of_ble_eq_true rfl)⟩) (pw_preS hK hP hD [] rfl rfl (by decide)) rfl rfl hl.1 rfl (lv_room (Nat.le_of_ble_eq_true rfl)) dX3_cellOfTwo_15 ⟨(Nat.le_of_ble_eq_true rfl), (Nat.le_of_ble_eq_true rfl)⟩) hP hD hS hA [] [] rfl rfl (by decide) (by decide) (fun r2 u H locs hw hP hD hS => ?_)
    have h := pw_lt_e hw h
    have hP : va_P (dC, dI) vwCl [] H := hP
    have hD : va_D A [] := hD
    rw [hQ]
    exact W.iret (v := r2) hx hb hr (fun t ht hW => ⟨⟨r2, (), rfl, h.trans hc.symm, by rw [ht]; exact hP, va_K.moved hW.alike hK, hD⟩, hS.F ht⟩) hS.2.2 dX3_cellOfTwo_18
  · have h := pw_cd_n c1 h
    refine lv_iload_n hx hb dX3_cellOfTwo_5 rfl (lv_at hl 0 rfl) ?_
    refine lv_iload_n hx hb dX3_cellOfTwo_6 rfl (lv_at hl 1 rfl) ?_
    refine pw_ci (wr := []) (va_runS (As := [.int x0, .int x1]) (rest := []) ⟨hx, hb, hml, hown, hts⟩ (c_X3_cell l dC dI cI cZ s.heap.size x0 x1) (va_cwS 2 hts gX3_cellOfTwo_X3_cell rfl rfl rfl (by decide +kernel) ⟨(Nat.le_of_ble_eq_true rfl), (Nat.le_of_ble_eq_true rfl)⟩) (pw_preS hK hP hD [] rfl rfl (by decide)) rfl rfl hl.1 rfl (lv_room (Nat.le_of_ble_eq_true rfl)) dX3_cellOfTwo_7 ⟨(Nat.le_of_ble_eq_true rfl), (Nat.le_of_ble_eq_true rfl)⟩) hP hD hS hA [] [] rfl rfl (by decide) (by decide) (fun r5 u H locs hw hP hD hS => ?_)
    have h := pw_lt_e hw h
    have hP : va_P (dC, dI) vwCl [] H := hP
    have hD : va_D A [] := hD
    refine lv_goto (tgt := 18) hx hb dX3_cellOfTwo_10 (by decide) ?_
    rw [hQ]
    exact W.iret (v := r5) hx hb hr (fun t ht hW => ⟨⟨r5, (), rfl, h.trans hc.symm, by rw [ht]; exact hP, va_K.moved hW.alike hK, hD⟩, hS.F ht⟩) hS.2.2 dX3_cellOfTwo_18
/-! X3_bothWays -/
abbrev rm_X3_bothWays : Room := { frames := 0, cells := 0, slots := 0, locals := 0 }
set_option maxRecDepth 100000 in
set_option maxHeartbeats 4000000 in
theorem c_X3_bothWays (l : Launch) (dC : Nat → ClassId) (dI : Nat → Nat → Nat) (cI cZ : ClassId) (sz : Nat) (x0 : Int32) (x1 : Int32) : Met l yX3_bothWays wsX3_bothWays rm_X3_bothWays (va_Pc [.int x0, .int x1] (pw_pre (dC, dI) cI cZ [] sz)) (va_Ql (fun (r : Int64) (u : Unit) => r = f_X3_bothWays x0 x1) (fun u t => pw_post (dC, dI) cI cZ (va_A [] sz) [] t) (va_A [] sz)) 0 0 (va_A [] sz) := by
  refine Met.ofW (cc := cX3_bothWays) (maxL := 2) (ret := (some .long)) (by decide) rfl ?_
  intro p e s m args below meth c s₁ B hml hv
  obtain ⟨rfl, hsz, hP, hK, hD0⟩ := hv
  have hx := B.exec
  have hb := B.bytes
  have hr := B.returns
  have hts := atoms_spec (ws := wsX3_bothWays) B.pre
  have hown : s.vm.findClass RX3 = some m.cls := findClass_of_methodNamed B.named
  have hlocks := B.notSynchronized
  subst hsz
  have hD := hD0.self (sz := s.heap.size)
  generalize hAe : va_A [] s.heap.size = A at hD ⊢
  have hA : ∀ q : Nat, s.heap.size ≤ q → A q := fun q h => by rw [← hAe]; exact Or.inr h
  have hS : va_S A s.heap s.heap [] := va_S.rf
  have hP : va_P (dC, dI) vwCl [] s.heap := hP
  have hl := lv_entry ([.int x0, .int x1]) (n := 2) (Nat.le_of_ble_eq_true rfl)
  rw [lg_entry_eq]
  generalize (lg_sl ([.int x0, .int x1]) ++ List.replicate (2 - (lg_sl ([.int x0, .int x1])).length) Slot.unset).toArray = ls at hl ⊢
  have hl : lv_has ls 2 [(0, .int x0), (1, .int x1)] := hl
  refine pw_Wq (R := rm_X3_bothWays) (fun Q hQ => ?_)
  obtain ⟨locs, elocs⟩ : ∃ y : List Loc, y = [] := ⟨_, rfl⟩
  rw [← elocs] at hS ⊢
  obtain ⟨xx, hc⟩ : ∃ y, f_X3_bothWays x0 x1 = y := ⟨_, rfl⟩
  have h := hc
  unfold f_X3_bothWays at h
  refine lv_lconst (v := 1) hx hb dX3_bothWays_0 (by decide) ?_
  refine lv_bipush (v := 8) hx hb dX3_bothWays_1 (by decide) ?_
  refine lv_iload_n hx hb dX3_bothWays_3 rfl (lv_at hl 0 rfl) ?_
  refine lv_imul hx hb dX3_bothWays_4 ?_
  refine lv_iload_n hx hb dX3_bothWays_5 rfl (lv_at hl 1 rfl) ?_
  refine lv_iadd hx hb dX3_bothWays_6 ?_
  refine lv_lshl hx hb dX3_bothWays_7 (v := ((1 : Int64) <<< (Int32.toInt64 ((8 * x0) + x1) &&& 63))) rfl ?_
  refine lv_lconst (v := 1) hx hb dX3_bothWays_8 (by decide) ?_
  refine lv_bipush (v := 8) hx hb dX3_bothWays_9 (by decide) ?_
  refine lv_iload_n hx hb dX3_bothWays_11 rfl (lv_at hl 1 rfl) ?_
  refine lv_imul hx hb dX3_bothWays_12 ?_
  refine lv_iload_n hx hb dX3_bothWays_13 rfl (lv_at hl 0 rfl) ?_
  refine lv_iadd hx hb dX3_bothWays_14 ?_
  refine lv_lshl hx hb dX3_bothWays_15 (v := ((1 : Int64) <<< (Int32.toInt64 ((8 * x1) + x0) &&& 63))) rfl ?_
  refine lv_lor hx hb dX3_bothWays_16 ?_
  rw [hQ]
  exact W.lret (v := (((1 : Int64) <<< (Int32.toInt64 ((8 * x0) + x1) &&& 63)) ||| ((1 : Int64) <<< (Int32.toInt64 ((8 * x1) + x0) &&& 63)))) hx hb hr (fun t ht hW => ⟨⟨(((1 : Int64) <<< (Int32.toInt64 ((8 * x0) + x1) &&& 63)) ||| ((1 : Int64) <<< (Int32.toInt64 ((8 * x1) + x0) &&& 63))), (), rfl, h.trans hc.symm, by rw [ht]; exact hP, va_K.moved hW.alike hK, hD⟩, hS.F ht⟩) hS.2.2 dX3_bothWays_17
/-! X3_rowOf -/
abbrev rm_X3_rowOf : Room := { frames := 0, cells := 0, slots := 0, locals := 0 }
set_option maxRecDepth 100000 in
set_option maxHeartbeats 4000000 in
theorem c_X3_rowOf (l : Launch) (dC : Nat → ClassId) (dI : Nat → Nat → Nat) (cI cZ : ClassId) (sz : Nat) (x0 : Int64) (x1 : Int32) : Met l yX3_rowOf wsX3_rowOf rm_X3_rowOf (va_Pc [.long x0, .int x1] (pw_pre (dC, dI) cI cZ [] sz)) (va_Qi (fun (r : Int32) (u : Unit) => r = f_X3_rowOf x0 x1) (fun u t => pw_post (dC, dI) cI cZ (va_A [] sz) [] t) (va_A [] sz)) 0 0 (va_A [] sz) := by
  refine Met.ofW (cc := cX3_rowOf) (maxL := 3) (ret := (some .int)) (by decide) rfl ?_
  intro p e s m args below meth c s₁ B hml hv
  obtain ⟨rfl, hsz, hP, hK, hD0⟩ := hv
  have hx := B.exec
  have hb := B.bytes
  have hr := B.returns
  have hts := atoms_spec (ws := wsX3_rowOf) B.pre
  have hown : s.vm.findClass RX3 = some m.cls := findClass_of_methodNamed B.named
  have hlocks := B.notSynchronized
  subst hsz
  have hD := hD0.self (sz := s.heap.size)
  generalize hAe : va_A [] s.heap.size = A at hD ⊢
  have hA : ∀ q : Nat, s.heap.size ≤ q → A q := fun q h => by rw [← hAe]; exact Or.inr h
  have hS : va_S A s.heap s.heap [] := va_S.rf
  have hP : va_P (dC, dI) vwCl [] s.heap := hP
  have hl := lv_entry ([.long x0, .int x1]) (n := 3) (Nat.le_of_ble_eq_true rfl)
  rw [lg_entry_eq]
  generalize (lg_sl ([.long x0, .int x1]) ++ List.replicate (3 - (lg_sl ([.long x0, .int x1])).length) Slot.unset).toArray = ls at hl ⊢
  have hl : lv_has ls 3 [(0, .long x0), (2, .int x1)] := hl
  refine pw_Wq (R := rm_X3_rowOf) (fun Q hQ => ?_)
  obtain ⟨locs, elocs⟩ : ∃ y : List Loc, y = [] := ⟨_, rfl⟩
  rw [← elocs] at hS ⊢
  obtain ⟨xx, hc⟩ : ∃ y, f_X3_rowOf x0 x1 = y := ⟨_, rfl⟩
  have h := hc
  unfold f_X3_rowOf at h
  refine lv_lload_n hx hb dX3_rowOf_0 rfl (lv_at hl 0 rfl) ?_
  refine lv_bipush (v := 8) hx hb dX3_rowOf_1 (by decide) ?_
  refine lv_iload_n hx hb dX3_rowOf_3 rfl (lv_at hl 1 rfl) ?_
  refine lv_imul hx hb dX3_rowOf_4 ?_
  refine lv_lushr hx hb dX3_rowOf_5 (v := (Int64.toUInt64 x0 >>> (Int64.toUInt64 (Int32.toInt64 (8 * x1)) &&& Int64.toUInt64 63)).toInt64) rfl ?_
  refine lv_l2i hx hb dX3_rowOf_6 (v := (Int64.toInt32 ((Int64.toUInt64 x0 >>> (Int64.toUInt64 (Int32.toInt64 (8 * x1)) &&& Int64.toUInt64 63)).toInt64))) rfl ?_
  refine lv_sipush (v := 255) hx hb dX3_rowOf_7 (by decide) ?_
  refine lv_iand hx hb dX3_rowOf_10 ?_
  rw [hQ]
  exact W.iret (v := ((Int64.toInt32 ((Int64.toUInt64 x0 >>> (Int64.toUInt64 (Int32.toInt64 (8 * x1)) &&& Int64.toUInt64 63)).toInt64)) &&& 255)) hx hb hr (fun t ht hW => ⟨⟨((Int64.toInt32 ((Int64.toUInt64 x0 >>> (Int64.toUInt64 (Int32.toInt64 (8 * x1)) &&& Int64.toUInt64 63)).toInt64)) &&& 255), (), rfl, h.trans hc.symm, by rw [ht]; exact hP, va_K.moved hW.alike hK, hD⟩, hS.F ht⟩) hS.2.2 dX3_rowOf_11
/-! X7_personOn -/
abbrev rm_X7_personOn : Room := { frames := 0, cells := 0, slots := 0, locals := 0 }
set_option maxRecDepth 100000 in
set_option maxHeartbeats 4000000 in
theorem c_X7_personOn (l : Launch) (dC : Nat → ClassId) (dI : Nat → Nat → Nat) (cI cZ : ClassId) (sz : Nat) (x0 : Int32) (x1 : Int32) : Met l yX7_personOn wsX7_personOn rm_X7_personOn (va_Pc [.int x0, .int x1] (pw_pre (dC, dI) cI cZ [] sz)) (va_Qi (fun (r : Int32) (u : Unit) => r = f_X7_personOn x0 x1) (fun u t => pw_post (dC, dI) cI cZ (va_A [] sz) [] t) (va_A [] sz)) 0 0 (va_A [] sz) := by
  refine Met.ofW (cc := cX7_personOn) (maxL := 2) (ret := (some .int)) (by decide) rfl ?_
  intro p e s m args below meth c s₁ B hml hv
  obtain ⟨rfl, hsz, hP, hK, hD0⟩ := hv
  have hx := B.exec
  have hb := B.bytes
  have hr := B.returns
  have hts := atoms_spec (ws := wsX7_personOn) B.pre
  have hown : s.vm.findClass RX7 = some m.cls := findClass_of_methodNamed B.named
  have hlocks := B.notSynchronized
  subst hsz
  have hD := hD0.self (sz := s.heap.size)
  generalize hAe : va_A [] s.heap.size = A at hD ⊢
  have hA : ∀ q : Nat, s.heap.size ≤ q → A q := fun q h => by rw [← hAe]; exact Or.inr h
  have hS : va_S A s.heap s.heap [] := va_S.rf
  have hP : va_P (dC, dI) vwCl [] s.heap := hP
  have hl := lv_entry ([.int x0, .int x1]) (n := 2) (Nat.le_of_ble_eq_true rfl)
  rw [lg_entry_eq]
  generalize (lg_sl ([.int x0, .int x1]) ++ List.replicate (2 - (lg_sl ([.int x0, .int x1])).length) Slot.unset).toArray = ls at hl ⊢
  have hl : lv_has ls 2 [(0, .int x0), (1, .int x1)] := hl
  refine pw_Wq (R := rm_X7_personOn) (fun Q hQ => ?_)
  obtain ⟨locs, elocs⟩ : ∃ y : List Loc, y = [] := ⟨_, rfl⟩
  rw [← elocs] at hS ⊢
  obtain ⟨xx, hc⟩ : ∃ y, f_X7_personOn x0 x1 = y := ⟨_, rfl⟩
  have h := hc
  unfold f_X7_personOn at h
  refine lv_iload_n hx hb dX7_personOn_0 rfl (lv_at hl 0 rfl) ?_
  refine lv_bipush (v := 18) hx hb dX7_personOn_1 (by decide) ?_
  refine lv_iconst (v := 3) hx hb dX7_personOn_3 (by decide) ?_
  refine lv_iload_n hx hb dX7_personOn_4 rfl (lv_at hl 1 rfl) ?_
  refine lv_imul hx hb dX7_personOn_5 ?_
  refine lv_isub hx hb dX7_personOn_6 ?_
  refine lv_ishr hx hb dX7_personOn_7 ?_
  refine lv_bipush (v := 7) hx hb dX7_personOn_8 (by decide) ?_
  refine lv_iand hx hb dX7_personOn_10 ?_
  rw [hQ]
  exact W.iret (v := ((x0 >>> ((18 - (3 * x1)) &&& 31)) &&& 7)) hx hb hr (fun t ht hW => ⟨⟨((x0 >>> ((18 - (3 * x1)) &&& 31)) &&& 7), (), rfl, h.trans hc.symm, by rw [ht]; exact hP, va_K.moved hW.alike hK, hD⟩, hS.F ht⟩) hS.2.2 dX7_personOn_11
/-! X7_with -/
abbrev rm_X7_with : Room := { frames := 0, cells := 0, slots := 0, locals := 0 }
set_option maxRecDepth 100000 in
set_option maxHeartbeats 4000000 in
theorem c_X7_with (l : Launch) (dC : Nat → ClassId) (dI : Nat → Nat → Nat) (cI cZ : ClassId) (sz : Nat) (x0 : Int32) (x1 : Int32) (x2 : Int32) : Met l yX7_with wsX7_with rm_X7_with (va_Pc [.int x0, .int x1, .int x2] (pw_pre (dC, dI) cI cZ [] sz)) (va_Qi (fun (r : Int32) (u : Unit) => r = f_X7_with x0 x1 x2) (fun u t => pw_post (dC, dI) cI cZ (va_A [] sz) [] t) (va_A [] sz)) 0 0 (va_A [] sz) := by
  refine Met.ofW (cc := cX7_with) (maxL := 4) (ret := (some .int)) (by decide) rfl ?_
  intro p e s m args below meth c s₁ B hml hv
  obtain ⟨rfl, hsz, hP, hK, hD0⟩ := hv
  have hx := B.exec
  have hb := B.bytes
  have hr := B.returns
  have hts := atoms_spec (ws := wsX7_with) B.pre
  have hown : s.vm.findClass RX7 = some m.cls := findClass_of_methodNamed B.named
  have hlocks := B.notSynchronized
  subst hsz
  have hD := hD0.self (sz := s.heap.size)
  generalize hAe : va_A [] s.heap.size = A at hD ⊢
  have hA : ∀ q : Nat, s.heap.size ≤ q → A q := fun q h => by rw [← hAe]; exact Or.inr h
  have hS : va_S A s.heap s.heap [] := va_S.rf
  have hP : va_P (dC, dI) vwCl [] s.heap := hP
  have hl := lv_entry ([.int x0, .int x1, .int x2]) (n := 4) (Nat.le_of_ble_eq_true rfl)
  rw [lg_entry_eq]
  generalize (lg_sl ([.int x0, .int x1, .int x2]) ++ List.replicate (4 - (lg_sl ([.int x0, .int x1, .int x2])).length) Slot.unset).toArray = ls at hl ⊢
  have hl : lv_has ls 4 [(0, .int x0), (1, .int x1), (2, .int x2)] := hl
  refine pw_Wq (R := rm_X7_with) (fun Q hQ => ?_)
  obtain ⟨locs, elocs⟩ : ∃ y : List Loc, y = [] := ⟨_, rfl⟩
  rw [← elocs] at hS ⊢
  obtain ⟨xx, hc⟩ : ∃ y, f_X7_with x0 x1 x2 = y := ⟨_, rfl⟩
  have h := hc
  unfold f_X7_with at h
  refine lv_bipush (v := 18) hx hb dX7_with_0 (by decide) ?_
  refine lv_iconst (v := 3) hx hb dX7_with_2 (by decide) ?_
  refine lv_iload_n hx hb dX7_with_3 rfl (lv_at hl 1 rfl) ?_
  refine lv_imul hx hb dX7_with_4 ?_
  refine lv_isub hx hb dX7_with_5 ?_
  refine lv_topi (fun v1 ev1 => ?_)
  have h := pw_lt_e ev1 h
  refine lv_istore_n (lv' := [(3, .int v1), (0, .int x0), (1, .int x1), (2, .int x2)]) hx hb dX7_with_6 rfl hl (by decide) rfl (fun ls hl => ?_)
  refine lv_iload_n hx hb dX7_with_7 rfl (lv_at hl 1 rfl) ?_
  refine lv_bipush (v := 7) hx hb dX7_with_8 (by decide) ?_
  refine lv_iload_n hx hb dX7_with_10 rfl (lv_at hl 0 rfl) ?_
  refine lv_ishl hx hb dX7_with_11 ?_
  refine lv_iconst (v := (-1)) hx hb dX7_with_12 (by decide) ?_
  refine lv_ixor hx hb dX7_with_13 ?_
  refine lv_iand hx hb dX7_with_14 ?_
  refine lv_iload_n hx hb dX7_with_15 rfl (lv_at hl 3 rfl) ?_
  refine lv_bipush (v := 7) hx hb dX7_with_16 (by decide) ?_
  refine lv_iand hx hb dX7_with_18 ?_
  refine lv_iload_n hx hb dX7_with_19 rfl (lv_at hl 0 rfl) ?_
  refine lv_ishl hx hb dX7_with_20 ?_
  refine lv_ior hx hb dX7_with_21 ?_
  rw [hQ]
  exact W.iret (v := ((x0 &&& (((7 : Int32) <<< (v1 &&& 31)) ^^^ (-1))) ||| ((x2 &&& 7) <<< (v1 &&& 31)))) hx hb hr (fun t ht hW => ⟨⟨((x0 &&& (((7 : Int32) <<< (v1 &&& 31)) ^^^ (-1))) ||| ((x2 &&& 7) <<< (v1 &&& 31))), (), rfl, h.trans hc.symm, by rw [ht]; exact hP, va_K.moved hW.alike hK, hD⟩, hS.F ht⟩) hS.2.2 dX7_with_22
/-! X7_asTold -/
abbrev rm_X7_asTold : Room := { frames := 1, cells := 0, slots := 0, locals := 23 }
set_option maxRecDepth 100000 in
set_option maxHeartbeats 4000000 in
theorem lw_X7_asTold_4 {p : Program} {l : Launch} {e : Env} {s : State} {m : MethodId} {args : Array Value} {below : List Frame} {meth : Method} {c : Code} {Q : State → Prop} {dC : Nat → ClassId} {dI : Nat → Nat → Nat} {cI cZ : ClassId} {A : Nat → Prop} (hx : p.tables.exec = Jvm.exec) (hb : c.code = cX7_asTold) (hml : c.maxLocals = 3) (hown : s.vm.findClass RX7 = some m.cls) (hts : ∀ w ∈ wsX7_asTold, w.before args s = true) (hA : ∀ q : Nat, s.heap.size ≤ q → A q) (hK : va_K (dC, dI) vwCl [(cI, .int), (cZ, .boolean)] s) (l0 : Int32) :
    ∀ (n : Nat) (l1 : Int32) (l2 : Int32) (xx : Int32), lf_X7_asTold_4 l0 n l1 l2 = some xx → ((∀ (e_l1 : Int32), e_l1 = xx → ∀ (H : Heap) (locs : List Loc) (ls : Array Slot), va_P (dC, dI) vwCl [] H → va_D A [] → va_S A s.heap H locs → lv_has ls 3 [(1, .int e_l1)] → W p l e rm_X7_asTold s m args below meth c H locs 0 0 Q (F0 m 28 ls []))) → ∀ (H : Heap) (locs : List Loc) (ls : Array Slot), va_P (dC, dI) vwCl [] H → va_D A [] → va_S A s.heap H locs → lv_has ls 3 [(0, .int l0), (1, .int l1), (2, .int l2)] → W p l e rm_X7_asTold s m args below meth c H locs 0 0 Q (F0 m 4 ls []) := by
  intro n
  induction n with
  | zero =>
    intro l1 l2 xx h
    rw [lf_X7_asTold_4] at h
    cases h
  | succ n ih =>
    intro l1 l2 xx h KK H locs ls hP hD hS hl
    rw [lf_X7_asTold_4] at h
    refine lv_iload_n hx hb dX7_asTold_4 rfl (lv_at hl 2 rfl) ?_
    refine lv_iload_n hx hb dX7_asTold_5 rfl (lv_at hl 0 rfl) ?_
    refine lv_icmp_ge (tgt := 28) hx hb dX7_asTold_6 (by decide) (fun c1 => ?_) (fun c1 => ?_)
    · have h := pw_cd_p c1 h
      have hl := lv_sub (l' := [(1, .int l1)]) hl [1] rfl
      exact KK l1 (Option.some.inj h) _ locs ls hP hD hS hl
    · have h := pw_cd_n c1 h
      refine lv_iload_n hx hb dX7_asTold_9 rfl (lv_at hl 2 rfl) ?_
      refine lv_bipush (v := 7) hx hb dX7_asTold_10 (by decide) ?_
      refine lv_icmp_ge (tgt := 28) hx hb dX7_asTold_12 (by decide) (fun c2 => ?_) (fun c2 => ?_)
      · have h := pw_cd_p c2 h
        have hl := lv_sub (l' := [(1, .int l1)]) hl [1] rfl
        exact KK l1 (Option.some.inj h) _ locs ls hP hD hS hl
      · have h := pw_cd_n c2 h
        refine lv_iload_n hx hb dX7_asTold_15 rfl (lv_at hl 1 rfl) ?_
        refine lv_iload_n hx hb dX7_asTold_16 rfl (lv_at hl 2 rfl) ?_
        refine lv_iload_n hx hb dX7_asTold_17 rfl (lv_at hl 2 rfl) ?_
        refine pw_ci (wr := []) (va_runS (As := [.int l1, .int l2, .int l2]) (rest := []) ⟨hx, hb, hml, hown, hts⟩ (c_X7_with l dC dI cI cZ H.size l1 l2 l2) (va_cwS 3 hts gX7_asTold_X7_with rfl rfl rfl (by decide +kernel) ⟨(Nat.le_of_ble_eq_true rfl), (Nat.le_of_ble_eq_true rfl)⟩) (pw_preS hK hP hD [] rfl rfl (by decide)) rfl rfl hl.1 rfl (lv_room (Nat.le_of_ble_eq_true rfl)) dX7_asTold_18 ⟨(Nat.le_of_ble_eq_true rfl), (Nat.le_of_ble_eq_true rfl)⟩) hP hD hS hA [] [] rfl rfl (by decide) (by decide) (fun r3 u H locs hw hP hD hS => ?_)
        have h := pw_lt_e hw h
        have hP : va_P (dC, dI) vwCl [] H := hP
        have hD : va_D A [] := hD
        refine lv_istore_n (lv' := [(1, .int r3), (0, .int l0), (2, .int l2)]) hx hb dX7_asTold_21 rfl hl (by decide) rfl (fun ls hl => ?_)
        refine lv_iinc (v := (l2 + 1)) (lv' := [(2, .int (l2 + 1)), (1, .int r3), (0, .int l0)]) hx hb dX7_asTold_22 hl (k := 2) rfl rfl (by decide) rfl (fun ls hl => ?_)
        refine lv_goto (tgt := 4) hx hb dX7_asTold_25 (by decide) ?_
        have hl := lv_sub (l' := [(0, .int l0), (1, .int r3), (2, .int (l2 + 1))]) hl [2, 1, 0] rfl
        exact ih r3 (l2 + 1) xx h KK _ locs ls hP hD hS hl
set_option maxRecDepth 100000 in
set_option maxHeartbeats 4000000 in
theorem c_X7_asTold (l : Launch) (dC : Nat → ClassId) (dI : Nat → Nat → Nat) (cI cZ : ClassId) (sz : Nat) (x0 : Int32) (xx : Int32) (hc : f_X7_asTold x0 = some xx) : Met l yX7_asTold wsX7_asTold rm_X7_asTold (va_Pc [.int x0] (pw_pre (dC, dI) cI cZ [] sz)) (va_Qi (fun (r : Int32) (u : Unit) => f_X7_asTold x0 = some r) (fun u t => pw_post (dC, dI) cI cZ (va_A [] sz) [] t) (va_A [] sz)) 0 0 (va_A [] sz) := by
  refine Met.ofW (cc := cX7_asTold) (maxL := 3) (ret := (some .int)) (by decide) rfl ?_
  intro p e s m args below meth c s₁ B hml hv
  obtain ⟨rfl, hsz, hP, hK, hD0⟩ := hv
  have hx := B.exec
  have hb := B.bytes
  have hr := B.returns
  have hts := atoms_spec (ws := wsX7_asTold) B.pre
  have hown : s.vm.findClass RX7 = some m.cls := findClass_of_methodNamed B.named
  have hlocks := B.notSynchronized
  subst hsz
  have hD := hD0.self (sz := s.heap.size)
  generalize hAe : va_A [] s.heap.size = A at hD ⊢
  have hA : ∀ q : Nat, s.heap.size ≤ q → A q := fun q h => by rw [← hAe]; exact Or.inr h
  have hS : va_S A s.heap s.heap [] := va_S.rf
  have hP : va_P (dC, dI) vwCl [] s.heap := hP
  have hl := lv_entry ([.int x0]) (n := 3) (Nat.le_of_ble_eq_true rfl)
  rw [lg_entry_eq]
  generalize (lg_sl ([.int x0]) ++ List.replicate (3 - (lg_sl ([.int x0])).length) Slot.unset).toArray = ls at hl ⊢
  have hl : lv_has ls 3 [(0, .int x0)] := hl
  refine pw_Wq (R := rm_X7_asTold) (fun Q hQ => ?_)
  obtain ⟨locs, elocs⟩ : ∃ y : List Loc, y = [] := ⟨_, rfl⟩
  rw [← elocs] at hS ⊢
  have h := hc
  unfold f_X7_asTold at h
  refine lv_iconst (v := 0) hx hb dX7_asTold_0 (by decide) ?_
  refine lv_istore_n (lv' := [(1, .int 0), (0, .int x0)]) hx hb dX7_asTold_1 rfl hl (by decide) rfl (fun ls hl => ?_)
  refine lv_iconst (v := 0) hx hb dX7_asTold_2 (by decide) ?_
  refine lv_istore_n (lv' := [(2, .int 0), (1, .int 0), (0, .int x0)]) hx hb dX7_asTold_3 rfl hl (by decide) rfl (fun ls hl => ?_)
  have hl := lv_sub (l' := [(0, .int x0), (1, .int 0), (2, .int 0)]) hl [2, 1, 0] rfl
  obtain ⟨xx6, hL7, h⟩ := pw_bd_e h
  refine lw_X7_asTold_4 hx hb hml hown hts hA hK x0 pw_FU 0 0 xx6 hL7 ?_ _ locs ls hP hD hS hl
  intro y8 ex H locs ls hP hD hS hl
  subst ex
  have h := pw_u1_e h
  refine lv_iload_n hx hb dX7_asTold_28 rfl (lv_at hl 0 rfl) ?_
  rw [hQ]
  exact W.iret (v := y8) hx hb hr (fun t ht hW => ⟨⟨y8, (), rfl, hc.trans h.symm, by rw [ht]; exact hP, va_K.moved hW.alike hK, hD⟩, hS.F ht⟩) hS.2.2 dX7_asTold_29
/-! X7_chairOf -/
abbrev rm_X7_chairOf : Room := { frames := 1, cells := 0, slots := 0, locals := 21 }
set_option maxRecDepth 100000 in
set_option maxHeartbeats 4000000 in
theorem lw_X7_chairOf_2 {p : Program} {l : Launch} {e : Env} {s : State} {m : MethodId} {args : Array Value} {below : List Frame} {meth : Method} {c : Code} {Q : State → Prop} {dC : Nat → ClassId} {dI : Nat → Nat → Nat} {cI cZ : ClassId} {A : Nat → Prop} (hx : p.tables.exec = Jvm.exec) (hb : c.code = cX7_chairOf) (hml : c.maxLocals = 4) (hown : s.vm.findClass RX7 = some m.cls) (hts : ∀ w ∈ wsX7_chairOf, w.before args s = true) (hA : ∀ q : Nat, s.heap.size ≤ q → A q) (hK : va_K (dC, dI) vwCl [(cI, .int), (cZ, .boolean)] s) (l0 : Int32) (l1 : Int32) (l2 : Int32) :
    ∀ (n : Nat) (l3 : Int32) (xx : (Int32) ⊕ (Unit)), lf_X7_chairOf_2 l0 l1 l2 n l3 = some xx → ((∀ (e_l3 : Int32), Sum.inl e_l3 = xx → ∀ (H : Heap) (locs : List Loc) (ls : Array Slot), va_P (dC, dI) vwCl [] H → va_D A [] → va_S A s.heap H locs → lv_has ls 4 [(3, .int e_l3)] → W p l e rm_X7_chairOf s m args below meth c H locs 0 0 Q (F0 m 22 ls [])) ∧ (Sum.inr () = xx → ∀ (H : Heap) (locs : List Loc) (ls : Array Slot), va_P (dC, dI) vwCl [] H → va_D A [] → va_S A s.heap H locs → lv_has ls 4 [] → W p l e rm_X7_chairOf s m args below meth c H locs 0 0 Q (F0 m 30 ls []))) → ∀ (H : Heap) (locs : List Loc) (ls : Array Slot), va_P (dC, dI) vwCl [] H → va_D A [] → va_S A s.heap H locs → lv_has ls 4 [(0, .int l0), (1, .int l1), (2, .int l2), (3, .int l3)] → W p l e rm_X7_chairOf s m args below meth c H locs 0 0 Q (F0 m 2 ls []) := by
  intro n
  induction n with
  | zero =>
    intro l3 xx h
    rw [lf_X7_chairOf_2] at h
    cases h
  | succ n ih =>
    intro l3 xx h KK H locs ls hP hD hS hl
    rw [lf_X7_chairOf_2] at h
    refine lv_iload_n hx hb dX7_chairOf_2 rfl (lv_at hl 3 rfl) ?_
    refine lv_iload_n hx hb dX7_chairOf_3 rfl (lv_at hl 2 rfl) ?_
    refine lv_icmp_ge (tgt := 30) hx hb dX7_chairOf_4 (by decide) (fun c1 => ?_) (fun c1 => ?_)
    · have h := pw_cd_p c1 h
      have hl := lv_sub (l' := []) hl [] rfl
      exact KK.2 (Option.some.inj h) _ locs ls hP hD hS hl
    · have h := pw_cd_n c1 h
      refine lv_iload_n hx hb dX7_chairOf_7 rfl (lv_at hl 3 rfl) ?_
      refine lv_bipush (v := 7) hx hb dX7_chairOf_8 (by decide) ?_
      refine lv_icmp_ge (tgt := 30) hx hb dX7_chairOf_10 (by decide) (fun c2 => ?_) (fun c2 => ?_)
      · have h := pw_cd_p c2 h
        have hl := lv_sub (l' := []) hl [] rfl
        exact KK.2 (Option.some.inj h) _ locs ls hP hD hS hl
      · have h := pw_cd_n c2 h
        refine lv_iload_n hx hb dX7_chairOf_13 rfl (lv_at hl 0 rfl) ?_
        refine lv_iload_n hx hb dX7_chairOf_14 rfl (lv_at hl 3 rfl) ?_
        refine pw_ci (wr := []) (va_runS (As := [.int l0, .int l3]) (rest := []) ⟨hx, hb, hml, hown, hts⟩ (c_X7_personOn l dC dI cI cZ H.size l0 l3) (va_cwS 2 hts gX7_chairOf_X7_personOn rfl rfl rfl (by decide +kernel) ⟨(Nat.le_of_ble_eq_true rfl), (Nat.le_of_ble_eq_true rfl)⟩) (pw_preS hK hP hD [] rfl rfl (by decide)) rfl rfl hl.1 rfl (lv_room (Nat.le_of_ble_eq_true rfl)) dX7_chairOf_15 ⟨(Nat.le_of_ble_eq_true rfl), (Nat.le_of_ble_eq_true rfl)⟩) hP hD hS hA [] [] rfl rfl (by decide) (by decide) (fun r3 u H locs hw hP hD hS => ?_)
        have h := pw_lt_e hw h
        have hP : va_P (dC, dI) vwCl [] H := hP
        have hD : va_D A [] := hD
        refine lv_iload_n hx hb dX7_chairOf_18 rfl (lv_at hl 1 rfl) ?_
        refine lv_icmp_ne (tgt := 24) hx hb dX7_chairOf_19 (by decide) (fun c6 => ?_) (fun c6 => ?_)
        · have h := pw_cd_p c6 h
          refine lv_iinc (v := (l3 + 1)) (lv' := [(3, .int (l3 + 1)), (0, .int l0), (1, .int l1), (2, .int l2)]) hx hb dX7_chairOf_24 hl (k := 3) rfl rfl (by decide) rfl (fun ls hl => ?_)
          refine lv_goto (tgt := 2) hx hb dX7_chairOf_27 (by decide) ?_
          have hl := lv_sub (l' := [(0, .int l0), (1, .int l1), (2, .int l2), (3, .int (l3 + 1))]) hl [1, 2, 3, 0] rfl
          exact ih (l3 + 1) xx h KK _ locs ls hP hD hS hl
        · have h := pw_cd_n (fun q => q c6) h
          have hl := lv_sub (l' := [(3, .int l3)]) hl [3] rfl
          exact KK.1 l3 (Option.some.inj h) _ locs ls hP hD hS hl
set_option maxRecDepth 100000 in
set_option maxHeartbeats 4000000 in
theorem c_X7_chairOf (l : Launch) (dC : Nat → ClassId) (dI : Nat → Nat → Nat) (cI cZ : ClassId) (sz : Nat) (x0 : Int32) (x1 : Int32) (x2 : Int32) (xx : Int32) (hc : f_X7_chairOf x0 x1 x2 = some xx) : Met l yX7_chairOf wsX7_chairOf rm_X7_chairOf (va_Pc [.int x0, .int x1, .int x2] (pw_pre (dC, dI) cI cZ [] sz)) (va_Qi (fun (r : Int32) (u : Unit) => f_X7_chairOf x0 x1 x2 = some r) (fun u t => pw_post (dC, dI) cI cZ (va_A [] sz) [] t) (va_A [] sz)) 0 0 (va_A [] sz) := by
  refine Met.ofW (cc := cX7_chairOf) (maxL := 4) (ret := (some .int)) (by decide) rfl ?_
  intro p e s m args below meth c s₁ B hml hv
  obtain ⟨rfl, hsz, hP, hK, hD0⟩ := hv
  have hx := B.exec
  have hb := B.bytes
  have hr := B.returns
  have hts := atoms_spec (ws := wsX7_chairOf) B.pre
  have hown : s.vm.findClass RX7 = some m.cls := findClass_of_methodNamed B.named
  have hlocks := B.notSynchronized
  subst hsz
  have hD := hD0.self (sz := s.heap.size)
  generalize hAe : va_A [] s.heap.size = A at hD ⊢
  have hA : ∀ q : Nat, s.heap.size ≤ q → A q := fun q h => by rw [← hAe]; exact Or.inr h
  have hS : va_S A s.heap s.heap [] := va_S.rf
  have hP : va_P (dC, dI) vwCl [] s.heap := hP
  have hl := lv_entry ([.int x0, .int x1, .int x2]) (n := 4) (Nat.le_of_ble_eq_true rfl)
  rw [lg_entry_eq]
  generalize (lg_sl ([.int x0, .int x1, .int x2]) ++ List.replicate (4 - (lg_sl ([.int x0, .int x1, .int x2])).length) Slot.unset).toArray = ls at hl ⊢
  have hl : lv_has ls 4 [(0, .int x0), (1, .int x1), (2, .int x2)] := hl
  refine pw_Wq (R := rm_X7_chairOf) (fun Q hQ => ?_)
  obtain ⟨locs, elocs⟩ : ∃ y : List Loc, y = [] := ⟨_, rfl⟩
  rw [← elocs] at hS ⊢
  have h := hc
  unfold f_X7_chairOf at h
  refine lv_iconst (v := 0) hx hb dX7_chairOf_0 (by decide) ?_
  refine lv_istore_n (lv' := [(3, .int 0), (0, .int x0), (1, .int x1), (2, .int x2)]) hx hb dX7_chairOf_1 rfl hl (by decide) rfl (fun ls hl => ?_)
  have hl := lv_sub (l' := [(0, .int x0), (1, .int x1), (2, .int x2), (3, .int 0)]) hl [1, 2, 3, 0] rfl
  obtain ⟨xx7, hL8, h⟩ := pw_bs_e h
  refine lw_X7_chairOf_2 hx hb hml hown hts hA hK x0 x1 x2 pw_FU 0 xx7 hL8 ⟨?_, ?_⟩ _ locs ls hP hD hS hl
  · intro y9 ex H locs ls hP hD hS hl
    subst ex
    have h := pw_sl_e h
    have h := pw_u1_e h
    refine lv_iload_n hx hb dX7_chairOf_22 rfl (lv_at hl 0 rfl) ?_
    rw [hQ]
    exact W.iret (v := y9) hx hb hr (fun t ht hW => ⟨⟨y9, (), rfl, hc.trans h.symm, by rw [ht]; exact hP, va_K.moved hW.alike hK, hD⟩, hS.F ht⟩) hS.2.2 dX7_chairOf_23
  · intro ex H locs ls hP hD hS hl
    subst ex
    have h := pw_sr_e h
    have h := pw_u1_e h
    refine lv_iconst (v := 0) hx hb dX7_chairOf_30 (by decide) ?_
    rw [hQ]
    exact W.iret (v := 0) hx hb hr (fun t ht hW => ⟨⟨0, (), rfl, hc.trans h.symm, by rw [ht]; exact hP, va_K.moved hW.alike hK, hD⟩, hS.F ht⟩) hS.2.2 dX7_chairOf_31
/-! X7_exchanged -/
abbrev rm_X7_exchanged : Room := { frames := 1, cells := 0, slots := 0, locals := 23 }
set_option maxRecDepth 100000 in
set_option maxHeartbeats 4000000 in
theorem c_X7_exchanged (l : Launch) (dC : Nat → ClassId) (dI : Nat → Nat → Nat) (cI cZ : ClassId) (sz : Nat) (x0 : Int32) (x1 : Int32) (x2 : Int32) : Met l yX7_exchanged wsX7_exchanged rm_X7_exchanged (va_Pc [.int x0, .int x1, .int x2] (pw_pre (dC, dI) cI cZ [] sz)) (va_Qi (fun (r : Int32) (u : Unit) => r = f_X7_exchanged x0 x1 x2) (fun u t => pw_post (dC, dI) cI cZ (va_A [] sz) [] t) (va_A [] sz)) 0 0 (va_A [] sz) := by
  refine Met.ofW (cc := cX7_exchanged) (maxL := 5) (ret := (some .int)) (by decide) rfl ?_
  intro p e s m args below meth c s₁ B hml hv
  obtain ⟨rfl, hsz, hP, hK, hD0⟩ := hv
  have hx := B.exec
  have hb := B.bytes
  have hr := B.returns
  have hts := atoms_spec (ws := wsX7_exchanged) B.pre
  have hown : s.vm.findClass RX7 = some m.cls := findClass_of_methodNamed B.named
  have hlocks := B.notSynchronized
  subst hsz
  have hD := hD0.self (sz := s.heap.size)
  generalize hAe : va_A [] s.heap.size = A at hD ⊢
  have hA : ∀ q : Nat, s.heap.size ≤ q → A q := fun q h => by rw [← hAe]; exact Or.inr h
  have hS : va_S A s.heap s.heap [] := va_S.rf
  have hP : va_P (dC, dI) vwCl [] s.heap := hP
  have hl := lv_entry ([.int x0, .int x1, .int x2]) (n := 5) (Nat.le_of_ble_eq_true rfl)
  rw [lg_entry_eq]
  generalize (lg_sl ([.int x0, .int x1, .int x2]) ++ List.replicate (5 - (lg_sl ([.int x0, .int x1, .int x2])).length) Slot.unset).toArray = ls at hl ⊢
  have hl : lv_has ls 5 [(0, .int x0), (1, .int x1), (2, .int x2)] := hl
  refine pw_Wq (R := rm_X7_exchanged) (fun Q hQ => ?_)
  obtain ⟨locs, elocs⟩ : ∃ y : List Loc, y = [] := ⟨_, rfl⟩
  rw [← elocs] at hS ⊢
  obtain ⟨xx, hc⟩ : ∃ y, f_X7_exchanged x0 x1 x2 = y := ⟨_, rfl⟩
  have h := hc
  unfold f_X7_exchanged at h
  refine lv_iload_n hx hb dX7_exchanged_0 rfl (lv_at hl 0 rfl) ?_
  refine lv_iload_n hx hb dX7_exchanged_1 rfl (lv_at hl 1 rfl) ?_
  refine pw_ci (wr := []) (va_runS (As := [.int x0, .int x1]) (rest := []) ⟨hx, hb, hml, hown, hts⟩ (c_X7_personOn l dC dI cI cZ s.heap.size x0 x1) (va_cwS 2 hts gX7_exchanged_X7_personOn rfl rfl rfl (by decide +kernel) ⟨(Nat.le_of_ble_eq_true rfl), (Nat.le_of_ble_eq_true rfl)⟩) (pw_preS hK hP hD [] rfl rfl (by decide)) rfl rfl hl.1 rfl (lv_room (Nat.le_of_ble_eq_true rfl)) dX7_exchanged_2 ⟨(Nat.le_of_ble_eq_true rfl), (Nat.le_of_ble_eq_true rfl)⟩) hP hD hS hA [] [] rfl rfl (by decide) (by decide) (fun r1 u H locs hw hP hD hS => ?_)
  have h := pw_lt_e hw h
  have hP : va_P (dC, dI) vwCl [] H := hP
  have hD : va_D A [] := hD
  refine lv_istore_n (lv' := [(3, .int r1), (0, .int x0), (1, .int x1), (2, .int x2)]) hx hb dX7_exchanged_5 rfl hl (by decide) rfl (fun ls hl => ?_)
  refine lv_iload_n hx hb dX7_exchanged_6 rfl (lv_at hl 1 rfl) ?_
  refine lv_iload_n hx hb dX7_exchanged_7 rfl (lv_at hl 3 rfl) ?_
  refine pw_ci (wr := []) (va_runS (As := [.int x0, .int x2]) (rest := []) ⟨hx, hb, hml, hown, hts⟩ (c_X7_personOn l dC dI cI cZ H.size x0 x2) (va_cwS 2 hts gX7_exchanged_X7_personOn rfl rfl rfl (by decide +kernel) ⟨(Nat.le_of_ble_eq_true rfl), (Nat.le_of_ble_eq_true rfl)⟩) (pw_preS hK hP hD [] rfl rfl (by decide)) rfl rfl hl.1 rfl (lv_room (Nat.le_of_ble_eq_true rfl)) dX7_exchanged_8 ⟨(Nat.le_of_ble_eq_true rfl), (Nat.le_of_ble_eq_true rfl)⟩) hP hD hS hA [] [] rfl rfl (by decide) (by decide) (fun r4 u H locs hw hP hD hS => ?_)
  have h := pw_lt_e hw h
  have hP : va_P (dC, dI) vwCl [] H := hP
  have hD : va_D A [] := hD
  refine lv_istore (lv' := [(4, .int r4), (3, .int r1), (0, .int x0), (1, .int x1), (2, .int x2)]) hx hb dX7_exchanged_11 hl (by decide) rfl (fun ls hl => ?_)
  refine lv_iload_n hx hb dX7_exchanged_13 rfl (lv_at hl 2 rfl) ?_
  refine lv_iload_n hx hb dX7_exchanged_14 rfl (lv_at hl 3 rfl) ?_
  refine lv_iload hx hb dX7_exchanged_15 (lv_at hl 0 rfl) ?_
  refine pw_ci (wr := []) (va_runS (As := [.int x0, .int x1, .int r4]) (rest := []) ⟨hx, hb, hml, hown, hts⟩ (c_X7_with l dC dI cI cZ H.size x0 x1 r4) (va_cwS 3 hts gX7_exchanged_X7_with rfl rfl rfl (by decide +kernel) ⟨(Nat.le_of_ble_eq_true rfl), (Nat.le_of_ble_eq_true rfl)⟩) (pw_preS hK hP hD [] rfl rfl (by decide)) rfl rfl hl.1 rfl (lv_room (Nat.le_of_ble_eq_true rfl)) dX7_exchanged_17 ⟨(Nat.le_of_ble_eq_true rfl), (Nat.le_of_ble_eq_true rfl)⟩) hP hD hS hA [] [] rfl rfl (by decide) (by decide) (fun r7 u H locs hw hP hD hS => ?_)
  have h := pw_lt_e hw h
  have hP : va_P (dC, dI) vwCl [] H := hP
  have hD : va_D A [] := hD
  refine lv_iload_n hx hb dX7_exchanged_20 rfl (lv_at hl 4 rfl) ?_
  refine lv_iload_n hx hb dX7_exchanged_21 rfl (lv_at hl 1 rfl) ?_
  refine pw_ci (wr := []) (va_runS (As := [.int r7, .int x2, .int r1]) (rest := []) ⟨hx, hb, hml, hown, hts⟩ (c_X7_with l dC dI cI cZ H.size r7 x2 r1) (va_cwS 3 hts gX7_exchanged_X7_with rfl rfl rfl (by decide +kernel) ⟨(Nat.le_of_ble_eq_true rfl), (Nat.le_of_ble_eq_true rfl)⟩) (pw_preS hK hP hD [] rfl rfl (by decide)) rfl rfl hl.1 rfl (lv_room (Nat.le_of_ble_eq_true rfl)) dX7_exchanged_22 ⟨(Nat.le_of_ble_eq_true rfl), (Nat.le_of_ble_eq_true rfl)⟩) hP hD hS hA [] [] rfl rfl (by decide) (by decide) (fun r10 u H locs hw hP hD hS => ?_)
  have h := pw_lt_e hw h
  have hP : va_P (dC, dI) vwCl [] H := hP
  have hD : va_D A [] := hD
  rw [hQ]
  exact W.iret (v := r10) hx hb hr (fun t ht hW => ⟨⟨r10, (), rfl, h.trans hc.symm, by rw [ht]; exact hP, va_K.moved hW.alike hK, hD⟩, hS.F ht⟩) hS.2.2 dX7_exchanged_25
/-! X7_elsewhere -/
abbrev rm_X7_elsewhere : Room := { frames := 1, cells := 0, slots := 0, locals := 21 }
set_option maxRecDepth 100000 in
set_option maxHeartbeats 4000000 in
theorem lw_X7_elsewhere_5 {p : Program} {l : Launch} {e : Env} {s : State} {m : MethodId} {args : Array Value} {below : List Frame} {meth : Method} {c : Code} {Q : State → Prop} {dC : Nat → ClassId} {dI : Nat → Nat → Nat} {cI cZ : ClassId} {A : Nat → Prop} (hx : p.tables.exec = Jvm.exec) (hb : c.code = cX7_elsewhere) (hml : c.maxLocals = 5) (hown : s.vm.findClass RX7 = some m.cls) (hts : ∀ w ∈ wsX7_elsewhere, w.before args s = true) (hA : ∀ q : Nat, s.heap.size ≤ q → A q) (hK : va_K (dC, dI) vwCl [(cI, .int), (cZ, .boolean)] s) (l0 : Int32) (l1 : Int32) (l2 : Int32) :
    ∀ (n : Nat) (l3 : Int32) (l4 : Int32) (xx : Int32), lf_X7_elsewhere_5 l0 l1 l2 n l3 l4 = some xx → ((∀ (e_l3 : Int32), e_l3 = xx → ∀ (H : Heap) (locs : List Loc) (ls : Array Slot), va_P (dC, dI) vwCl [] H → va_D A [] → va_S A s.heap H locs → lv_has ls 5 [(3, .int e_l3)] → W p l e rm_X7_elsewhere s m args below meth c H locs 0 0 Q (F0 m 42 ls []))) → ∀ (H : Heap) (locs : List Loc) (ls : Array Slot), va_P (dC, dI) vwCl [] H → va_D A [] → va_S A s.heap H locs → lv_has ls 5 [(0, .int l0), (1, .int l1), (2, .int l2), (3, .int l3), (4, .int l4)] → W p l e rm_X7_elsewhere s m args below meth c H locs 0 0 Q (F0 m 5 ls []) := by
  intro n
  induction n with
  | zero =>
    intro l3 l4 xx h
    rw [lf_X7_elsewhere_5] at h
    cases h
  | succ n ih =>
    intro l3 l4 xx h KK H locs ls hP hD hS hl
    rw [lf_X7_elsewhere_5] at h
    refine lv_iload hx hb dX7_elsewhere_5 (lv_at hl 4 rfl) ?_
    refine lv_iload_n hx hb dX7_elsewhere_7 rfl (lv_at hl 2 rfl) ?_
    refine lv_icmp_ge (tgt := 42) hx hb dX7_elsewhere_8 (by decide) (fun c1 => ?_) (fun c1 => ?_)
    · have h := pw_cd_p c1 h
      have hl := lv_sub (l' := [(3, .int l3)]) hl [3] rfl
      exact KK l3 (Option.some.inj h) _ locs ls hP hD hS hl
    · have h := pw_cd_n c1 h
      refine lv_iload hx hb dX7_elsewhere_11 (lv_at hl 4 rfl) ?_
      refine lv_bipush (v := 7) hx hb dX7_elsewhere_13 (by decide) ?_
      refine lv_icmp_ge (tgt := 42) hx hb dX7_elsewhere_15 (by decide) (fun c2 => ?_) (fun c2 => ?_)
      · have h := pw_cd_p c2 h
        have hl := lv_sub (l' := [(3, .int l3)]) hl [3] rfl
        exact KK l3 (Option.some.inj h) _ locs ls hP hD hS hl
      · have h := pw_cd_n c2 h
        refine lv_iload_n hx hb dX7_elsewhere_18 rfl (lv_at hl 0 rfl) ?_
        refine lv_iload hx hb dX7_elsewhere_19 (lv_at hl 4 rfl) ?_
        refine pw_ci (wr := []) (va_runS (As := [.int l0, .int l4]) (rest := []) ⟨hx, hb, hml, hown, hts⟩ (c_X7_personOn l dC dI cI cZ H.size l0 l4) (va_cwS 2 hts gX7_elsewhere_X7_personOn rfl rfl rfl (by decide +kernel) ⟨(Nat.le_of_ble_eq_true rfl), (Nat.le_of_ble_eq_true rfl)⟩) (pw_preS hK hP hD [] rfl rfl (by decide)) rfl rfl hl.1 rfl (lv_room (Nat.le_of_ble_eq_true rfl)) dX7_elsewhere_21 ⟨(Nat.le_of_ble_eq_true rfl), (Nat.le_of_ble_eq_true rfl)⟩) hP hD hS hA [] [] rfl rfl (by decide) (by decide) (fun r3 u H locs hw hP hD hS => ?_)
        have h := pw_lt_e hw h
        have hP : va_P (dC, dI) vwCl [] H := hP
        have hD : va_D A [] := hD
        refine lv_iload_n hx hb dX7_elsewhere_24 rfl (lv_at hl 1 rfl) ?_
        refine lv_iload hx hb dX7_elsewhere_25 (lv_at hl 4 rfl) ?_
        refine pw_ci (wr := []) (va_runS (As := [.int l1, .int l4]) (rest := [.int r3]) ⟨hx, hb, hml, hown, hts⟩ (c_X7_personOn l dC dI cI cZ H.size l1 l4) (va_cwS 2 hts gX7_elsewhere_X7_personOn rfl rfl rfl (by decide +kernel) ⟨(Nat.le_of_ble_eq_true rfl), (Nat.le_of_ble_eq_true rfl)⟩) (pw_preS hK hP hD [] rfl rfl (by decide)) rfl rfl hl.1 rfl (lv_room (Nat.le_of_ble_eq_true rfl)) dX7_elsewhere_27 ⟨(Nat.le_of_ble_eq_true rfl), (Nat.le_of_ble_eq_true rfl)⟩) hP hD hS hA [] [] rfl rfl (by decide) (by decide) (fun r6 u H locs hw hP hD hS => ?_)
        have h := pw_lt_e hw h
        have hP : va_P (dC, dI) vwCl [] H := hP
        have hD : va_D A [] := hD
        refine lv_icmp_eq (tgt := 36) hx hb dX7_elsewhere_30 (by decide) (fun c9 => ?_) (fun c9 => ?_)
        · have h := pw_cd_p c9 h
          refine lv_iinc (v := (l4 + 1)) (lv' := [(4, .int (l4 + 1)), (0, .int l0), (1, .int l1), (2, .int l2), (3, .int l3)]) hx hb dX7_elsewhere_36 hl (k := 4) rfl rfl (by decide) rfl (fun ls hl => ?_)
          refine lv_goto (tgt := 5) hx hb dX7_elsewhere_39 (by decide) ?_
          have hl := lv_sub (l' := [(0, .int l0), (1, .int l1), (2, .int l2), (3, .int l3), (4, .int (l4 + 1))]) hl [1, 2, 3, 4, 0] rfl
          exact ih l3 (l4 + 1) xx h KK _ locs ls hP hD hS hl
        · have h := pw_cd_n c9 h
          refine lv_iinc (v := (l3 + 1)) (lv' := [(3, .int (l3 + 1)), (0, .int l0), (1, .int l1), (2, .int l2), (4, .int l4)]) hx hb dX7_elsewhere_33 hl (k := 3) rfl rfl (by decide) rfl (fun ls hl => ?_)
          refine lv_iinc (v := (l4 + 1)) (lv' := [(4, .int (l4 + 1)), (3, .int (l3 + 1)), (0, .int l0), (1, .int l1), (2, .int l2)]) hx hb dX7_elsewhere_36 hl (k := 4) rfl rfl (by decide) rfl (fun ls hl => ?_)
          refine lv_goto (tgt := 5) hx hb dX7_elsewhere_39 (by decide) ?_
          have hl := lv_sub (l' := [(0, .int l0), (1, .int l1), (2, .int l2), (3, .int (l3 + 1)), (4, .int (l4 + 1))]) hl [2, 3, 4, 1, 0] rfl
          exact ih (l3 + 1) (l4 + 1) xx h KK _ locs ls hP hD hS hl
set_option maxRecDepth 100000 in
set_option maxHeartbeats 4000000 in
theorem c_X7_elsewhere (l : Launch) (dC : Nat → ClassId) (dI : Nat → Nat → Nat) (cI cZ : ClassId) (sz : Nat) (x0 : Int32) (x1 : Int32) (x2 : Int32) (xx : Int32) (hc : f_X7_elsewhere x0 x1 x2 = some xx) : Met l yX7_elsewhere wsX7_elsewhere rm_X7_elsewhere (va_Pc [.int x0, .int x1, .int x2] (pw_pre (dC, dI) cI cZ [] sz)) (va_Qi (fun (r : Int32) (u : Unit) => f_X7_elsewhere x0 x1 x2 = some r) (fun u t => pw_post (dC, dI) cI cZ (va_A [] sz) [] t) (va_A [] sz)) 0 0 (va_A [] sz) := by
  refine Met.ofW (cc := cX7_elsewhere) (maxL := 5) (ret := (some .int)) (by decide) rfl ?_
  intro p e s m args below meth c s₁ B hml hv
  obtain ⟨rfl, hsz, hP, hK, hD0⟩ := hv
  have hx := B.exec
  have hb := B.bytes
  have hr := B.returns
  have hts := atoms_spec (ws := wsX7_elsewhere) B.pre
  have hown : s.vm.findClass RX7 = some m.cls := findClass_of_methodNamed B.named
  have hlocks := B.notSynchronized
  subst hsz
  have hD := hD0.self (sz := s.heap.size)
  generalize hAe : va_A [] s.heap.size = A at hD ⊢
  have hA : ∀ q : Nat, s.heap.size ≤ q → A q := fun q h => by rw [← hAe]; exact Or.inr h
  have hS : va_S A s.heap s.heap [] := va_S.rf
  have hP : va_P (dC, dI) vwCl [] s.heap := hP
  have hl := lv_entry ([.int x0, .int x1, .int x2]) (n := 5) (Nat.le_of_ble_eq_true rfl)
  rw [lg_entry_eq]
  generalize (lg_sl ([.int x0, .int x1, .int x2]) ++ List.replicate (5 - (lg_sl ([.int x0, .int x1, .int x2])).length) Slot.unset).toArray = ls at hl ⊢
  have hl : lv_has ls 5 [(0, .int x0), (1, .int x1), (2, .int x2)] := hl
  refine pw_Wq (R := rm_X7_elsewhere) (fun Q hQ => ?_)
  obtain ⟨locs, elocs⟩ : ∃ y : List Loc, y = [] := ⟨_, rfl⟩
  rw [← elocs] at hS ⊢
  have h := hc
  unfold f_X7_elsewhere at h
  refine lv_iconst (v := 0) hx hb dX7_elsewhere_0 (by decide) ?_
  refine lv_istore_n (lv' := [(3, .int 0), (0, .int x0), (1, .int x1), (2, .int x2)]) hx hb dX7_elsewhere_1 rfl hl (by decide) rfl (fun ls hl => ?_)
  refine lv_iconst (v := 0) hx hb dX7_elsewhere_2 (by decide) ?_
  refine lv_istore (lv' := [(4, .int 0), (3, .int 0), (0, .int x0), (1, .int x1), (2, .int x2)]) hx hb dX7_elsewhere_3 hl (by decide) rfl (fun ls hl => ?_)
  have hl := lv_sub (l' := [(0, .int x0), (1, .int x1), (2, .int x2), (3, .int 0), (4, .int 0)]) hl [2, 3, 4, 1, 0] rfl
  obtain ⟨xx10, hL11, h⟩ := pw_bd_e h
  refine lw_X7_elsewhere_5 hx hb hml hown hts hA hK x0 x1 x2 pw_FU 0 0 xx10 hL11 ?_ _ locs ls hP hD hS hl
  intro y12 ex H locs ls hP hD hS hl
  subst ex
  have h := pw_u1_e h
  refine lv_iload_n hx hb dX7_elsewhere_42 rfl (lv_at hl 0 rfl) ?_
  rw [hQ]
  exact W.iret (v := y12) hx hb hr (fun t ht hW => ⟨⟨y12, (), rfl, hc.trans h.symm, by rw [ht]; exact hP, va_K.moved hW.alike hK, hD⟩, hS.F ht⟩) hS.2.2 dX7_elsewhere_43
