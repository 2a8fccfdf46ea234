/-! X2_forget -/
theorem li_X2_forget_X2 : ∀ w ∈ u_ws RX2 TX2 3, w ∈ wsX2_forget := fun w h => List.mem_cons_of_mem _ (List.mem_append_right _ h)
theorem lk_X2_forget_15 : Cond.fieldLink RX2 15 "NoWifeBeside$Lawful" "listed" "Z" ∈ wsX2_forget := by decide +kernel
theorem lk_X2_forget_19 : Cond.fieldLink RX2 19 "NoWifeBeside$Lawful" "size" "I" ∈ wsX2_forget := by decide +kernel
abbrev rm_X2_forget : Room := { frames := 0, cells := 0, slots := 0, locals := 0 }
set_option maxRecDepth 100000 in
set_option maxHeartbeats 4000000 in
theorem c_X2_forget (l : Launch) (dC : Nat → ClassId) (dI : Nat → Nat → Nat) (cI cZ : ClassId) (sz : Nat) (a_p0 : Nat) (a_p0_seatings : Nat) (p0_listed : Int32) (p0_size : Int32) (xx : Int32 × Int32) (hc : f_X2_forget = some xx) : Met l yX2_forget wsX2_forget rm_X2_forget (va_Pc [.ref a_p0] (pw_pre (dC, dI) cI cZ [(a_p0, .inr (2, [.ref a_p0_seatings, .int p0_listed, .int p0_size]))] sz)) (va_Qv (fun (u : Int32 × Int32) => f_X2_forget = some (u.1, u.2)) (fun u t => pw_post (dC, dI) cI cZ (va_A [(a_p0, .inr (2, [.ref a_p0_seatings, .int p0_listed, .int p0_size]))] sz) [(a_p0, .inr (2, [.ref a_p0_seatings, .int u.1, .int u.2]))] t) (va_A [(a_p0, .inr (2, [.ref a_p0_seatings, .int p0_listed, .int p0_size]))] sz)) 0 0 (va_A [(a_p0, .inr (2, [.ref a_p0_seatings, .int p0_listed, .int p0_size]))] sz) := by
  refine Met.ofW (cc := cX2_forget) (maxL := 1) (ret := none) (by decide) rfl ?_
  intro p e s m args below meth c s₁ B hml hv
  obtain ⟨rfl, hsz, hP, hK, hD0⟩ := hv
  have hx := B.exec
  have hb := B.bytes
  have hr := B.returns
  have hts := atoms_spec (ws := wsX2_forget) B.pre
  have hown : s.vm.findClass RX2 = some m.cls := findClass_of_methodNamed B.named
  have hlocks := B.notSynchronized
  subst hsz
  have hD := hD0.self (sz := s.heap.size)
  generalize hAe : va_A [(a_p0, .inr (2, [.ref a_p0_seatings, .int p0_listed, .int p0_size]))] s.heap.size = A at hD ⊢
  have hA : ∀ q : Nat, s.heap.size ≤ q → A q := fun q h => by rw [← hAe]; exact Or.inr h
  have hS : va_S A s.heap s.heap [] := va_S.rf
  have hP : va_P (dC, dI) vwCl [(a_p0, .inr (2, [.ref a_p0_seatings, .int p0_listed, .int p0_size]))] s.heap := hP
  have hl := lv_entry ([.ref a_p0]) (n := 1) (Nat.le_of_ble_eq_true rfl)
  rw [lg_entry_eq]
  generalize (lg_sl ([.ref a_p0]) ++ List.replicate (1 - (lg_sl ([.ref a_p0])).length) Slot.unset).toArray = ls at hl ⊢
  have hl : lv_has ls 1 [(0, .ref a_p0)] := hl
  refine pw_Wq (R := rm_X2_forget) (fun Q hQ => ?_)
  obtain ⟨locs, elocs⟩ : ∃ y : List Loc, y = [] := ⟨_, rfl⟩
  rw [← elocs] at hS ⊢
  have h := hc
  unfold f_X2_forget at h
  refine lv_aload_n hx hb dX2_forget_0 rfl (lv_at hl 0 rfl) ?_
  refine lv_iconst (v := 0) hx hb dX2_forget_1 (by decide) ?_
  refine va_put (D := (dC, dI)) (ci := 2) (v := .int 0) (ty := .boolean) (C := RX2) (T := TX2) (N := 3) hx hb hts li_X2_forget_X2 tyX2 tyX2_ok nmX2 hown hK hP hD hS 0 rfl rfl 1 (by decide) (hts _ lk_X2_forget_15) (fun _ h9 => h9) rfl (by decide +kernel) rfl rfl (Nat.le_of_ble_eq_true rfl) dX2_forget_2 (fun H locs hP hD hS => ?_)
  have hP : va_P (dC, dI) vwCl [(a_p0, .inr (2, [.ref a_p0_seatings, .int 0, .int p0_size]))] H := hP
  have hD : va_D A [(a_p0, .inr (2, [.ref a_p0_seatings, .int 0, .int p0_size]))] := hD
  refine lv_aload_n hx hb dX2_forget_5 rfl (lv_at hl 0 rfl) ?_
  refine lv_iconst (v := 0) hx hb dX2_forget_6 (by decide) ?_
  refine va_put (D := (dC, dI)) (ci := 2) (v := .int 0) (ty := .int) (C := RX2) (T := TX2) (N := 3) hx hb hts li_X2_forget_X2 tyX2 tyX2_ok nmX2 hown hK hP hD hS 0 rfl rfl 2 (by decide) (hts _ lk_X2_forget_19) (fun _ h9 => h9) rfl (by decide +kernel) rfl rfl (Nat.le_of_ble_eq_true rfl) dX2_forget_7 (fun H locs hP hD hS => ?_)
  have hP : va_P (dC, dI) vwCl [(a_p0, .inr (2, [.ref a_p0_seatings, .int 0, .int 0]))] H := hP
  have hD : va_D A [(a_p0, .inr (2, [.ref a_p0_seatings, .int 0, .int 0]))] := hD
  rw [hQ]
  exact W.vret hx hb hr (fun t ht hW => ⟨⟨(0, 0), rfl, hc.trans h.symm, by rw [ht]; exact hP, va_K.moved hW.alike hK, hD⟩, hS.F ht⟩) hS.2.2 dX2_forget_10
/-! X2_add -/
theorem li_X2_add_X2 : ∀ w ∈ u_ws RX2 TX2 3, w ∈ wsX2_add := fun w h => List.mem_cons_of_mem _ (List.mem_append_right _ h)
theorem lk_X2_add_19 : Cond.fieldLink RX2 19 "NoWifeBeside$Lawful" "size" "I" ∈ wsX2_add := by decide +kernel
theorem lk_X2_add_9 : Cond.fieldLink RX2 9 "NoWifeBeside$Lawful" "seatings" "[I" ∈ wsX2_add := by decide +kernel
abbrev rm_X2_add : Room := { frames := 0, cells := 0, slots := 0, locals := 0 }
set_option maxRecDepth 100000 in
set_option maxHeartbeats 4000000 in
theorem c_X2_add (l : Launch) (dC : Nat → ClassId) (dI : Nat → Nat → Nat) (cI cZ : ClassId) (sz : Nat) (a_p0 : Nat) (a_p0_seatings : Nat) (p0_listed : Int32) (p0_size : Int32) (p0_seatings_v : Nat → Int32) (p0_seatings_n : Nat) (x1 : Int32) (xx : Int32 × (Nat → Int32)) (hc : f_X2_add x1 p0_size p0_seatings_v p0_seatings_n = some xx) : Met l yX2_add wsX2_add rm_X2_add (va_Pc [.ref a_p0, .int x1] (pw_pre (dC, dI) cI cZ [(a_p0, .inr (2, [.ref a_p0_seatings, .int p0_listed, .int p0_size])), (a_p0_seatings, .inl (cI, p0_seatings_n, .inl p0_seatings_v))] sz)) (va_Qv (fun (u : Int32 × (Nat → Int32)) => f_X2_add x1 p0_size p0_seatings_v p0_seatings_n = some (u.1, u.2)) (fun u t => pw_post (dC, dI) cI cZ (va_A [(a_p0, .inr (2, [.ref a_p0_seatings, .int p0_listed, .int p0_size])), (a_p0_seatings, .inl (cI, p0_seatings_n, .inl p0_seatings_v))] sz) [(a_p0, .inr (2, [.ref a_p0_seatings, .int p0_listed, .int u.1])), (a_p0_seatings, .inl (cI, p0_seatings_n, .inl u.2))] t) (va_A [(a_p0, .inr (2, [.ref a_p0_seatings, .int p0_listed, .int p0_size])), (a_p0_seatings, .inl (cI, p0_seatings_n, .inl p0_seatings_v))] sz)) 0 0 (va_A [(a_p0, .inr (2, [.ref a_p0_seatings, .int p0_listed, .int p0_size])), (a_p0_seatings, .inl (cI, p0_seatings_n, .inl p0_seatings_v))] sz) := by
  refine Met.ofW (cc := cX2_add) (maxL := 2) (ret := none) (by decide) rfl ?_
  intro p e s m args below meth c s₁ B hml hv
  obtain ⟨rfl, hsz, hP, hK, hD0⟩ := hv
  have hx := B.exec
  have hb := B.bytes
  have hr := B.returns
  have hts := atoms_spec (ws := wsX2_add) B.pre
  have hown : s.vm.findClass RX2 = some m.cls := findClass_of_methodNamed B.named
  have hlocks := B.notSynchronized
  subst hsz
  have hD := hD0.self (sz := s.heap.size)
  generalize hAe : va_A [(a_p0, .inr (2, [.ref a_p0_seatings, .int p0_listed, .int p0_size])), (a_p0_seatings, .inl (cI, p0_seatings_n, .inl p0_seatings_v))] s.heap.size = A at hD ⊢
  have hA : ∀ q : Nat, s.heap.size ≤ q → A q := fun q h => by rw [← hAe]; exact Or.inr h
  have hS : va_S A s.heap s.heap [] := va_S.rf
  have hP : va_P (dC, dI) vwCl [(a_p0, .inr (2, [.ref a_p0_seatings, .int p0_listed, .int p0_size])), (a_p0_seatings, .inl (cI, p0_seatings_n, .inl p0_seatings_v))] s.heap := hP
  have hl := lv_entry ([.ref a_p0, .int x1]) (n := 2) (Nat.le_of_ble_eq_true rfl)
  rw [lg_entry_eq]
  generalize (lg_sl ([.ref a_p0, .int x1]) ++ List.replicate (2 - (lg_sl ([.ref a_p0, .int x1])).length) Slot.unset).toArray = ls at hl ⊢
  have hl : lv_has ls 2 [(0, .ref a_p0), (1, .int x1)] := hl
  refine pw_Wq (R := rm_X2_add) (fun Q hQ => ?_)
  obtain ⟨locs, elocs⟩ : ∃ y : List Loc, y = [] := ⟨_, rfl⟩
  rw [← elocs] at hS ⊢
  have h := hc
  unfold f_X2_add at h
  refine lv_aload_n hx hb dX2_add_0 rfl (lv_at hl 0 rfl) ?_
  refine va_get (D := (dC, dI)) (ci := 2) (v := .int p0_size) (C := RX2) (T := TX2) (N := 3) hx hb hts li_X2_add_X2 hown hK hP 0 rfl rfl 2 (by decide) (hts _ lk_X2_add_19) (fun _ h9 => h9) rfl dX2_add_1 ?_
  refine lv_if_lt (tgt := 39) hx hb dX2_add_4 (by decide) (fun c1 => ?_) (fun c1 => ?_)
  · have h := pw_cd_p c1 h
    rw [hQ]
    exact W.vret hx hb hr (fun t ht hW => ⟨⟨(p0_size, p0_seatings_v), rfl, hc.trans h.symm, by rw [ht]; exact hP, va_K.moved hW.alike hK, hD⟩, hS.F ht⟩) hS.2.2 dX2_add_39
  · have h := pw_cd_n c1 h
    refine lv_aload_n hx hb dX2_add_7 rfl (lv_at hl 0 rfl) ?_
    refine va_get (D := (dC, dI)) (ci := 2) (v := .int p0_size) (C := RX2) (T := TX2) (N := 3) hx hb hts li_X2_add_X2 hown hK hP 0 rfl rfl 2 (by decide) (hts _ lk_X2_add_19) (fun _ h9 => h9) rfl dX2_add_8 ?_
    refine lv_aload_n hx hb dX2_add_11 rfl (lv_at hl 0 rfl) ?_
    refine va_get (D := (dC, dI)) (ci := 2) (v := .ref a_p0_seatings) (C := RX2) (T := TX2) (N := 3) hx hb hts li_X2_add_X2 hown hK hP 0 rfl rfl 0 (by decide) (hts _ lk_X2_add_9) (fun _ h9 => h9) rfl dX2_add_12 ?_
    refine va_alen hx hb hK hP 1 0 rfl rfl (v := (nI p0_seatings_n)) rfl dX2_add_15 ?_
    refine lv_topi (fun v2 ev2 => ?_)
    have h := pw_lt_e ev2 h
    refine lv_icmp_ge (tgt := 39) hx hb dX2_add_16 (by decide) (fun c3 => ?_) (fun c3 => ?_)
    · have h := pw_cd_p c3 h
      rw [hQ]
      exact W.vret hx hb hr (fun t ht hW => ⟨⟨(p0_size, p0_seatings_v), rfl, hc.trans h.symm, by rw [ht]; exact hP, va_K.moved hW.alike hK, hD⟩, hS.F ht⟩) hS.2.2 dX2_add_39
    · have h := pw_cd_n c3 h
      refine lv_aload_n hx hb dX2_add_19 rfl (lv_at hl 0 rfl) ?_
      refine va_get (D := (dC, dI)) (ci := 2) (v := .ref a_p0_seatings) (C := RX2) (T := TX2) (N := 3) hx hb hts li_X2_add_X2 hown hK hP 0 rfl rfl 0 (by decide) (hts _ lk_X2_add_9) (fun _ h9 => h9) rfl dX2_add_20 ?_
      refine lv_aload_n hx hb dX2_add_23 rfl (lv_at hl 0 rfl) ?_
      refine va_get (D := (dC, dI)) (ci := 2) (v := .int p0_size) (C := RX2) (T := TX2) (N := 3) hx hb hts li_X2_add_X2 hown hK hP 0 rfl rfl 2 (by decide) (hts _ lk_X2_add_19) (fun _ h9 => h9) rfl dX2_add_24 ?_
      refine lv_iload_n hx hb dX2_add_27 rfl (lv_at hl 1 rfl) ?_
      obtain ⟨g4, h⟩ := pw_gd_e h
      refine va_iast hx hb hK hP hD hS 1 0 rfl rfl g4 dX2_add_28 (fun H locs hP hD hS => ?_)
      obtain ⟨f5, ef5⟩ : ∃ y : Nat → Int32, y = (upd p0_seatings_v (Int32.toNatClampNeg p0_size) x1) := ⟨_, rfl⟩
      have h := pw_lt_e ef5 h
      rw [← ef5] at hP hD
      have hP : va_P (dC, dI) vwCl [(a_p0, .inr (2, [.ref a_p0_seatings, .int p0_listed, .int p0_size])), (a_p0_seatings, .inl (cI, p0_seatings_n, .inl f5))] H := hP
      have hD : va_D A [(a_p0, .inr (2, [.ref a_p0_seatings, .int p0_listed, .int p0_size])), (a_p0_seatings, .inl (cI, p0_seatings_n, .inl f5))] := hD
      refine lv_aload_n hx hb dX2_add_29 rfl (lv_at hl 0 rfl) ?_
      refine lv_dup hx hb dX2_add_30 rfl ?_
      refine va_get (D := (dC, dI)) (ci := 2) (v := .int p0_size) (C := RX2) (T := TX2) (N := 3) hx hb hts li_X2_add_X2 hown hK hP 0 rfl rfl 2 (by decide) (hts _ lk_X2_add_19) (fun _ h9 => h9) rfl dX2_add_31 ?_
      refine lv_iconst (v := 1) hx hb dX2_add_34 (by decide) ?_
      refine lv_iadd hx hb dX2_add_35 ?_
      refine lv_topi (fun v6 ev6 => ?_)
      have h := pw_lt_e ev6 h
      refine va_put (D := (dC, dI)) (ci := 2) (v := .int v6) (ty := .int) (C := RX2) (T := TX2) (N := 3) hx hb hts li_X2_add_X2 tyX2 tyX2_ok nmX2 hown hK hP hD hS 0 rfl rfl 2 (by decide) (hts _ lk_X2_add_19) (fun _ h9 => h9) rfl (by decide +kernel) rfl rfl (Nat.le_of_ble_eq_true rfl) dX2_add_36 (fun H locs hP hD hS => ?_)
      have hP : va_P (dC, dI) vwCl [(a_p0, .inr (2, [.ref a_p0_seatings, .int p0_listed, .int v6])), (a_p0_seatings, .inl (cI, p0_seatings_n, .inl f5))] H := hP
      have hD : va_D A [(a_p0, .inr (2, [.ref a_p0_seatings, .int p0_listed, .int v6])), (a_p0_seatings, .inl (cI, p0_seatings_n, .inl f5))] := hD
      rw [hQ]
      exact W.vret hx hb hr (fun t ht hW => ⟨⟨(v6, f5), rfl, hc.trans h.symm, by rw [ht]; exact hP, va_K.moved hW.alike hK, hD⟩, hS.F ht⟩) hS.2.2 dX2_add_39
/-! X2_hasRank -/
theorem li_X2_hasRank_X2 : ∀ w ∈ u_ws RX2 TX2 3, w ∈ wsX2_hasRank := fun w h => List.mem_cons_of_mem _ (List.mem_append_right _ h)
theorem lk_X2_hasRank_19 : Cond.fieldLink RX2 19 "NoWifeBeside$Lawful" "size" "I" ∈ wsX2_hasRank := by decide +kernel
abbrev rm_X2_hasRank : Room := { frames := 0, cells := 0, slots := 0, locals := 0 }
set_option maxRecDepth 100000 in
set_option maxHeartbeats 4000000 in
theorem c_X2_hasRank (l : Launch) (dC : Nat → ClassId) (dI : Nat → Nat → Nat) (cI cZ : ClassId) (sz : Nat) (a_p0 : Nat) (a_p0_seatings : Nat) (p0_listed : Int32) (p0_size : Int32) (x1 : Int32) : Met l yX2_hasRank wsX2_hasRank rm_X2_hasRank (va_Pc [.ref a_p0, .int x1] (pw_pre (dC, dI) cI cZ [(a_p0, .inr (2, [.ref a_p0_seatings, .int p0_listed, .int p0_size]))] sz)) (va_Qi (fun (r : Int32) (u : Unit) => r = f_X2_hasRank x1 p0_size) (fun u t => pw_post (dC, dI) cI cZ (va_A [(a_p0, .inr (2, [.ref a_p0_seatings, .int p0_listed, .int p0_size]))] sz) [(a_p0, .inr (2, [.ref a_p0_seatings, .int p0_listed, .int p0_size]))] t) (va_A [(a_p0, .inr (2, [.ref a_p0_seatings, .int p0_listed, .int p0_size]))] sz)) 0 0 (va_A [(a_p0, .inr (2, [.ref a_p0_seatings, .int p0_listed, .int p0_size]))] sz) := by
  refine Met.ofW (cc := cX2_hasRank) (maxL := 2) (ret := (some .boolean)) (by decide) rfl ?_
  intro p e s m args below meth c s₁ B hml hv
  obtain ⟨rfl, hsz, hP, hK, hD0⟩ := hv
  have hx := B.exec
  have hb := B.bytes
  have hr := B.returns
  have hts := atoms_spec (ws := wsX2_hasRank) B.pre
  have hown : s.vm.findClass RX2 = some m.cls := findClass_of_methodNamed B.named
  have hlocks := B.notSynchronized
  subst hsz
  have hD := hD0.self (sz := s.heap.size)
  generalize hAe : va_A [(a_p0, .inr (2, [.ref a_p0_seatings, .int p0_listed, .int p0_size]))] s.heap.size = A at hD ⊢
  have hA : ∀ q : Nat, s.heap.size ≤ q → A q := fun q h => by rw [← hAe]; exact Or.inr h
  have hS : va_S A s.heap s.heap [] := va_S.rf
  have hP : va_P (dC, dI) vwCl [(a_p0, .inr (2, [.ref a_p0_seatings, .int p0_listed, .int p0_size]))] s.heap := hP
  have hl := lv_entry ([.ref a_p0, .int x1]) (n := 2) (Nat.le_of_ble_eq_true rfl)
  rw [lg_entry_eq]
  generalize (lg_sl ([.ref a_p0, .int x1]) ++ List.replicate (2 - (lg_sl ([.ref a_p0, .int x1])).length) Slot.unset).toArray = ls at hl ⊢
  have hl : lv_has ls 2 [(0, .ref a_p0), (1, .int x1)] := hl
  refine pw_Wq (R := rm_X2_hasRank) (fun Q hQ => ?_)
  obtain ⟨locs, elocs⟩ : ∃ y : List Loc, y = [] := ⟨_, rfl⟩
  rw [← elocs] at hS ⊢
  obtain ⟨xx, hc⟩ : ∃ y, f_X2_hasRank x1 p0_size = y := ⟨_, rfl⟩
  have h := hc
  unfold f_X2_hasRank at h
  refine lv_iload_n hx hb dX2_hasRank_0 rfl (lv_at hl 1 rfl) ?_
  refine lv_if_lt (tgt := 16) hx hb dX2_hasRank_1 (by decide) (fun c1 => ?_) (fun c1 => ?_)
  · have h := pw_cd_p c1 h
    refine lv_iconst (v := 0) hx hb dX2_hasRank_16 (by decide) ?_
    rw [hQ]
    exact W.zret (v := 0) hx hb hr rfl (fun t ht hW => ⟨⟨0, (), rfl, h.trans hc.symm, by rw [ht]; exact hP, va_K.moved hW.alike hK, hD⟩, hS.F ht⟩) hS.2.2 dX2_hasRank_17
  · have h := pw_cd_n c1 h
    refine lv_iload_n hx hb dX2_hasRank_4 rfl (lv_at hl 1 rfl) ?_
    refine lv_aload_n hx hb dX2_hasRank_5 rfl (lv_at hl 0 rfl) ?_
    refine va_get (D := (dC, dI)) (ci := 2) (v := .int p0_size) (C := RX2) (T := TX2) (N := 3) hx hb hts li_X2_hasRank_X2 hown hK hP 0 rfl rfl 2 (by decide) (hts _ lk_X2_hasRank_19) (fun _ h9 => h9) rfl dX2_hasRank_6 ?_
    refine lv_icmp_ge (tgt := 16) hx hb dX2_hasRank_9 (by decide) (fun c2 => ?_) (fun c2 => ?_)
    · have h := pw_cd_p c2 h
      refine lv_iconst (v := 0) hx hb dX2_hasRank_16 (by decide) ?_
      rw [hQ]
      exact W.zret (v := 0) hx hb hr rfl (fun t ht hW => ⟨⟨0, (), rfl, h.trans hc.symm, by rw [ht]; exact hP, va_K.moved hW.alike hK, hD⟩, hS.F ht⟩) hS.2.2 dX2_hasRank_17
    · have h := pw_cd_n c2 h
      refine lv_iconst (v := 1) hx hb dX2_hasRank_12 (by decide) ?_
      refine lv_goto (tgt := 17) hx hb dX2_hasRank_13 (by decide) ?_
      rw [hQ]
      exact W.zret (v := 1) hx hb hr rfl (fun t ht hW => ⟨⟨1, (), rfl, h.trans hc.symm, by rw [ht]; exact hP, va_K.moved hW.alike hK, hD⟩, hS.F ht⟩) hS.2.2 dX2_hasRank_17
/-! X2_seatingOf -/
theorem li_X2_seatingOf_X2 : ∀ w ∈ u_ws RX2 TX2 3, w ∈ wsX2_seatingOf := fun w h => List.mem_cons_of_mem _ (List.mem_append_right _ h)
theorem lk_X2_seatingOf_9 : Cond.fieldLink RX2 9 "NoWifeBeside$Lawful" "seatings" "[I" ∈ wsX2_seatingOf := by decide +kernel
abbrev rm_X2_seatingOf : Room := { frames := 0, cells := 0, slots := 0, locals := 0 }
set_option maxRecDepth 100000 in
set_option maxHeartbeats 4000000 in
theorem c_X2_seatingOf (l : Launch) (dC : Nat → ClassId) (dI : Nat → Nat → Nat) (cI cZ : ClassId) (sz : Nat) (a_p0 : Nat) (a_p0_seatings : Nat) (p0_listed : Int32) (p0_size : Int32) (p0_seatings_v : Nat → Int32) (p0_seatings_n : Nat) (x1 : Int32) (xx : Int32) (hc : f_X2_seatingOf x1 p0_seatings_v p0_seatings_n = some xx) : Met l yX2_seatingOf wsX2_seatingOf rm_X2_seatingOf (va_Pc [.ref a_p0, .int x1] (pw_pre (dC, dI) cI cZ [(a_p0, .inr (2, [.ref a_p0_seatings, .int p0_listed, .int p0_size])), (a_p0_seatings, .inl (cI, p0_seatings_n, .inl p0_seatings_v))] sz)) (va_Qi (fun (r : Int32) (u : Unit) => f_X2_seatingOf x1 p0_seatings_v p0_seatings_n = some r) (fun u t => pw_post (dC, dI) cI cZ (va_A [(a_p0, .inr (2, [.ref a_p0_seatings, .int p0_listed, .int p0_size])), (a_p0_seatings, .inl (cI, p0_seatings_n, .inl p0_seatings_v))] sz) [(a_p0, .inr (2, [.ref a_p0_seatings, .int p0_listed, .int p0_size])), (a_p0_seatings, .inl (cI, p0_seatings_n, .inl p0_seatings_v))] t) (va_A [(a_p0, .inr (2, [.ref a_p0_seatings, .int p0_listed, .int p0_size])), (a_p0_seatings, .inl (cI, p0_seatings_n, .inl p0_seatings_v))] sz)) 0 0 (va_A [(a_p0, .inr (2, [.ref a_p0_seatings, .int p0_listed, .int p0_size])), (a_p0_seatings, .inl (cI, p0_seatings_n, .inl p0_seatings_v))] sz) := by
  refine Met.ofW (cc := cX2_seatingOf) (maxL := 2) (ret := (some .int)) (by decide) rfl ?_
  intro p e s m args below meth c s₁ B hml hv
  obtain ⟨rfl, hsz, hP, hK, hD0⟩ := hv
  have hx := B.exec
  have hb := B.bytes
  have hr := B.returns
  have hts := atoms_spec (ws := wsX2_seatingOf) B.pre
  have hown : s.vm.findClass RX2 = some m.cls := findClass_of_methodNamed B.named
  have hlocks := B.notSynchronized
  subst hsz
  have hD := hD0.self (sz := s.heap.size)
  generalize hAe : va_A [(a_p0, .inr (2, [.ref a_p0_seatings, .int p0_listed, .int p0_size])), (a_p0_seatings, .inl (cI, p0_seatings_n, .inl p0_seatings_v))] s.heap.size = A at hD ⊢
  have hA : ∀ q : Nat, s.heap.size ≤ q → A q := fun q h => by rw [← hAe]; exact Or.inr h
  have hS : va_S A s.heap s.heap [] := va_S.rf
  have hP : va_P (dC, dI) vwCl [(a_p0, .inr (2, [.ref a_p0_seatings, .int p0_listed, .int p0_size])), (a_p0_seatings, .inl (cI, p0_seatings_n, .inl p0_seatings_v))] s.heap := hP
  have hl := lv_entry ([.ref a_p0, .int x1]) (n := 2) (Nat.le_of_ble_eq_true rfl)
  rw [lg_entry_eq]
  generalize (lg_sl ([.ref a_p0, .int x1]) ++ List.replicate (2 - (lg_sl ([.ref a_p0, .int x1])).length) Slot.unset).toArray = ls at hl ⊢
  have hl : lv_has ls 2 [(0, .ref a_p0), (1, .int x1)] := hl
  refine pw_Wq (R := rm_X2_seatingOf) (fun Q hQ => ?_)
  obtain ⟨locs, elocs⟩ : ∃ y : List Loc, y = [] := ⟨_, rfl⟩
  rw [← elocs] at hS ⊢
  have h := hc
  unfold f_X2_seatingOf at h
  refine lv_iload_n hx hb dX2_seatingOf_0 rfl (lv_at hl 1 rfl) ?_
  refine lv_if_lt (tgt := 22) hx hb dX2_seatingOf_1 (by decide) (fun c1 => ?_) (fun c1 => ?_)
  · have h := pw_cd_p c1 h
    refine lv_iconst (v := 0) hx hb dX2_seatingOf_22 (by decide) ?_
    rw [hQ]
    exact W.iret (v := 0) hx hb hr (fun t ht hW => ⟨⟨0, (), rfl, hc.trans h.symm, by rw [ht]; exact hP, va_K.moved hW.alike hK, hD⟩, hS.F ht⟩) hS.2.2 dX2_seatingOf_23
  · have h := pw_cd_n c1 h
    refine lv_iload_n hx hb dX2_seatingOf_4 rfl (lv_at hl 1 rfl) ?_
    refine lv_aload_n hx hb dX2_seatingOf_5 rfl (lv_at hl 0 rfl) ?_
    refine va_get (D := (dC, dI)) (ci := 2) (v := .ref a_p0_seatings) (C := RX2) (T := TX2) (N := 3) hx hb hts li_X2_seatingOf_X2 hown hK hP 0 rfl rfl 0 (by decide) (hts _ lk_X2_seatingOf_9) (fun _ h9 => h9) rfl dX2_seatingOf_6 ?_
    refine va_alen hx hb hK hP 1 0 rfl rfl (v := (nI p0_seatings_n)) rfl dX2_seatingOf_9 ?_
    refine lv_topi (fun v2 ev2 => ?_)
    have h := pw_lt_e ev2 h
    refine lv_icmp_ge (tgt := 22) hx hb dX2_seatingOf_10 (by decide) (fun c3 => ?_) (fun c3 => ?_)
    · have h := pw_cd_p c3 h
      refine lv_iconst (v := 0) hx hb dX2_seatingOf_22 (by decide) ?_
      rw [hQ]
      exact W.iret (v := 0) hx hb hr (fun t ht hW => ⟨⟨0, (), rfl, hc.trans h.symm, by rw [ht]; exact hP, va_K.moved hW.alike hK, hD⟩, hS.F ht⟩) hS.2.2 dX2_seatingOf_23
    · have h := pw_cd_n c3 h
      refine lv_aload_n hx hb dX2_seatingOf_13 rfl (lv_at hl 0 rfl) ?_
      refine va_get (D := (dC, dI)) (ci := 2) (v := .ref a_p0_seatings) (C := RX2) (T := TX2) (N := 3) hx hb hts li_X2_seatingOf_X2 hown hK hP 0 rfl rfl 0 (by decide) (hts _ lk_X2_seatingOf_9) (fun _ h9 => h9) rfl dX2_seatingOf_14 ?_
      refine lv_iload_n hx hb dX2_seatingOf_17 rfl (lv_at hl 1 rfl) ?_
      obtain ⟨g4, h⟩ := pw_gd_e h
      refine va_iald hx hb hK hP 1 0 rfl rfl g4 dX2_seatingOf_18 ?_
      refine lv_goto (tgt := 23) hx hb dX2_seatingOf_19 (by decide) ?_
      rw [hQ]
      exact W.iret (v := (p0_seatings_v (Int32.toNatClampNeg x1))) hx hb hr (fun t ht hW => ⟨⟨(p0_seatings_v (Int32.toNatClampNeg x1)), (), rfl, hc.trans h.symm, by rw [ht]; exact hP, va_K.moved hW.alike hK, hD⟩, hS.F ht⟩) hS.2.2 dX2_seatingOf_23
/-! X2_personBy -/
abbrev rm_X2_personBy : Room := { frames := 1, cells := 0, slots := 0, locals := 21 }
set_option maxRecDepth 100000 in
set_option maxHeartbeats 4000000 in
theorem c_X2_personBy (l : Launch) (dC : Nat → ClassId) (dI : Nat → Nat → Nat) (cI cZ : ClassId) (sz : Nat) (a_p0 : Nat) (a_p0_seatings : Nat) (p0_listed : Int32) (p0_size : Int32) (p0_seatings_v : Nat → Int32) (p0_seatings_n : Nat) (x1 : Int32) (x2 : Int32) (xx : Int32) (hc : f_X2_personBy x1 x2 p0_size p0_seatings_v p0_seatings_n = some xx) : Met l yX2_personBy wsX2_personBy rm_X2_personBy (va_Pc [.ref a_p0, .int x1, .int x2] (pw_pre (dC, dI) cI cZ [(a_p0, .inr (2, [.ref a_p0_seatings, .int p0_listed, .int p0_size])), (a_p0_seatings, .inl (cI, p0_seatings_n, .inl p0_seatings_v))] sz)) (va_Qi (fun (r : Int32) (u : Unit) => f_X2_personBy x1 x2 p0_size p0_seatings_v p0_seatings_n = some r) (fun u t => pw_post (dC, dI) cI cZ (va_A [(a_p0, .inr (2, [.ref a_p0_seatings, .int p0_listed, .int p0_size])), (a_p0_seatings, .inl (cI, p0_seatings_n, .inl p0_seatings_v))] sz) [(a_p0, .inr (2, [.ref a_p0_seatings, .int p0_listed, .int p0_size])), (a_p0_seatings, .inl (cI, p0_seatings_n, .inl p0_seatings_v))] t) (va_A [(a_p0, .inr (2, [.ref a_p0_seatings, .int p0_listed, .int p0_size])), (a_p0_seatings, .inl (cI, p0_seatings_n, .inl p0_seatings_v))] sz)) 0 0 (va_A [(a_p0, .inr (2, [.ref a_p0_seatings, .int p0_listed, .int p0_size])), (a_p0_seatings, .inl (cI, p0_seatings_n, .inl p0_seatings_v))] sz) := by
  refine Met.ofW (cc := cX2_personBy) (maxL := 3) (ret := (some .int)) (by decide) rfl ?_
  intro p e s m args below meth c s₁ B hml hv
  obtain ⟨rfl, hsz, hP, hK, hD0⟩ := hv
  have hx := B.exec
  have hb := B.bytes
  have hr := B.returns
  have hts := atoms_spec (ws := wsX2_personBy) B.pre
  have hown : s.vm.findClass RX2 = some m.cls := findClass_of_methodNamed B.named
  have hlocks := B.notSynchronized
  subst hsz
  have hD := hD0.self (sz := s.heap.size)
  generalize hAe : va_A [(a_p0, .inr (2, [.ref a_p0_seatings, .int p0_listed, .int p0_size])), (a_p0_seatings, .inl (cI, p0_seatings_n, .inl p0_seatings_v))] s.heap.size = A at hD ⊢
  have hA : ∀ q : Nat, s.heap.size ≤ q → A q := fun q h => by rw [← hAe]; exact Or.inr h
  have hS : va_S A s.heap s.heap [] := va_S.rf
  have hP : va_P (dC, dI) vwCl [(a_p0, .inr (2, [.ref a_p0_seatings, .int p0_listed, .int p0_size])), (a_p0_seatings, .inl (cI, p0_seatings_n, .inl p0_seatings_v))] s.heap := hP
  have hl := lv_entry ([.ref a_p0, .int x1, .int x2]) (n := 3) (Nat.le_of_ble_eq_true rfl)
  rw [lg_entry_eq]
  generalize (lg_sl ([.ref a_p0, .int x1, .int x2]) ++ List.replicate (3 - (lg_sl ([.ref a_p0, .int x1, .int x2])).length) Slot.unset).toArray = ls at hl ⊢
  have hl : lv_has ls 3 [(0, .ref a_p0), (1, .int x1), (2, .int x2)] := hl
  refine pw_Wq (R := rm_X2_personBy) (fun Q hQ => ?_)
  obtain ⟨locs, elocs⟩ : ∃ y : List Loc, y = [] := ⟨_, rfl⟩
  rw [← elocs] at hS ⊢
  have h := hc
  unfold f_X2_personBy at h
  refine lv_aload_n hx hb dX2_personBy_0 rfl (lv_at hl 0 rfl) ?_
  refine lv_iload_n hx hb dX2_personBy_1 rfl (lv_at hl 1 rfl) ?_
  refine pw_ci (wr := [(a_p0_seatings, .inl (cI, p0_seatings_n, .inl p0_seatings_v))]) (va_runV (As := [.int x1]) (rest := []) ⟨hx, hb, hml, hown, hts⟩ (c_X2_hasRank l dC dI cI cZ s.heap.size a_p0 a_p0_seatings p0_listed p0_size x1) (cwV 1 hts gX2_personBy_X2_hasRank rfl rfl rfl (by decide +kernel) ⟨(Nat.le_of_ble_eq_true rfl), (Nat.le_of_ble_eq_true rfl)⟩) (pw_preV hK hP hD [0] rfl rfl (by decide) 2 rfl rfl) rfl rfl hl.1 rfl (lv_room (Nat.le_of_ble_eq_true rfl)) dX2_personBy_2 ⟨(Nat.le_of_ble_eq_true rfl), (Nat.le_of_ble_eq_true rfl)⟩) hP hD hS hA [0] [1] rfl rfl (by decide) (by decide) (fun r1 u H locs hw hP hD hS => ?_)
  have h := pw_lt_e hw h
  have hP : va_P (dC, dI) vwCl [(a_p0_seatings, .inl (cI, p0_seatings_n, .inl p0_seatings_v)), (a_p0, .inr (2, [.ref a_p0_seatings, .int p0_listed, .int p0_size]))] H := hP
  have hD : va_D A [(a_p0_seatings, .inl (cI, p0_seatings_n, .inl p0_seatings_v)), (a_p0, .inr (2, [.ref a_p0_seatings, .int p0_listed, .int p0_size]))] := hD
  refine lv_if_eq (tgt := 20) hx hb dX2_personBy_5 (by decide) (fun c4 => ?_) (fun c4 => ?_)
  · have h := pw_cd_p c4 h
    refine lv_bipush (v := (-9)) hx hb dX2_personBy_20 (by decide) ?_
    have hP := hP.sub (ws' := [(a_p0, .inr (2, [.ref a_p0_seatings, .int p0_listed, .int p0_size])), (a_p0_seatings, .inl (cI, p0_seatings_n, .inl p0_seatings_v))]) [1, 0] rfl
    have hD := hD.sub (ws' := [(a_p0, .inr (2, [.ref a_p0_seatings, .int p0_listed, .int p0_size])), (a_p0_seatings, .inl (cI, p0_seatings_n, .inl p0_seatings_v))]) [1, 0] (by decide) rfl
    rw [hQ]
    exact W.iret (v := (-9)) hx hb hr (fun t ht hW => ⟨⟨(-9), (), rfl, hc.trans h.symm, by rw [ht]; exact hP, va_K.moved hW.alike hK, hD⟩, hS.F ht⟩) hS.2.2 dX2_personBy_22
  · have h := pw_cd_n c4 h
    refine lv_aload_n hx hb dX2_personBy_8 rfl (lv_at hl 0 rfl) ?_
    refine lv_iload_n hx hb dX2_personBy_9 rfl (lv_at hl 1 rfl) ?_
    obtain ⟨xx7, hc6, h⟩ := pw_bd_e h
    refine pw_ci (wr := []) (va_runV (As := [.int x1]) (rest := []) ⟨hx, hb, hml, hown, hts⟩ (c_X2_seatingOf l dC dI cI cZ H.size a_p0 a_p0_seatings p0_listed p0_size p0_seatings_v p0_seatings_n x1 xx7 hc6) (cwV 1 hts gX2_personBy_X2_seatingOf rfl rfl rfl (by decide +kernel) ⟨(Nat.le_of_ble_eq_true rfl), (Nat.le_of_ble_eq_true rfl)⟩) (pw_preV hK hP hD [1, 0] rfl rfl (by decide) 2 rfl rfl) rfl rfl hl.1 rfl (lv_room (Nat.le_of_ble_eq_true rfl)) dX2_personBy_10 ⟨(Nat.le_of_ble_eq_true rfl), (Nat.le_of_ble_eq_true rfl)⟩) hP hD hS hA [1, 0] [] rfl rfl (by decide) (by decide) (fun r5 u H locs hw hP hD hS => ?_)
    have ex : r5 = xx7 := Option.some.inj (hw.symm.trans hc6)
    subst ex
    have h := pw_u1_e h
    have hP : va_P (dC, dI) vwCl [(a_p0, .inr (2, [.ref a_p0_seatings, .int p0_listed, .int p0_size])), (a_p0_seatings, .inl (cI, p0_seatings_n, .inl p0_seatings_v))] H := hP
    have hD : va_D A [(a_p0, .inr (2, [.ref a_p0_seatings, .int p0_listed, .int p0_size])), (a_p0_seatings, .inl (cI, p0_seatings_n, .inl p0_seatings_v))] := hD
    refine lv_iload_n hx hb dX2_personBy_13 rfl (lv_at hl 2 rfl) ?_
    refine pw_ci (wr := [(a_p0, .inr (2, [.ref a_p0_seatings, .int p0_listed, .int p0_size])), (a_p0_seatings, .inl (cI, p0_seatings_n, .inl p0_seatings_v))]) (va_runS (As := [.int r5, .int x2]) (rest := []) ⟨hx, hb, hml, hown, hts⟩ (c_X7_personOn l dC dI cI cZ H.size r5 x2) (va_cwS 2 hts gX2_personBy_X7_personOn rfl rfl rfl (by decide +kernel) ⟨(Nat.le_of_ble_eq_true rfl), (Nat.le_of_ble_eq_true rfl)⟩) (pw_preS hK hP hD [] rfl rfl (by decide)) rfl rfl hl.1 rfl (lv_room (Nat.le_of_ble_eq_true rfl)) dX2_personBy_14 ⟨(Nat.le_of_ble_eq_true rfl), (Nat.le_of_ble_eq_true rfl)⟩) hP hD hS hA [] [0, 1] rfl rfl (by decide) (by decide) (fun r8 u H locs hw hP hD hS => ?_)
    have h := pw_lt_e hw h
    have hP : va_P (dC, dI) vwCl [(a_p0, .inr (2, [.ref a_p0_seatings, .int p0_listed, .int p0_size])), (a_p0_seatings, .inl (cI, p0_seatings_n, .inl p0_seatings_v))] H := hP
    have hD : va_D A [(a_p0, .inr (2, [.ref a_p0_seatings, .int p0_listed, .int p0_size])), (a_p0_seatings, .inl (cI, p0_seatings_n, .inl p0_seatings_v))] := hD
    refine lv_goto (tgt := 22) hx hb dX2_personBy_17 (by decide) ?_
    rw [hQ]
    exact W.iret (v := r8) hx hb hr (fun t ht hW => ⟨⟨r8, (), rfl, hc.trans h.symm, by rw [ht]; exact hP, va_K.moved hW.alike hK, hD⟩, hS.F ht⟩) hS.2.2 dX2_personBy_22
/-! X2_rankOf -/
theorem li_X2_rankOf_X2 : ∀ w ∈ u_ws RX2 TX2 3, w ∈ wsX2_rankOf := fun w h => List.mem_cons_of_mem _ (List.mem_append_right _ h)
theorem lk_X2_rankOf_19 : Cond.fieldLink RX2 19 "NoWifeBeside$Lawful" "size" "I" ∈ wsX2_rankOf := by decide +kernel
abbrev rm_X2_rankOf : Room := { frames := 1, cells := 0, slots := 0, locals := 21 }
set_option maxRecDepth 100000 in
set_option maxHeartbeats 4000000 in
theorem lw_X2_rankOf_10 {p : Program} {l : Launch} {e : Env} {s : State} {m : MethodId} {args : Array Value} {below : List Frame} {meth : Method} {c : Code} {Q : State → Prop} {dC : Nat → ClassId} {dI : Nat → Nat → Nat} {cI cZ : ClassId} {A : Nat → Prop} (hx : p.tables.exec = Jvm.exec) (hb : c.code = cX2_rankOf) (hml : c.maxLocals = 6) (hown : s.vm.findClass RX2 = some m.cls) (hts : ∀ w ∈ wsX2_rankOf, w.before args s = true) (hA : ∀ q : Nat, s.heap.size ≤ q → A q) (hK : va_K (dC, dI) vwCl [(cI, .int), (cZ, .boolean)] s) (a_p0 : Nat) (a_p0_seatings : Nat) (l1 : Int32) (p0_listed : Int32) (p0_size : Int32) (p0_seatings_v : Nat → Int32) (p0_seatings_n : Nat) :
    ∀ (n : Nat) (l2 : Int32) (l3 : Int32) (l4 : Int32) (xx : Int32), lf_X2_rankOf_10 l1 p0_seatings_v p0_seatings_n n l2 l3 l4 = some xx → ((∀ (e_l2 : Int32), e_l2 = xx → ∀ (H : Heap) (locs : List Loc) (ls : Array Slot), va_P (dC, dI) vwCl [(a_p0, .inr (2, [.ref a_p0_seatings, .int p0_listed, .int p0_size])), (a_p0_seatings, .inl (cI, p0_seatings_n, .inl p0_seatings_v))] H → va_D A [(a_p0, .inr (2, [.ref a_p0_seatings, .int p0_listed, .int p0_size])), (a_p0_seatings, .inl (cI, p0_seatings_n, .inl p0_seatings_v))] → va_S A s.heap H locs → lv_has ls 6 [(0, .ref a_p0), (1, .int l1), (2, .int e_l2)] → W p l e rm_X2_rankOf s m args below meth c H locs 0 0 Q (F0 m 56 ls []))) → ∀ (H : Heap) (locs : List Loc) (ls : Array Slot), va_P (dC, dI) vwCl [(a_p0, .inr (2, [.ref a_p0_seatings, .int p0_listed, .int p0_size])), (a_p0_seatings, .inl (cI, p0_seatings_n, .inl p0_seatings_v))] H → va_D A [(a_p0, .inr (2, [.ref a_p0_seatings, .int p0_listed, .int p0_size])), (a_p0_seatings, .inl (cI, p0_seatings_n, .inl p0_seatings_v))] → va_S A s.heap H locs → lv_has ls 6 [(0, .ref a_p0), (1, .int l1), (2, .int l2), (3, .int l3), (4, .int l4)] → W p l e rm_X2_rankOf s m args below meth c H locs 0 0 Q (F0 m 10 ls []) := by
  intro n
  induction n with
  | zero =>
    intro l2 l3 l4 xx h
    rw [lf_X2_rankOf_10] at h
    cases h
  | succ n ih =>
    intro l2 l3 l4 xx h KK H locs ls hP hD hS hl
    rw [lf_X2_rankOf_10] at h
    refine lv_iload hx hb dX2_rankOf_10 (lv_at hl 4 rfl) ?_
    refine lv_bipush (v := 16) hx hb dX2_rankOf_12 (by decide) ?_
    refine lv_icmp_ge (tgt := 56) hx hb dX2_rankOf_14 (by decide) (fun c1 => ?_) (fun c1 => ?_)
    · have h := pw_cd_p c1 h
      have hl := lv_sub (l' := [(0, .ref a_p0), (1, .int l1), (2, .int l2)]) hl [0, 1, 2] rfl
      exact KK l2 (Option.some.inj h) _ locs ls hP hD hS hl
    · have h := pw_cd_n c1 h
      refine lv_iload_n hx hb dX2_rankOf_17 rfl (lv_at hl 2 rfl) ?_
      refine lv_iload_n hx hb dX2_rankOf_18 rfl (lv_at hl 3 rfl) ?_
      refine lv_icmp_ge (tgt := 56) hx hb dX2_rankOf_19 (by decide) (fun c2 => ?_) (fun c2 => ?_)
      · have h := pw_cd_p c2 h
        have hl := lv_sub (l' := [(0, .ref a_p0), (1, .int l1), (2, .int l2)]) hl [0, 1, 2] rfl
        exact KK l2 (Option.some.inj h) _ locs ls hP hD hS hl
      · have h := pw_cd_n c2 h
        refine lv_iload_n hx hb dX2_rankOf_22 rfl (lv_at hl 2 rfl) ?_
        refine lv_iload_n hx hb dX2_rankOf_23 rfl (lv_at hl 3 rfl) ?_
        refine lv_iadd hx hb dX2_rankOf_24 ?_
        refine lv_iconst (v := 2) hx hb dX2_rankOf_25 (by decide) ?_
        refine lv_idiv hx hb dX2_rankOf_26 (by decide) ?_
        refine lv_topi (fun v3 ev3 => ?_)
        have h := pw_lt_e ev3 h
        refine lv_istore (lv' := [(5, .int v3), (0, .ref a_p0), (1, .int l1), (2, .int l2), (3, .int l3), (4, .int l4)]) hx hb dX2_rankOf_27 hl (by decide) rfl (fun ls hl => ?_)
        refine lv_aload_n hx hb dX2_rankOf_29 rfl (lv_at hl 1 rfl) ?_
        refine lv_iload hx hb dX2_rankOf_30 (lv_at hl 0 rfl) ?_
        obtain ⟨xx6, hc5, h⟩ := pw_bd_e h
        refine pw_ci (wr := []) (va_runV (As := [.int v3]) (rest := []) ⟨hx, hb, hml, hown, hts⟩ (c_X2_seatingOf l dC dI cI cZ H.size a_p0 a_p0_seatings p0_listed p0_size p0_seatings_v p0_seatings_n v3 xx6 hc5) (cwV 1 hts gX2_rankOf_X2_seatingOf rfl rfl rfl (by decide +kernel) ⟨(Nat.le_of_ble_eq_true rfl), (Nat.le_of_ble_eq_true rfl)⟩) (pw_preV hK hP hD [0, 1] rfl rfl (by decide) 2 rfl rfl) rfl rfl hl.1 rfl (lv_room (Nat.le_of_ble_eq_true rfl)) dX2_rankOf_32 ⟨(Nat.le_of_ble_eq_true rfl), (Nat.le_of_ble_eq_true rfl)⟩) hP hD hS hA [0, 1] [] rfl rfl (by decide) (by decide) (fun r4 u H locs hw hP hD hS => ?_)
        have ex : r4 = xx6 := Option.some.inj (hw.symm.trans hc5)
        subst ex
        have h := pw_u1_e h
        have hP : va_P (dC, dI) vwCl [(a_p0, .inr (2, [.ref a_p0_seatings, .int p0_listed, .int p0_size])), (a_p0_seatings, .inl (cI, p0_seatings_n, .inl p0_seatings_v))] H := hP
        have hD : va_D A [(a_p0, .inr (2, [.ref a_p0_seatings, .int p0_listed, .int p0_size])), (a_p0_seatings, .inl (cI, p0_seatings_n, .inl p0_seatings_v))] := hD
        refine lv_iload_n hx hb dX2_rankOf_35 rfl (lv_at hl 2 rfl) ?_
        refine lv_icmp_ge (tgt := 47) hx hb dX2_rankOf_36 (by decide) (fun c7 => ?_) (fun c7 => ?_)
        · have h := pw_cd_p c7 h
          refine lv_iload hx hb dX2_rankOf_47 (lv_at hl 0 rfl) ?_
          refine lv_istore_n (lv' := [(3, .int v3), (5, .int v3), (0, .ref a_p0), (1, .int l1), (2, .int l2), (4, .int l4)]) hx hb dX2_rankOf_49 rfl hl (by decide) rfl (fun ls hl => ?_)
          refine lv_iinc (v := (l4 + 1)) (lv' := [(4, .int (l4 + 1)), (3, .int v3), (5, .int v3), (0, .ref a_p0), (1, .int l1), (2, .int l2)]) hx hb dX2_rankOf_50 hl (k := 5) rfl rfl (by decide) rfl (fun ls hl => ?_)
          refine lv_goto (tgt := 10) hx hb dX2_rankOf_53 (by decide) ?_
          have hl := lv_sub (l' := [(0, .ref a_p0), (1, .int l1), (2, .int l2), (3, .int v3), (4, .int (l4 + 1))]) hl [3, 4, 5, 1, 0] rfl
          exact ih l2 v3 (l4 + 1) xx h KK _ locs ls hP hD hS hl
        · have h := pw_cd_n c7 h
          refine lv_iload hx hb dX2_rankOf_39 (lv_at hl 0 rfl) ?_
          refine lv_iconst (v := 1) hx hb dX2_rankOf_41 (by decide) ?_
          refine lv_iadd hx hb dX2_rankOf_42 ?_
          refine lv_topi (fun v8 ev8 => ?_)
          have h := pw_lt_e ev8 h
          refine lv_istore_n (lv' := [(2, .int v8), (5, .int v3), (0, .ref a_p0), (1, .int l1), (3, .int l3), (4, .int l4)]) hx hb dX2_rankOf_43 rfl hl (by decide) rfl (fun ls hl => ?_)
          refine lv_goto (tgt := 50) hx hb dX2_rankOf_44 (by decide) ?_
          refine lv_iinc (v := (l4 + 1)) (lv' := [(4, .int (l4 + 1)), (2, .int v8), (5, .int v3), (0, .ref a_p0), (1, .int l1), (3, .int l3)]) hx hb dX2_rankOf_50 hl (k := 5) rfl rfl (by decide) rfl (fun ls hl => ?_)
          refine lv_goto (tgt := 10) hx hb dX2_rankOf_53 (by decide) ?_
          have hl := lv_sub (l' := [(0, .ref a_p0), (1, .int l1), (2, .int v8), (3, .int l3), (4, .int (l4 + 1))]) hl [3, 4, 1, 5, 0] rfl
          exact ih v8 l3 (l4 + 1) xx h KK _ locs ls hP hD hS hl
set_option maxRecDepth 100000 in
set_option maxHeartbeats 4000000 in
theorem c_X2_rankOf (l : Launch) (dC : Nat → ClassId) (dI : Nat → Nat → Nat) (cI cZ : ClassId) (sz : Nat) (a_p0 : Nat) (a_p0_seatings : Nat) (p0_listed : Int32) (p0_size : Int32) (p0_seatings_v : Nat → Int32) (p0_seatings_n : Nat) (x1 : Int32) (xx : Int32) (hc : f_X2_rankOf x1 p0_size p0_seatings_v p0_seatings_n = some xx) : Met l yX2_rankOf wsX2_rankOf rm_X2_rankOf (va_Pc [.ref a_p0, .int x1] (pw_pre (dC, dI) cI cZ [(a_p0, .inr (2, [.ref a_p0_seatings, .int p0_listed, .int p0_size])), (a_p0_seatings, .inl (cI, p0_seatings_n, .inl p0_seatings_v))] sz)) (va_Qi (fun (r : Int32) (u : Unit) => f_X2_rankOf x1 p0_size p0_seatings_v p0_seatings_n = some r) (fun u t => pw_post (dC, dI) cI cZ (va_A [(a_p0, .inr (2, [.ref a_p0_seatings, .int p0_listed, .int p0_size])), (a_p0_seatings, .inl (cI, p0_seatings_n, .inl p0_seatings_v))] sz) [(a_p0, .inr (2, [.ref a_p0_seatings, .int p0_listed, .int p0_size])), (a_p0_seatings, .inl (cI, p0_seatings_n, .inl p0_seatings_v))] t) (va_A [(a_p0, .inr (2, [.ref a_p0_seatings, .int p0_listed, .int p0_size])), (a_p0_seatings, .inl (cI, p0_seatings_n, .inl p0_seatings_v))] sz)) 0 0 (va_A [(a_p0, .inr (2, [.ref a_p0_seatings, .int p0_listed, .int p0_size])), (a_p0_seatings, .inl (cI, p0_seatings_n, .inl p0_seatings_v))] sz) := by
  refine Met.ofW (cc := cX2_rankOf) (maxL := 6) (ret := (some .int)) (by decide) rfl ?_
  intro p e s m args below meth c s₁ B hml hv
  obtain ⟨rfl, hsz, hP, hK, hD0⟩ := hv
  have hx := B.exec
  have hb := B.bytes
  have hr := B.returns
  have hts := atoms_spec (ws := wsX2_rankOf) B.pre
  have hown : s.vm.findClass RX2 = some m.cls := findClass_of_methodNamed B.named
  have hlocks := B.notSynchronized
  subst hsz
  have hD := hD0.self (sz := s.heap.size)
  generalize hAe : va_A [(a_p0, .inr (2, [.ref a_p0_seatings, .int p0_listed, .int p0_size])), (a_p0_seatings, .inl (cI, p0_seatings_n, .inl p0_seatings_v))] s.heap.size = A at hD ⊢
  have hA : ∀ q : Nat, s.heap.size ≤ q → A q := fun q h => by rw [← hAe]; exact Or.inr h
  have hS : va_S A s.heap s.heap [] := va_S.rf
  have hP : va_P (dC, dI) vwCl [(a_p0, .inr (2, [.ref a_p0_seatings, .int p0_listed, .int p0_size])), (a_p0_seatings, .inl (cI, p0_seatings_n, .inl p0_seatings_v))] s.heap := hP
  have hl := lv_entry ([.ref a_p0, .int x1]) (n := 6) (Nat.le_of_ble_eq_true rfl)
  rw [lg_entry_eq]
  generalize (lg_sl ([.ref a_p0, .int x1]) ++ List.replicate (6 - (lg_sl ([.ref a_p0, .int x1])).length) Slot.unset).toArray = ls at hl ⊢
  have hl : lv_has ls 6 [(0, .ref a_p0), (1, .int x1)] := hl
  refine pw_Wq (R := rm_X2_rankOf) (fun Q hQ => ?_)
  obtain ⟨locs, elocs⟩ : ∃ y : List Loc, y = [] := ⟨_, rfl⟩
  rw [← elocs] at hS ⊢
  have h := hc
  unfold f_X2_rankOf at h
  refine lv_iconst (v := 0) hx hb dX2_rankOf_0 (by decide) ?_
  refine lv_istore_n (lv' := [(2, .int 0), (0, .ref a_p0), (1, .int x1)]) hx hb dX2_rankOf_1 rfl hl (by decide) rfl (fun ls hl => ?_)
  refine lv_aload_n hx hb dX2_rankOf_2 rfl (lv_at hl 1 rfl) ?_
  refine va_get (D := (dC, dI)) (ci := 2) (v := .int p0_size) (C := RX2) (T := TX2) (N := 3) hx hb hts li_X2_rankOf_X2 hown hK hP 0 rfl rfl 2 (by decide) (hts _ lk_X2_rankOf_19) (fun _ h9 => h9) rfl dX2_rankOf_3 ?_
  refine lv_istore_n (lv' := [(3, .int p0_size), (2, .int 0), (0, .ref a_p0), (1, .int x1)]) hx hb dX2_rankOf_6 rfl hl (by decide) rfl (fun ls hl => ?_)
  refine lv_iconst (v := 0) hx hb dX2_rankOf_7 (by decide) ?_
  refine lv_istore (lv' := [(4, .int 0), (3, .int p0_size), (2, .int 0), (0, .ref a_p0), (1, .int x1)]) hx hb dX2_rankOf_8 hl (by decide) rfl (fun ls hl => ?_)
  have hl := lv_sub (l' := [(0, .ref a_p0), (1, .int x1), (2, .int 0), (3, .int p0_size), (4, .int 0)]) hl [3, 4, 2, 1, 0] rfl
  obtain ⟨xx9, hL10, h⟩ := pw_bd_e h
  refine lw_X2_rankOf_10 hx hb hml hown hts hA hK a_p0 a_p0_seatings x1 p0_listed p0_size p0_seatings_v p0_seatings_n pw_FU 0 p0_size 0 xx9 hL10 ?_ _ locs ls hP hD hS hl
  intro y11 ex H locs ls hP hD hS hl
  subst ex
  have h := pw_u1_e h
  refine lv_iload_n hx hb dX2_rankOf_56 rfl (lv_at hl 2 rfl) ?_
  refine lv_aload_n hx hb dX2_rankOf_57 rfl (lv_at hl 0 rfl) ?_
  refine va_get (D := (dC, dI)) (ci := 2) (v := .int p0_size) (C := RX2) (T := TX2) (N := 3) hx hb hts li_X2_rankOf_X2 hown hK hP 0 rfl rfl 2 (by decide) (hts _ lk_X2_rankOf_19) (fun _ h9 => h9) rfl dX2_rankOf_58 ?_
  refine lv_icmp_ge (tgt := 77) hx hb dX2_rankOf_61 (by decide) (fun c12 => ?_) (fun c12 => ?_)
  · have h := pw_cd_p c12 h
    refine lv_bipush (v := (-9)) hx hb dX2_rankOf_77 (by decide) ?_
    rw [hQ]
    exact W.iret (v := (-9)) hx hb hr (fun t ht hW => ⟨⟨(-9), (), rfl, hc.trans h.symm, by rw [ht]; exact hP, va_K.moved hW.alike hK, hD⟩, hS.F ht⟩) hS.2.2 dX2_rankOf_79
  · have h := pw_cd_n c12 h
    refine lv_aload_n hx hb dX2_rankOf_64 rfl (lv_at hl 0 rfl) ?_
    refine lv_iload_n hx hb dX2_rankOf_65 rfl (lv_at hl 2 rfl) ?_
    obtain ⟨xx15, hc14, h⟩ := pw_bd_e h
    refine pw_ci (wr := []) (va_runV (As := [.int y11]) (rest := []) ⟨hx, hb, hml, hown, hts⟩ (c_X2_seatingOf l dC dI cI cZ H.size a_p0 a_p0_seatings p0_listed p0_size p0_seatings_v p0_seatings_n y11 xx15 hc14) (cwV 1 hts gX2_rankOf_X2_seatingOf rfl rfl rfl (by decide +kernel) ⟨(Nat.le_of_ble_eq_true rfl), (Nat.le_of_ble_eq_true rfl)⟩) (pw_preV hK hP hD [0, 1] rfl rfl (by decide) 2 rfl rfl) rfl rfl hl.1 rfl (lv_room (Nat.le_of_ble_eq_true rfl)) dX2_rankOf_66 ⟨(Nat.le_of_ble_eq_true rfl), (Nat.le_of_ble_eq_true rfl)⟩) hP hD hS hA [0, 1] [] rfl rfl (by decide) (by decide) (fun r13 u H locs hw hP hD hS => ?_)
    have ex : r13 = xx15 := Option.some.inj (hw.symm.trans hc14)
    subst ex
    have h := pw_u1_e h
    have hP : va_P (dC, dI) vwCl [(a_p0, .inr (2, [.ref a_p0_seatings, .int p0_listed, .int p0_size])), (a_p0_seatings, .inl (cI, p0_seatings_n, .inl p0_seatings_v))] H := hP
    have hD : va_D A [(a_p0, .inr (2, [.ref a_p0_seatings, .int p0_listed, .int p0_size])), (a_p0_seatings, .inl (cI, p0_seatings_n, .inl p0_seatings_v))] := hD
    refine lv_iload_n hx hb dX2_rankOf_69 rfl (lv_at hl 1 rfl) ?_
    refine lv_icmp_ne (tgt := 77) hx hb dX2_rankOf_70 (by decide) (fun c16 => ?_) (fun c16 => ?_)
    · have h := pw_cd_p c16 h
      refine lv_bipush (v := (-9)) hx hb dX2_rankOf_77 (by decide) ?_
      rw [hQ]
      exact W.iret (v := (-9)) hx hb hr (fun t ht hW => ⟨⟨(-9), (), rfl, hc.trans h.symm, by rw [ht]; exact hP, va_K.moved hW.alike hK, hD⟩, hS.F ht⟩) hS.2.2 dX2_rankOf_79
    · have h := pw_cd_n (fun q => q c16) h
      refine lv_iload_n hx hb dX2_rankOf_73 rfl (lv_at hl 2 rfl) ?_
      refine lv_goto (tgt := 79) hx hb dX2_rankOf_74 (by decide) ?_
      rw [hQ]
      exact W.iret (v := y11) hx hb hr (fun t ht hW => ⟨⟨y11, (), rfl, hc.trans h.symm, by rw [ht]; exact hP, va_K.moved hW.alike hK, hD⟩, hS.F ht⟩) hS.2.2 dX2_rankOf_79
/-! X2_firstOfLeast -/
theorem li_X2_firstOfLeast_X2 : ∀ w ∈ u_ws RX2 TX2 3, w ∈ wsX2_firstOfLeast := fun w h => List.mem_cons_of_mem _ (List.mem_append_left _ (List.mem_append_right _ h))
theorem lk_X2_firstOfLeast_19 : Cond.fieldLink RX2 19 "NoWifeBeside$Lawful" "size" "I" ∈ wsX2_firstOfLeast := by decide +kernel
abbrev rm_X2_firstOfLeast : Room := { frames := 2, cells := 0, slots := 0, locals := 48 }
set_option maxRecDepth 100000 in
set_option maxHeartbeats 4000000 in
theorem lw_X2_firstOfLeast_10 {p : Program} {l : Launch} {e : Env} {s : State} {m : MethodId} {args : Array Value} {below : List Frame} {meth : Method} {c : Code} {Q : State → Prop} {dC : Nat → ClassId} {dI : Nat → Nat → Nat} {cI cZ : ClassId} {A : Nat → Prop} (hx : p.tables.exec = Jvm.exec) (hb : c.code = cX2_firstOfLeast) (hml : c.maxLocals = 8) (hown : s.vm.findClass RX2 = some m.cls) (hts : ∀ w ∈ wsX2_firstOfLeast, w.before args s = true) (hA : ∀ q : Nat, s.heap.size ≤ q → A q) (hK : va_K (dC, dI) vwCl [(cI, .int), (cZ, .boolean)] s) (a_p0 : Nat) (a_p0_seatings : Nat) (a_p1 : Nat) (a_p1_worths : Nat) (a_p2 : Nat) (l3 : Int32) (p0_listed : Int32) (p0_size : Int32) (p0_seatings_v : Nat → Int32) (p0_seatings_n : Nat) (p1_round : Int32) (p1_byTurns : Int32) (p1_apart : Int32) (p1_people : Int32) (p1_women : Int32) (p1_couples : Int64) (p1_quarrels : Int64) (p1_togethers : Int64) (p1_barred : Int64) (p2_v : Nat → Int32) :
    ∀ (n : Nat) (l4 : Int32) (l5 : Int32) (l6 : Int32) (xx : Int32), lf_X2_firstOfLeast_10 l3 p0_size p0_seatings_v p0_seatings_n p1_round p1_people p2_v n l4 l5 l6 = some xx → ((∀ (e_l4 : Int32), e_l4 = xx → ∀ (H : Heap) (locs : List Loc) (ls : Array Slot), va_P (dC, dI) vwCl [(a_p0, .inr (2, [.ref a_p0_seatings, .int p0_listed, .int p0_size])), (a_p0_seatings, .inl (cI, p0_seatings_n, .inl p0_seatings_v)), (a_p1, .inr (3, [.int p1_round, .int p1_byTurns, .int p1_apart, .int p1_people, .int p1_women, .long p1_couples, .long p1_quarrels, .long p1_togethers, .long p1_barred, .ref a_p1_worths])), (a_p2, .inl (cI, 64, .inl p2_v))] H → va_D A [(a_p0, .inr (2, [.ref a_p0_seatings, .int p0_listed, .int p0_size])), (a_p0_seatings, .inl (cI, p0_seatings_n, .inl p0_seatings_v)), (a_p1, .inr (3, [.int p1_round, .int p1_byTurns, .int p1_apart, .int p1_people, .int p1_women, .long p1_couples, .long p1_quarrels, .long p1_togethers, .long p1_barred, .ref a_p1_worths])), (a_p2, .inl (cI, 64, .inl p2_v))] → va_S A s.heap H locs → lv_has ls 8 [(4, .int e_l4)] → W p l e rm_X2_firstOfLeast s m args below meth c H locs 0 0 Q (F0 m 60 ls []))) → ∀ (H : Heap) (locs : List Loc) (ls : Array Slot), va_P (dC, dI) vwCl [(a_p0, .inr (2, [.ref a_p0_seatings, .int p0_listed, .int p0_size])), (a_p0_seatings, .inl (cI, p0_seatings_n, .inl p0_seatings_v)), (a_p1, .inr (3, [.int p1_round, .int p1_byTurns, .int p1_apart, .int p1_people, .int p1_women, .long p1_couples, .long p1_quarrels, .long p1_togethers, .long p1_barred, .ref a_p1_worths])), (a_p2, .inl (cI, 64, .inl p2_v))] H → va_D A [(a_p0, .inr (2, [.ref a_p0_seatings, .int p0_listed, .int p0_size])), (a_p0_seatings, .inl (cI, p0_seatings_n, .inl p0_seatings_v)), (a_p1, .inr (3, [.int p1_round, .int p1_byTurns, .int p1_apart, .int p1_people, .int p1_women, .long p1_couples, .long p1_quarrels, .long p1_togethers, .long p1_barred, .ref a_p1_worths])), (a_p2, .inl (cI, 64, .inl p2_v))] → va_S A s.heap H locs → lv_has ls 8 [(0, .ref a_p0), (1, .ref a_p1), (2, .ref a_p2), (3, .int l3), (4, .int l4), (5, .int l5), (6, .int l6)] → W p l e rm_X2_firstOfLeast s m args below meth c H locs 0 0 Q (F0 m 10 ls []) := by
  intro n
  induction n with
  | zero =>
    intro l4 l5 l6 xx h
    rw [lf_X2_firstOfLeast_10] at h
    cases h
  | succ n ih =>
    intro l4 l5 l6 xx h KK H locs ls hP hD hS hl
    rw [lf_X2_firstOfLeast_10] at h
    refine lv_iload hx hb dX2_firstOfLeast_10 (lv_at hl 6 rfl) ?_
    refine lv_aload_n hx hb dX2_firstOfLeast_12 rfl (lv_at hl 0 rfl) ?_
    refine va_get (D := (dC, dI)) (ci := 2) (v := .int p0_size) (C := RX2) (T := TX2) (N := 3) hx hb hts li_X2_firstOfLeast_X2 hown hK hP 0 rfl rfl 2 (by decide) (hts _ lk_X2_firstOfLeast_19) (fun _ h9 => h9) rfl dX2_firstOfLeast_13 ?_
    refine lv_icmp_ge (tgt := 60) hx hb dX2_firstOfLeast_16 (by decide) (fun c1 => ?_) (fun c1 => ?_)
    · have h := pw_cd_p c1 h
      have hl := lv_sub (l' := [(4, .int l4)]) hl [4] rfl
      exact KK l4 (Option.some.inj h) _ locs ls hP hD hS hl
    · have h := pw_cd_n c1 h
      refine lv_iload_n hx hb dX2_firstOfLeast_19 rfl (lv_at hl 3 rfl) ?_
      refine lv_aload_n hx hb dX2_firstOfLeast_20 rfl (lv_at hl 1 rfl) ?_
      refine lv_aload_n hx hb dX2_firstOfLeast_21 rfl (lv_at hl 0 rfl) ?_
      refine lv_iload hx hb dX2_firstOfLeast_22 (lv_at hl 6 rfl) ?_
      obtain ⟨xx4, hc3, h⟩ := pw_bd_e h
      refine pw_ci (wr := [(a_p1, .inr (3, [.int p1_round, .int p1_byTurns, .int p1_apart, .int p1_people, .int p1_women, .long p1_couples, .long p1_quarrels, .long p1_togethers, .long p1_barred, .ref a_p1_worths])), (a_p2, .inl (cI, 64, .inl p2_v))]) (va_runV (As := [.int l6]) (rest := [.ref a_p1, .int l3]) ⟨hx, hb, hml, hown, hts⟩ (c_X2_seatingOf l dC dI cI cZ H.size a_p0 a_p0_seatings p0_listed p0_size p0_seatings_v p0_seatings_n l6 xx4 hc3) (cwV 1 hts gX2_firstOfLeast_X2_seatingOf rfl rfl rfl (by decide +kernel) ⟨(Nat.le_of_ble_eq_true rfl), (Nat.le_of_ble_eq_true rfl)⟩) (pw_preV hK hP hD [0, 1] rfl rfl (by decide) 2 rfl rfl) rfl rfl hl.1 rfl (lv_room (Nat.le_of_ble_eq_true rfl)) dX2_firstOfLeast_24 ⟨(Nat.le_of_ble_eq_true rfl), (Nat.le_of_ble_eq_true rfl)⟩) hP hD hS hA [0, 1] [2, 3] rfl rfl (by decide) (by decide) (fun r2 u H locs hw hP hD hS => ?_)
      have ex : r2 = xx4 := Option.some.inj (hw.symm.trans hc3)
      subst ex
      have h := pw_u1_e h
      have hP : va_P (dC, dI) vwCl [(a_p1, .inr (3, [.int p1_round, .int p1_byTurns, .int p1_apart, .int p1_people, .int p1_women, .long p1_couples, .long p1_quarrels, .long p1_togethers, .long p1_barred, .ref a_p1_worths])), (a_p2, .inl (cI, 64, .inl p2_v)), (a_p0, .inr (2, [.ref a_p0_seatings, .int p0_listed, .int p0_size])), (a_p0_seatings, .inl (cI, p0_seatings_n, .inl p0_seatings_v))] H := hP
      have hD : va_D A [(a_p1, .inr (3, [.int p1_round, .int p1_byTurns, .int p1_apart, .int p1_people, .int p1_women, .long p1_couples, .long p1_quarrels, .long p1_togethers, .long p1_barred, .ref a_p1_worths])), (a_p2, .inl (cI, 64, .inl p2_v)), (a_p0, .inr (2, [.ref a_p0_seatings, .int p0_listed, .int p0_size])), (a_p0_seatings, .inl (cI, p0_seatings_n, .inl p0_seatings_v))] := hD
      refine lv_aload_n hx hb dX2_firstOfLeast_27 rfl (lv_at hl 2 rfl) ?_
      obtain ⟨xx7, hc6, h⟩ := pw_bd_e h
      refine pw_ci (wr := [(a_p0, .inr (2, [.ref a_p0_seatings, .int p0_listed, .int p0_size])), (a_p0_seatings, .inl (cI, p0_seatings_n, .inl p0_seatings_v))]) (va_runV (As := [.int r2, .ref a_p2]) (rest := [.int l3]) ⟨hx, hb, hml, hown, hts⟩ (c_X4_weigh l dC dI cI cZ H.size a_p1 a_p1_worths a_p2 p1_round p1_byTurns p1_apart p1_people p1_women p1_couples p1_quarrels p1_togethers p1_barred p2_v r2 xx7 hc6) (cwV 2 hts gX2_firstOfLeast_X4_weigh rfl rfl rfl (by decide +kernel) ⟨(Nat.le_of_ble_eq_true rfl), (Nat.le_of_ble_eq_true rfl)⟩) (pw_preV hK hP hD [0, 1] rfl rfl (by decide) 3 rfl rfl) rfl rfl hl.1 rfl (lv_room (Nat.le_of_ble_eq_true rfl)) dX2_firstOfLeast_28 ⟨(Nat.le_of_ble_eq_true rfl), (Nat.le_of_ble_eq_true rfl)⟩) hP hD hS hA [0, 1] [2, 3] rfl rfl (by decide) (by decide) (fun r5 u H locs hw hP hD hS => ?_)
      have ex : r5 = xx7 := Option.some.inj (hw.symm.trans hc6)
      subst ex
      have h := pw_u1_e h
      have hP : va_P (dC, dI) vwCl [(a_p0, .inr (2, [.ref a_p0_seatings, .int p0_listed, .int p0_size])), (a_p0_seatings, .inl (cI, p0_seatings_n, .inl p0_seatings_v)), (a_p1, .inr (3, [.int p1_round, .int p1_byTurns, .int p1_apart, .int p1_people, .int p1_women, .long p1_couples, .long p1_quarrels, .long p1_togethers, .long p1_barred, .ref a_p1_worths])), (a_p2, .inl (cI, 64, .inl p2_v))] H := hP
      have hD : va_D A [(a_p0, .inr (2, [.ref a_p0_seatings, .int p0_listed, .int p0_size])), (a_p0_seatings, .inl (cI, p0_seatings_n, .inl p0_seatings_v)), (a_p1, .inr (3, [.int p1_round, .int p1_byTurns, .int p1_apart, .int p1_people, .int p1_women, .long p1_couples, .long p1_quarrels, .long p1_togethers, .long p1_barred, .ref a_p1_worths])), (a_p2, .inl (cI, 64, .inl p2_v))] := hD
      refine lv_imul hx hb dX2_firstOfLeast_31 ?_
      refine lv_topi (fun v8 ev8 => ?_)
      have h := pw_lt_e ev8 h
      refine lv_istore (lv' := [(7, .int v8), (0, .ref a_p0), (1, .ref a_p1), (2, .ref a_p2), (3, .int l3), (4, .int l4), (5, .int l5), (6, .int l6)]) hx hb dX2_firstOfLeast_32 hl (by decide) rfl (fun ls hl => ?_)
      refine lv_iload hx hb dX2_firstOfLeast_34 (lv_at hl 5 rfl) ?_
      refine lv_if_lt (tgt := 46) hx hb dX2_firstOfLeast_36 (by decide) (fun c9 => ?_) (fun c9 => ?_)
      · have h := pw_cd_p c9 h
        refine lv_iload hx hb dX2_firstOfLeast_46 (lv_at hl 7 rfl) ?_
        refine lv_istore (lv' := [(4, .int l6), (7, .int v8), (0, .ref a_p0), (1, .ref a_p1), (2, .ref a_p2), (3, .int l3), (5, .int l5), (6, .int l6)]) hx hb dX2_firstOfLeast_48 hl (by decide) rfl (fun ls hl => ?_)
        refine lv_iload hx hb dX2_firstOfLeast_50 (lv_at hl 1 rfl) ?_
        refine lv_istore (lv' := [(5, .int v8), (4, .int l6), (7, .int v8), (0, .ref a_p0), (1, .ref a_p1), (2, .ref a_p2), (3, .int l3), (6, .int l6)]) hx hb dX2_firstOfLeast_52 hl (by decide) rfl (fun ls hl => ?_)
        refine lv_iinc (v := (l6 + 1)) (lv' := [(6, .int (l6 + 1)), (5, .int v8), (4, .int l6), (7, .int v8), (0, .ref a_p0), (1, .ref a_p1), (2, .ref a_p2), (3, .int l3)]) hx hb dX2_firstOfLeast_54 hl (k := 7) rfl rfl (by decide) rfl (fun ls hl => ?_)
        refine lv_goto (tgt := 10) hx hb dX2_firstOfLeast_57 (by decide) ?_
        have hl := lv_sub (l' := [(0, .ref a_p0), (1, .ref a_p1), (2, .ref a_p2), (3, .int l3), (4, .int l6), (5, .int v8), (6, .int (l6 + 1))]) hl [4, 5, 6, 7, 2, 1, 0] rfl
        exact ih l6 v8 (l6 + 1) xx h KK _ locs ls hP hD hS hl
      · have h := pw_cd_n c9 h
        refine lv_iload hx hb dX2_firstOfLeast_39 (lv_at hl 0 rfl) ?_
        refine lv_iload hx hb dX2_firstOfLeast_41 (lv_at hl 6 rfl) ?_
        refine lv_icmp_ge (tgt := 54) hx hb dX2_firstOfLeast_43 (by decide) (fun c10 => ?_) (fun c10 => ?_)
        · have h := pw_cd_p c10 h
          refine lv_iinc (v := (l6 + 1)) (lv' := [(6, .int (l6 + 1)), (7, .int v8), (0, .ref a_p0), (1, .ref a_p1), (2, .ref a_p2), (3, .int l3), (4, .int l4), (5, .int l5)]) hx hb dX2_firstOfLeast_54 hl (k := 7) rfl rfl (by decide) rfl (fun ls hl => ?_)
          refine lv_goto (tgt := 10) hx hb dX2_firstOfLeast_57 (by decide) ?_
          have hl := lv_sub (l' := [(0, .ref a_p0), (1, .ref a_p1), (2, .ref a_p2), (3, .int l3), (4, .int l4), (5, .int l5), (6, .int (l6 + 1))]) hl [2, 3, 4, 5, 6, 7, 0] rfl
          exact ih l4 l5 (l6 + 1) xx h KK _ locs ls hP hD hS hl
        · have h := pw_cd_n c10 h
          refine lv_iload hx hb dX2_firstOfLeast_46 (lv_at hl 7 rfl) ?_
          refine lv_istore (lv' := [(4, .int l6), (7, .int v8), (0, .ref a_p0), (1, .ref a_p1), (2, .ref a_p2), (3, .int l3), (5, .int l5), (6, .int l6)]) hx hb dX2_firstOfLeast_48 hl (by decide) rfl (fun ls hl => ?_)
          refine lv_iload hx hb dX2_firstOfLeast_50 (lv_at hl 1 rfl) ?_
          refine lv_istore (lv' := [(5, .int v8), (4, .int l6), (7, .int v8), (0, .ref a_p0), (1, .ref a_p1), (2, .ref a_p2), (3, .int l3), (6, .int l6)]) hx hb dX2_firstOfLeast_52 hl (by decide) rfl (fun ls hl => ?_)
          refine lv_iinc (v := (l6 + 1)) (lv' := [(6, .int (l6 + 1)), (5, .int v8), (4, .int l6), (7, .int v8), (0, .ref a_p0), (1, .ref a_p1), (2, .ref a_p2), (3, .int l3)]) hx hb dX2_firstOfLeast_54 hl (k := 7) rfl rfl (by decide) rfl (fun ls hl => ?_)
          refine lv_goto (tgt := 10) hx hb dX2_firstOfLeast_57 (by decide) ?_
          have hl := lv_sub (l' := [(0, .ref a_p0), (1, .ref a_p1), (2, .ref a_p2), (3, .int l3), (4, .int l6), (5, .int v8), (6, .int (l6 + 1))]) hl [4, 5, 6, 7, 2, 1, 0] rfl
          exact ih l6 v8 (l6 + 1) xx h KK _ locs ls hP hD hS hl
set_option maxRecDepth 100000 in
set_option maxHeartbeats 4000000 in
theorem c_X2_firstOfLeast (l : Launch) (dC : Nat → ClassId) (dI : Nat → Nat → Nat) (cI cZ : ClassId) (sz : Nat) (a_p0 : Nat) (a_p0_seatings : Nat) (a_p1 : Nat) (a_p1_worths : Nat) (a_p2 : Nat) (p0_listed : Int32) (p0_size : Int32) (p0_seatings_v : Nat → Int32) (p0_seatings_n : Nat) (p1_round : Int32) (p1_byTurns : Int32) (p1_apart : Int32) (p1_people : Int32) (p1_women : Int32) (p1_couples : Int64) (p1_quarrels : Int64) (p1_togethers : Int64) (p1_barred : Int64) (p2_v : Nat → Int32) (x3 : Int32) (xx : Int32) (hc : f_X2_firstOfLeast x3 p0_size p0_seatings_v p0_seatings_n p1_round p1_people p2_v = some xx) : Met l yX2_firstOfLeast wsX2_firstOfLeast rm_X2_firstOfLeast (va_Pc [.ref a_p0, .ref a_p1, .ref a_p2, .int x3] (pw_pre (dC, dI) cI cZ [(a_p0, .inr (2, [.ref a_p0_seatings, .int p0_listed, .int p0_size])), (a_p0_seatings, .inl (cI, p0_seatings_n, .inl p0_seatings_v)), (a_p1, .inr (3, [.int p1_round, .int p1_byTurns, .int p1_apart, .int p1_people, .int p1_women, .long p1_couples, .long p1_quarrels, .long p1_togethers, .long p1_barred, .ref a_p1_worths])), (a_p2, .inl (cI, 64, .inl p2_v))] sz)) (va_Qi (fun (r : Int32) (u : Unit) => f_X2_firstOfLeast x3 p0_size p0_seatings_v p0_seatings_n p1_round p1_people p2_v = some r) (fun u t => pw_post (dC, dI) cI cZ (va_A [(a_p0, .inr (2, [.ref a_p0_seatings, .int p0_listed, .int p0_size])), (a_p0_seatings, .inl (cI, p0_seatings_n, .inl p0_seatings_v)), (a_p1, .inr (3, [.int p1_round, .int p1_byTurns, .int p1_apart, .int p1_people, .int p1_women, .long p1_couples, .long p1_quarrels, .long p1_togethers, .long p1_barred, .ref a_p1_worths])), (a_p2, .inl (cI, 64, .inl p2_v))] sz) [(a_p0, .inr (2, [.ref a_p0_seatings, .int p0_listed, .int p0_size])), (a_p0_seatings, .inl (cI, p0_seatings_n, .inl p0_seatings_v)), (a_p1, .inr (3, [.int p1_round, .int p1_byTurns, .int p1_apart, .int p1_people, .int p1_women, .long p1_couples, .long p1_quarrels, .long p1_togethers, .long p1_barred, .ref a_p1_worths])), (a_p2, .inl (cI, 64, .inl p2_v))] t) (va_A [(a_p0, .inr (2, [.ref a_p0_seatings, .int p0_listed, .int p0_size])), (a_p0_seatings, .inl (cI, p0_seatings_n, .inl p0_seatings_v)), (a_p1, .inr (3, [.int p1_round, .int p1_byTurns, .int p1_apart, .int p1_people, .int p1_women, .long p1_couples, .long p1_quarrels, .long p1_togethers, .long p1_barred, .ref a_p1_worths])), (a_p2, .inl (cI, 64, .inl p2_v))] sz)) 0 0 (va_A [(a_p0, .inr (2, [.ref a_p0_seatings, .int p0_listed, .int p0_size])), (a_p0_seatings, .inl (cI, p0_seatings_n, .inl p0_seatings_v)), (a_p1, .inr (3, [.int p1_round, .int p1_byTurns, .int p1_apart, .int p1_people, .int p1_women, .long p1_couples, .long p1_quarrels, .long p1_togethers, .long p1_barred, .ref a_p1_worths])), (a_p2, .inl (cI, 64, .inl p2_v))] sz) := by
  refine Met.ofW (cc := cX2_firstOfLeast) (maxL := 8) (ret := (some .int)) (by decide) rfl ?_
  intro p e s m args below meth c s₁ B hml hv
  obtain ⟨rfl, hsz, hP, hK, hD0⟩ := hv
  have hx := B.exec
  have hb := B.bytes
  have hr := B.returns
  have hts := atoms_spec (ws := wsX2_firstOfLeast) B.pre
  have hown : s.vm.findClass RX2 = some m.cls := findClass_of_methodNamed B.named
  have hlocks := B.notSynchronized
  subst hsz
  have hD := hD0.self (sz := s.heap.size)
  generalize hAe : va_A [(a_p0, .inr (2, [.ref a_p0_seatings, .int p0_listed, .int p0_size])), (a_p0_seatings, .inl (cI, p0_seatings_n, .inl p0_seatings_v)), (a_p1, .inr (3, [.int p1_round, .int p1_byTurns, .int p1_apart, .int p1_people, .int p1_women, .long p1_couples, .long p1_quarrels, .long p1_togethers, .long p1_barred, .ref a_p1_worths])), (a_p2, .inl (cI, 64, .inl p2_v))] s.heap.size = A at hD ⊢
  have hA : ∀ q : Nat, s.heap.size ≤ q → A q := fun q h => by rw [← hAe]; exact Or.inr h
  have hS : va_S A s.heap s.heap [] := va_S.rf
  have hP : va_P (dC, dI) vwCl [(a_p0, .inr (2, [.ref a_p0_seatings, .int p0_listed, .int p0_size])), (a_p0_seatings, .inl (cI, p0_seatings_n, .inl p0_seatings_v)), (a_p1, .inr (3, [.int p1_round, .int p1_byTurns, .int p1_apart, .int p1_people, .int p1_women, .long p1_couples, .long p1_quarrels, .long p1_togethers, .long p1_barred, .ref a_p1_worths])), (a_p2, .inl (cI, 64, .inl p2_v))] s.heap := hP
  have hl := lv_entry ([.ref a_p0, .ref a_p1, .ref a_p2, .int x3]) (n := 8) (Nat.le_of_ble_eq_true rfl)
  rw [lg_entry_eq]
  generalize (lg_sl ([.ref a_p0, .ref a_p1, .ref a_p2, .int x3]) ++ List.replicate (8 - (lg_sl ([.ref a_p0, .ref a_p1, .ref a_p2, .int x3])).length) Slot.unset).toArray = ls at hl ⊢
  have hl : lv_has ls 8 [(0, .ref a_p0), (1, .ref a_p1), (2, .ref a_p2), (3, .int x3)] := hl
  refine pw_Wq (R := rm_X2_firstOfLeast) (fun Q hQ => ?_)
  obtain ⟨locs, elocs⟩ : ∃ y : List Loc, y = [] := ⟨_, rfl⟩
  rw [← elocs] at hS ⊢
  have h := hc
  unfold f_X2_firstOfLeast at h
  refine lv_bipush (v := (-9)) hx hb dX2_firstOfLeast_0 (by decide) ?_
  refine lv_istore (lv' := [(4, .int (-9)), (0, .ref a_p0), (1, .ref a_p1), (2, .ref a_p2), (3, .int x3)]) hx hb dX2_firstOfLeast_2 hl (by decide) rfl (fun ls hl => ?_)
  refine lv_iconst (v := 0) hx hb dX2_firstOfLeast_4 (by decide) ?_
  refine lv_istore (lv' := [(5, .int 0), (4, .int (-9)), (0, .ref a_p0), (1, .ref a_p1), (2, .ref a_p2), (3, .int x3)]) hx hb dX2_firstOfLeast_5 hl (by decide) rfl (fun ls hl => ?_)
  refine lv_iconst (v := 0) hx hb dX2_firstOfLeast_7 (by decide) ?_
  refine lv_istore (lv' := [(6, .int 0), (5, .int 0), (4, .int (-9)), (0, .ref a_p0), (1, .ref a_p1), (2, .ref a_p2), (3, .int x3)]) hx hb dX2_firstOfLeast_8 hl (by decide) rfl (fun ls hl => ?_)
  have hl := lv_sub (l' := [(0, .ref a_p0), (1, .ref a_p1), (2, .ref a_p2), (3, .int x3), (4, .int (-9)), (5, .int 0), (6, .int 0)]) hl [3, 4, 5, 6, 2, 1, 0] rfl
  obtain ⟨xx11, hL12, h⟩ := pw_bd_e h
  refine lw_X2_firstOfLeast_10 hx hb hml hown hts hA hK a_p0 a_p0_seatings a_p1 a_p1_worths a_p2 x3 p0_listed p0_size p0_seatings_v p0_seatings_n p1_round p1_byTurns p1_apart p1_people p1_women p1_couples p1_quarrels p1_togethers p1_barred p2_v pw_FU (-9) 0 0 xx11 hL12 ?_ _ locs ls hP hD hS hl
  intro y13 ex H locs ls hP hD hS hl
  subst ex
  have h := pw_u1_e h
  refine lv_iload hx hb dX2_firstOfLeast_60 (lv_at hl 0 rfl) ?_
  rw [hQ]
  exact W.iret (v := y13) hx hb hr (fun t ht hW => ⟨⟨y13, (), rfl, hc.trans h.symm, by rw [ht]; exact hP, va_K.moved hW.alike hK, hD⟩, hS.F ht⟩) hS.2.2 dX2_firstOfLeast_62
