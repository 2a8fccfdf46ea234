/-! X0_init -/
theorem lk_X0_init_oi : Cond.methodLink RX0 3 objectInit ∈ wsX0_init := by decide +kernel
theorem lk_X0_init_on : Cond.instanceMethod objectInit ∈ wsX0_init := by decide +kernel
theorem lk_X0_init_oc : Cond.code objectInit ⟨#[0xb1]⟩ 1 none ∈ wsX0_init := by decide +kernel
theorem lk_X0_init_acI : Cond.arrayClass .int ∈ wsX0_init := by decide +kernel
theorem li_X0_init_X0 : ∀ w ∈ u_ws RX0 TX0 3, w ∈ wsX0_init := fun w h => List.mem_cons_of_mem _ (List.mem_append_right _ h)
theorem lk_X0_init_9 : Cond.fieldLink RX0 9 "NoWifeBeside$Acts" "before" "[I" ∈ wsX0_init := by decide +kernel
theorem lk_X0_init_acZ : Cond.arrayClass .boolean ∈ wsX0_init := by decide +kernel
theorem lk_X0_init_15 : Cond.fieldLink RX0 15 "NoWifeBeside$Acts" "dinners" "[Z" ∈ wsX0_init := by decide +kernel
theorem lk_X0_init_19 : Cond.fieldLink RX0 19 "NoWifeBeside$Acts" "size" "I" ∈ wsX0_init := by decide +kernel
abbrev rm_X0_init : Room := { frames := 1, cells := 2, slots := 32, locals := 24 }
set_option maxRecDepth 100000 in
set_option maxHeartbeats 4000000 in
theorem c_X0_init (l : Launch) (dC : Nat → ClassId) (dI : Nat → Nat → Nat) (cI cZ : ClassId) (sz : Nat) (a_p0 : Nat) : Met l yX0_init wsX0_init rm_X0_init (va_Pc [.ref a_p0] (pw_pre (dC, dI) cI cZ [(a_p0, .inr (0, [.null, .null, .int 0]))] sz)) (va_Qv (fun (u : Nat × Nat) => True) (fun u t => pw_post (dC, dI) cI cZ (va_A [(a_p0, .inr (0, [.null, .null, .int 0]))] sz) [(a_p0, .inr (0, [.ref u.1, .ref u.2, .int 0])), (u.1, .inl (cI, 16, .inl (fun _ => 0))), (u.2, .inl (cZ, 16, .inl (fun _ => 0)))] t) (va_A [(a_p0, .inr (0, [.null, .null, .int 0]))] sz)) 2 32 (va_A [(a_p0, .inr (0, [.null, .null, .int 0]))] sz) := by
  refine Met.ofW (cc := cX0_init) (maxL := 1) (ret := none) (by decide) rfl ?_
  intro p e s m args below meth c s₁ B hml hv
  obtain ⟨rfl, hsz, hP, hK, hD0⟩ := hv
  have hx := B.exec
  have hb := B.bytes
  have hr := B.returns
  have hts := atoms_spec (ws := wsX0_init) B.pre
  have hown : s.vm.findClass RX0 = some m.cls := findClass_of_methodNamed B.named
  have hlocks := B.notSynchronized
  have hin : meth.name = "<init>" := (name_of_methodNamed B.named B.method).1
  subst hsz
  have hD := hD0.self (sz := s.heap.size)
  generalize hAe : va_A [(a_p0, .inr (0, [.null, .null, .int 0]))] s.heap.size = A at hD ⊢
  have hA : ∀ q : Nat, s.heap.size ≤ q → A q := fun q h => by rw [← hAe]; exact Or.inr h
  have hS : va_S A s.heap s.heap [] := va_S.rf
  have hP : va_P (dC, dI) vwCl [(a_p0, .inr (0, [.null, .null, .int 0]))] s.heap := hP
  have hl := lv_entry ([.ref a_p0]) (n := 1) (Nat.le_of_ble_eq_true rfl)
  rw [lg_entry_eq]
  generalize (lg_sl ([.ref a_p0]) ++ List.replicate (1 - (lg_sl ([.ref a_p0])).length) Slot.unset).toArray = ls at hl ⊢
  have hl : lv_has ls 1 [(0, .ref a_p0)] := hl
  refine pw_Wq (R := rm_X0_init) (fun Q hQ => ?_)
  obtain ⟨locs, elocs⟩ : ∃ y : List Loc, y = [] := ⟨_, rfl⟩
  rw [← elocs] at hS ⊢
  refine lv_aload_n hx hb dX0_init_0 rfl (lv_at hl 0 rfl) ?_
  refine W.objInit hx hb hown (hts _ lk_X0_init_oi) (hts _ lk_X0_init_on) (hts _ lk_X0_init_oc) rfl (by rw [hml]; exact hl.1) rfl dX0_init_1 (Nat.le_of_ble_eq_true rfl) (Nat.le_of_ble_eq_true rfl) ?_
  refine W.eq (g2 := F0 m 4 ls []) rfl ?_
  refine lv_aload_n hx hb dX0_init_4 rfl (lv_at hl 0 rfl) ?_
  refine lv_bipush (v := 16) hx hb dX0_init_5 (by decide) ?_
  have hcap := (hts _ lk_X0_init_acI)
  refine va_newa (atype := .int) (a0 := (16, .inl (fun _ => 0))) (ty := .int) (N' := 16) hx hb hcap rfl hK hP hD hS hA (fun cA => rfl) (by decide +kernel) (by decide +kernel) (by show 16 * 4 ≤ 536870912; omega) (by decide) (by decide) dX0_init_7 (fun a1 cA H hK1 hP hD hS => ?_)
  have hcA := (pw_tysI hK1).symm
  subst hcA
  have hP : va_P (dC, dI) vwCl [(a_p0, .inr (0, [.null, .null, .int 0])), (a1, .inl (cI, 16, .inl (fun _ => 0)))] H := hP
  have hD : va_D A [(a_p0, .inr (0, [.null, .null, .int 0])), (a1, .inl (cI, 16, .inl (fun _ => 0)))] := hD
  refine W.widen (k := 1) (n := 16) (by omega) (by omega) ?_
  refine va_putF (D := (dC, dI)) (ci := 0) (v := .ref a1) (ty := (.array .int)) (C := RX0) (T := TX0) (N := 3) hx hb hts li_X0_init_X0 tyX0 tyX0_ok nmX0 hown hK hP hD hS 0 rfl rfl 0 (by decide) (hts _ lk_X0_init_9) (fun _ h9 => h9) rfl hin rfl (by decide +kernel) rfl rfl (Nat.le_of_ble_eq_true rfl) dX0_init_9 (fun H locs hP hD hS => ?_)
  have hP : va_P (dC, dI) vwCl [(a_p0, .inr (0, [.ref a1, .null, .int 0])), (a1, .inl (cI, 16, .inl (fun _ => 0)))] H := hP
  have hD : va_D A [(a_p0, .inr (0, [.ref a1, .null, .int 0])), (a1, .inl (cI, 16, .inl (fun _ => 0)))] := hD
  refine lv_aload_n hx hb dX0_init_12 rfl (lv_at hl 0 rfl) ?_
  refine lv_bipush (v := 16) hx hb dX0_init_13 (by decide) ?_
  have hcap := (hts _ lk_X0_init_acZ)
  refine va_newa (atype := .boolean) (a0 := (16, .inl (fun _ => 0))) (ty := .boolean) (N' := 16) hx hb hcap rfl hK hP hD hS hA (fun cA => rfl) (by decide +kernel) (by decide +kernel) (by show 16 * 1 ≤ 536870912; omega) (by decide) (by decide) dX0_init_15 (fun a2 cA H hK1 hP hD hS => ?_)
  have hcA := (pw_tysZ hK1).symm
  subst hcA
  have hP : va_P (dC, dI) vwCl [(a_p0, .inr (0, [.ref a1, .null, .int 0])), (a1, .inl (cI, 16, .inl (fun _ => 0))), (a2, .inl (cZ, 16, .inl (fun _ => 0)))] H := hP
  have hD : va_D A [(a_p0, .inr (0, [.ref a1, .null, .int 0])), (a1, .inl (cI, 16, .inl (fun _ => 0))), (a2, .inl (cZ, 16, .inl (fun _ => 0)))] := hD
  refine W.widen (k := 2) (n := 32) (by omega) (by omega) ?_
  refine va_putF (D := (dC, dI)) (ci := 0) (v := .ref a2) (ty := (.array .boolean)) (C := RX0) (T := TX0) (N := 3) hx hb hts li_X0_init_X0 tyX0 tyX0_ok nmX0 hown hK hP hD hS 0 rfl rfl 1 (by decide) (hts _ lk_X0_init_15) (fun _ h9 => h9) rfl hin rfl (by decide +kernel) rfl rfl (Nat.le_of_ble_eq_true rfl) dX0_init_17 (fun H locs hP hD hS => ?_)
  have hP : va_P (dC, dI) vwCl [(a_p0, .inr (0, [.ref a1, .ref a2, .int 0])), (a1, .inl (cI, 16, .inl (fun _ => 0))), (a2, .inl (cZ, 16, .inl (fun _ => 0)))] H := hP
  have hD : va_D A [(a_p0, .inr (0, [.ref a1, .ref a2, .int 0])), (a1, .inl (cI, 16, .inl (fun _ => 0))), (a2, .inl (cZ, 16, .inl (fun _ => 0)))] := hD
  refine lv_aload_n hx hb dX0_init_20 rfl (lv_at hl 0 rfl) ?_
  refine lv_iconst (v := 0) hx hb dX0_init_21 (by decide) ?_
  refine va_put (D := (dC, dI)) (ci := 0) (v := .int 0) (ty := .int) (C := RX0) (T := TX0) (N := 3) hx hb hts li_X0_init_X0 tyX0 tyX0_ok nmX0 hown hK hP hD hS 0 rfl rfl 2 (by decide) (hts _ lk_X0_init_19) (fun _ h9 => h9) rfl (by decide +kernel) rfl rfl (Nat.le_of_ble_eq_true rfl) dX0_init_22 (fun H locs hP hD hS => ?_)
  have hP : va_P (dC, dI) vwCl [(a_p0, .inr (0, [.ref a1, .ref a2, .int 0])), (a1, .inl (cI, 16, .inl (fun _ => 0))), (a2, .inl (cZ, 16, .inl (fun _ => 0)))] H := hP
  have hD : va_D A [(a_p0, .inr (0, [.ref a1, .ref a2, .int 0])), (a1, .inl (cI, 16, .inl (fun _ => 0))), (a2, .inl (cZ, 16, .inl (fun _ => 0)))] := hD
  rw [hQ]
  refine W.widen (k := 2) (n := 32) (by decide) (by decide) ?_
  exact W.vret hx hb hr (fun t ht hW => ⟨⟨(a1, a2), rfl, trivial, by rw [ht]; exact hP, va_K.moved hW.alike hK, hD⟩, hS.F ht⟩) hS.2.2 dX0_init_25
/-! X1_init -/
theorem lk_X1_init_oi : Cond.methodLink RX1 3 objectInit ∈ wsX1_init := by decide +kernel
theorem lk_X1_init_on : Cond.instanceMethod objectInit ∈ wsX1_init := by decide +kernel
theorem lk_X1_init_oc : Cond.code objectInit ⟨#[0xb1]⟩ 1 none ∈ wsX1_init := by decide +kernel
theorem lk_X1_init_acI : Cond.arrayClass .int ∈ wsX1_init := by decide +kernel
theorem li_X1_init_X1 : ∀ w ∈ u_ws RX1 TX1 4, w ∈ wsX1_init := fun w h => List.mem_cons_of_mem _ (List.mem_append_right _ h)
theorem lk_X1_init_9 : Cond.fieldLink RX1 9 "NoWifeBeside$Gossips" "ones" "[I" ∈ wsX1_init := by decide +kernel
theorem lk_X1_init_15 : Cond.fieldLink RX1 15 "NoWifeBeside$Gossips" "others" "[I" ∈ wsX1_init := by decide +kernel
theorem lk_X1_init_acZ : Cond.arrayClass .boolean ∈ wsX1_init := by decide +kernel
theorem lk_X1_init_18 : Cond.fieldLink RX1 18 "NoWifeBeside$Gossips" "besides" "[Z" ∈ wsX1_init := by decide +kernel
theorem lk_X1_init_22 : Cond.fieldLink RX1 22 "NoWifeBeside$Gossips" "size" "I" ∈ wsX1_init := by decide +kernel
abbrev rm_X1_init : Room := { frames := 1, cells := 3, slots := 24, locals := 24 }
set_option maxRecDepth 100000 in
set_option maxHeartbeats 4000000 in
theorem c_X1_init (l : Launch) (dC : Nat → ClassId) (dI : Nat → Nat → Nat) (cI cZ : ClassId) (sz : Nat) (a_p0 : Nat) : Met l yX1_init wsX1_init rm_X1_init (va_Pc [.ref a_p0] (pw_pre (dC, dI) cI cZ [(a_p0, .inr (1, [.null, .null, .null, .int 0]))] sz)) (va_Qv (fun (u : Nat × Nat × Nat) => True) (fun u t => pw_post (dC, dI) cI cZ (va_A [(a_p0, .inr (1, [.null, .null, .null, .int 0]))] sz) [(a_p0, .inr (1, [.ref u.1, .ref u.2.1, .ref u.2.2, .int 0])), (u.1, .inl (cI, 8, .inl (fun _ => 0))), (u.2.1, .inl (cI, 8, .inl (fun _ => 0))), (u.2.2, .inl (cZ, 8, .inl (fun _ => 0)))] t) (va_A [(a_p0, .inr (1, [.null, .null, .null, .int 0]))] sz)) 3 24 (va_A [(a_p0, .inr (1, [.null, .null, .null, .int 0]))] sz) := by
  refine Met.ofW (cc := cX1_init) (maxL := 1) (ret := none) (by decide) rfl ?_
  intro p e s m args below meth c s₁ B hml hv
  obtain ⟨rfl, hsz, hP, hK, hD0⟩ := hv
  have hx := B.exec
  have hb := B.bytes
  have hr := B.returns
  have hts := atoms_spec (ws := wsX1_init) B.pre
  have hown : s.vm.findClass RX1 = some m.cls := findClass_of_methodNamed B.named
  have hlocks := B.notSynchronized
  have hin : meth.name = "<init>" := (name_of_methodNamed B.named B.method).1
  subst hsz
  have hD := hD0.self (sz := s.heap.size)
  generalize hAe : va_A [(a_p0, .inr (1, [.null, .null, .null, .int 0]))] s.heap.size = A at hD ⊢
  have hA : ∀ q : Nat, s.heap.size ≤ q → A q := fun q h => by rw [← hAe]; exact Or.inr h
  have hS : va_S A s.heap s.heap [] := va_S.rf
  have hP : va_P (dC, dI) vwCl [(a_p0, .inr (1, [.null, .null, .null, .int 0]))] s.heap := hP
  have hl := lv_entry ([.ref a_p0]) (n := 1) (Nat.le_of_ble_eq_true rfl)
  rw [lg_entry_eq]
  generalize (lg_sl ([.ref a_p0]) ++ List.replicate (1 - (lg_sl ([.ref a_p0])).length) Slot.unset).toArray = ls at hl ⊢
  have hl : lv_has ls 1 [(0, .ref a_p0)] := hl
  refine pw_Wq (R := rm_X1_init) (fun Q hQ => ?_)
  obtain ⟨locs, elocs⟩ : ∃ y : List Loc, y = [] := ⟨_, rfl⟩
  rw [← elocs] at hS ⊢
  refine lv_aload_n hx hb dX1_init_0 rfl (lv_at hl 0 rfl) ?_
  refine W.objInit hx hb hown (hts _ lk_X1_init_oi) (hts _ lk_X1_init_on) (hts _ lk_X1_init_oc) rfl (by rw [hml]; exact hl.1) rfl dX1_init_1 (Nat.le_of_ble_eq_true rfl) (Nat.le_of_ble_eq_true rfl) ?_
  refine W.eq (g2 := F0 m 4 ls []) rfl ?_
  refine lv_aload_n hx hb dX1_init_4 rfl (lv_at hl 0 rfl) ?_
  refine lv_bipush (v := 8) hx hb dX1_init_5 (by decide) ?_
  have hcap := (hts _ lk_X1_init_acI)
  refine va_newa (atype := .int) (a0 := (8, .inl (fun _ => 0))) (ty := .int) (N' := 8) hx hb hcap rfl hK hP hD hS hA (fun cA => rfl) (by decide +kernel) (by decide +kernel) (by show 8 * 4 ≤ 536870912; omega) (by decide) (by decide) dX1_init_7 (fun a1 cA H hK1 hP hD hS => ?_)
  have hcA := (pw_tysI hK1).symm
  subst hcA
  have hP : va_P (dC, dI) vwCl [(a_p0, .inr (1, [.null, .null, .null, .int 0])), (a1, .inl (cI, 8, .inl (fun _ => 0)))] H := hP
  have hD : va_D A [(a_p0, .inr (1, [.null, .null, .null, .int 0])), (a1, .inl (cI, 8, .inl (fun _ => 0)))] := hD
  refine W.widen (k := 1) (n := 8) (by omega) (by omega) ?_
  refine va_putF (D := (dC, dI)) (ci := 1) (v := .ref a1) (ty := (.array .int)) (C := RX1) (T := TX1) (N := 4) hx hb hts li_X1_init_X1 tyX1 tyX1_ok nmX1 hown hK hP hD hS 0 rfl rfl 0 (by decide) (hts _ lk_X1_init_9) (fun _ h9 => h9) rfl hin rfl (by decide +kernel) rfl rfl (Nat.le_of_ble_eq_true rfl) dX1_init_9 (fun H locs hP hD hS => ?_)
  have hP : va_P (dC, dI) vwCl [(a_p0, .inr (1, [.ref a1, .null, .null, .int 0])), (a1, .inl (cI, 8, .inl (fun _ => 0)))] H := hP
  have hD : va_D A [(a_p0, .inr (1, [.ref a1, .null, .null, .int 0])), (a1, .inl (cI, 8, .inl (fun _ => 0)))] := hD
  refine lv_aload_n hx hb dX1_init_12 rfl (lv_at hl 0 rfl) ?_
  refine lv_bipush (v := 8) hx hb dX1_init_13 (by decide) ?_
  have hcap := (hts _ lk_X1_init_acI)
  refine va_newa (atype := .int) (a0 := (8, .inl (fun _ => 0))) (ty := .int) (N' := 8) hx hb hcap rfl hK hP hD hS hA (fun cA => rfl) (by decide +kernel) (by decide +kernel) (by show 8 * 4 ≤ 536870912; omega) (by decide) (by decide) dX1_init_15 (fun a2 cA H hK1 hP hD hS => ?_)
  have hcA := (pw_tysI hK1).symm
  subst hcA
  have hP : va_P (dC, dI) vwCl [(a_p0, .inr (1, [.ref a1, .null, .null, .int 0])), (a1, .inl (cI, 8, .inl (fun _ => 0))), (a2, .inl (cI, 8, .inl (fun _ => 0)))] H := hP
  have hD : va_D A [(a_p0, .inr (1, [.ref a1, .null, .null, .int 0])), (a1, .inl (cI, 8, .inl (fun _ => 0))), (a2, .inl (cI, 8, .inl (fun _ => 0)))] := hD
  refine W.widen (k := 2) (n := 16) (by omega) (by omega) ?_
  refine va_putF (D := (dC, dI)) (ci := 1) (v := .ref a2) (ty := (.array .int)) (C := RX1) (T := TX1) (N := 4) hx hb hts li_X1_init_X1 tyX1 tyX1_ok nmX1 hown hK hP hD hS 0 rfl rfl 1 (by decide) (hts _ lk_X1_init_15) (fun _ h9 => h9) rfl hin rfl (by decide +kernel) rfl rfl (Nat.le_of_ble_eq_true rfl) dX1_init_17 (fun H locs hP hD hS => ?_)
  have hP : va_P (dC, dI) vwCl [(a_p0, .inr (1, [.ref a1, .ref a2, .null, .int 0])), (a1, .inl (cI, 8, .inl (fun _ => 0))), (a2, .inl (cI, 8, .inl (fun _ => 0)))] H := hP
  have hD : va_D A [(a_p0, .inr (1, [.ref a1, .ref a2, .null, .int 0])), (a1, .inl (cI, 8, .inl (fun _ => 0))), (a2, .inl (cI, 8, .inl (fun _ => 0)))] := hD
  refine lv_aload_n hx hb dX1_init_20 rfl (lv_at hl 0 rfl) ?_
  refine lv_bipush (v := 8) hx hb dX1_init_21 (by decide) ?_
  have hcap := (hts _ lk_X1_init_acZ)
  refine va_newa (atype := .boolean) (a0 := (8, .inl (fun _ => 0))) (ty := .boolean) (N' := 8) hx hb hcap rfl hK hP hD hS hA (fun cA => rfl) (by decide +kernel) (by decide +kernel) (by show 8 * 1 ≤ 536870912; omega) (by decide) (by decide) dX1_init_23 (fun a3 cA H hK1 hP hD hS => ?_)
  have hcA := (pw_tysZ hK1).symm
  subst hcA
  have hP : va_P (dC, dI) vwCl [(a_p0, .inr (1, [.ref a1, .ref a2, .null, .int 0])), (a1, .inl (cI, 8, .inl (fun _ => 0))), (a2, .inl (cI, 8, .inl (fun _ => 0))), (a3, .inl (cZ, 8, .inl (fun _ => 0)))] H := hP
  have hD : va_D A [(a_p0, .inr (1, [.ref a1, .ref a2, .null, .int 0])), (a1, .inl (cI, 8, .inl (fun _ => 0))), (a2, .inl (cI, 8, .inl (fun _ => 0))), (a3, .inl (cZ, 8, .inl (fun _ => 0)))] := hD
  refine W.widen (k := 3) (n := 24) (by omega) (by omega) ?_
  refine va_putF (D := (dC, dI)) (ci := 1) (v := .ref a3) (ty := (.array .boolean)) (C := RX1) (T := TX1) (N := 4) hx hb hts li_X1_init_X1 tyX1 tyX1_ok nmX1 hown hK hP hD hS 0 rfl rfl 2 (by decide) (hts _ lk_X1_init_18) (fun _ h9 => h9) rfl hin rfl (by decide +kernel) rfl rfl (Nat.le_of_ble_eq_true rfl) dX1_init_25 (fun H locs hP hD hS => ?_)
  have hP : va_P (dC, dI) vwCl [(a_p0, .inr (1, [.ref a1, .ref a2, .ref a3, .int 0])), (a1, .inl (cI, 8, .inl (fun _ => 0))), (a2, .inl (cI, 8, .inl (fun _ => 0))), (a3, .inl (cZ, 8, .inl (fun _ => 0)))] H := hP
  have hD : va_D A [(a_p0, .inr (1, [.ref a1, .ref a2, .ref a3, .int 0])), (a1, .inl (cI, 8, .inl (fun _ => 0))), (a2, .inl (cI, 8, .inl (fun _ => 0))), (a3, .inl (cZ, 8, .inl (fun _ => 0)))] := hD
  refine lv_aload_n hx hb dX1_init_28 rfl (lv_at hl 0 rfl) ?_
  refine lv_iconst (v := 0) hx hb dX1_init_29 (by decide) ?_
  refine va_put (D := (dC, dI)) (ci := 1) (v := .int 0) (ty := .int) (C := RX1) (T := TX1) (N := 4) hx hb hts li_X1_init_X1 tyX1 tyX1_ok nmX1 hown hK hP hD hS 0 rfl rfl 3 (by decide) (hts _ lk_X1_init_22) (fun _ h9 => h9) rfl (by decide +kernel) rfl rfl (Nat.le_of_ble_eq_true rfl) dX1_init_30 (fun H locs hP hD hS => ?_)
  have hP : va_P (dC, dI) vwCl [(a_p0, .inr (1, [.ref a1, .ref a2, .ref a3, .int 0])), (a1, .inl (cI, 8, .inl (fun _ => 0))), (a2, .inl (cI, 8, .inl (fun _ => 0))), (a3, .inl (cZ, 8, .inl (fun _ => 0)))] H := hP
  have hD : va_D A [(a_p0, .inr (1, [.ref a1, .ref a2, .ref a3, .int 0])), (a1, .inl (cI, 8, .inl (fun _ => 0))), (a2, .inl (cI, 8, .inl (fun _ => 0))), (a3, .inl (cZ, 8, .inl (fun _ => 0)))] := hD
  rw [hQ]
  refine W.widen (k := 3) (n := 24) (by decide) (by decide) ?_
  exact W.vret hx hb hr (fun t ht hW => ⟨⟨(a1, a2, a3), rfl, trivial, by rw [ht]; exact hP, va_K.moved hW.alike hK, hD⟩, hS.F ht⟩) hS.2.2 dX1_init_33
/-! X2_init -/
theorem lk_X2_init_oi : Cond.methodLink RX2 3 objectInit ∈ wsX2_init := by decide +kernel
theorem lk_X2_init_on : Cond.instanceMethod objectInit ∈ wsX2_init := by decide +kernel
theorem lk_X2_init_oc : Cond.code objectInit ⟨#[0xb1]⟩ 1 none ∈ wsX2_init := by decide +kernel
theorem lk_X2_init_acI : Cond.arrayClass .int ∈ wsX2_init := by decide +kernel
theorem li_X2_init_X2 : ∀ w ∈ u_ws RX2 TX2 3, w ∈ wsX2_init := fun w h => List.mem_cons_of_mem _ (List.mem_append_right _ h)
theorem lk_X2_init_9 : Cond.fieldLink RX2 9 "NoWifeBeside$Lawful" "seatings" "[I" ∈ wsX2_init := by decide +kernel
theorem lk_X2_init_15 : Cond.fieldLink RX2 15 "NoWifeBeside$Lawful" "listed" "Z" ∈ wsX2_init := by decide +kernel
theorem lk_X2_init_19 : Cond.fieldLink RX2 19 "NoWifeBeside$Lawful" "size" "I" ∈ wsX2_init := by decide +kernel
abbrev rm_X2_init : Room := { frames := 1, cells := 1, slots := 1, locals := 24 }
set_option maxRecDepth 100000 in
set_option maxHeartbeats 4000000 in
theorem c_X2_init (l : Launch) (dC : Nat → ClassId) (dI : Nat → Nat → Nat) (cI cZ : ClassId) (sz : Nat) (a_p0 : Nat) : Met l yX2_init wsX2_init rm_X2_init (va_Pc [.ref a_p0] (pw_pre (dC, dI) cI cZ [(a_p0, .inr (2, [.null, .int 0, .int 0]))] sz)) (va_Qv (fun (u : Nat) => True) (fun u t => pw_post (dC, dI) cI cZ (va_A [(a_p0, .inr (2, [.null, .int 0, .int 0]))] sz) [(a_p0, .inr (2, [.ref u, .int 0, .int 0])), (u, .inl (cI, 1, .inl (fun _ => 0)))] t) (va_A [(a_p0, .inr (2, [.null, .int 0, .int 0]))] sz)) 1 1 (va_A [(a_p0, .inr (2, [.null, .int 0, .int 0]))] sz) := by
  refine Met.ofW (cc := cX2_init) (maxL := 1) (ret := none) (by decide) rfl ?_
  intro p e s m args below meth c s₁ B hml hv
  obtain ⟨rfl, hsz, hP, hK, hD0⟩ := hv
  have hx := B.exec
  have hb := B.bytes
  have hr := B.returns
  have hts := atoms_spec (ws := wsX2_init) B.pre
  have hown : s.vm.findClass RX2 = some m.cls := findClass_of_methodNamed B.named
  have hlocks := B.notSynchronized
  have hin : meth.name = "<init>" := (name_of_methodNamed B.named B.method).1
  subst hsz
  have hD := hD0.self (sz := s.heap.size)
  generalize hAe : va_A [(a_p0, .inr (2, [.null, .int 0, .int 0]))] s.heap.size = A at hD ⊢
  have hA : ∀ q : Nat, s.heap.size ≤ q → A q := fun q h => by rw [← hAe]; exact Or.inr h
  have hS : va_S A s.heap s.heap [] := va_S.rf
  have hP : va_P (dC, dI) vwCl [(a_p0, .inr (2, [.null, .int 0, .int 0]))] s.heap := hP
  have hl := lv_entry ([.ref a_p0]) (n := 1) (Nat.le_of_ble_eq_true rfl)
  rw [lg_entry_eq]
  generalize (lg_sl ([.ref a_p0]) ++ List.replicate (1 - (lg_sl ([.ref a_p0])).length) Slot.unset).toArray = ls at hl ⊢
  have hl : lv_has ls 1 [(0, .ref a_p0)] := hl
  refine pw_Wq (R := rm_X2_init) (fun Q hQ => ?_)
  obtain ⟨locs, elocs⟩ : ∃ y : List Loc, y = [] := ⟨_, rfl⟩
  rw [← elocs] at hS ⊢
  refine lv_aload_n hx hb dX2_init_0 rfl (lv_at hl 0 rfl) ?_
  refine W.objInit hx hb hown (hts _ lk_X2_init_oi) (hts _ lk_X2_init_on) (hts _ lk_X2_init_oc) rfl (by rw [hml]; exact hl.1) rfl dX2_init_1 (Nat.le_of_ble_eq_true rfl) (Nat.le_of_ble_eq_true rfl) ?_
  refine W.eq (g2 := F0 m 4 ls []) rfl ?_
  refine lv_aload_n hx hb dX2_init_4 rfl (lv_at hl 0 rfl) ?_
  refine lv_iconst (v := 1) hx hb dX2_init_5 (by decide) ?_
  have hcap := (hts _ lk_X2_init_acI)
  refine va_newa (atype := .int) (a0 := (1, .inl (fun _ => 0))) (ty := .int) (N' := 1) hx hb hcap rfl hK hP hD hS hA (fun cA => rfl) (by decide +kernel) (by decide +kernel) (by show 1 * 4 ≤ 536870912; omega) (by decide) (by decide) dX2_init_6 (fun a1 cA H hK1 hP hD hS => ?_)
  have hcA := (pw_tysI hK1).symm
  subst hcA
  have hP : va_P (dC, dI) vwCl [(a_p0, .inr (2, [.null, .int 0, .int 0])), (a1, .inl (cI, 1, .inl (fun _ => 0)))] H := hP
  have hD : va_D A [(a_p0, .inr (2, [.null, .int 0, .int 0])), (a1, .inl (cI, 1, .inl (fun _ => 0)))] := hD
  refine W.widen (k := 1) (n := 1) (by omega) (by omega) ?_
  refine va_put (D := (dC, dI)) (ci := 2) (v := .ref a1) (ty := (.array .int)) (C := RX2) (T := TX2) (N := 3) hx hb hts li_X2_init_X2 tyX2 tyX2_ok nmX2 hown hK hP hD hS 0 rfl rfl 0 (by decide) (hts _ lk_X2_init_9) (fun _ h9 => h9) rfl (by decide +kernel) rfl rfl (Nat.le_of_ble_eq_true rfl) dX2_init_8 (fun H locs hP hD hS => ?_)
  have hP : va_P (dC, dI) vwCl [(a_p0, .inr (2, [.ref a1, .int 0, .int 0])), (a1, .inl (cI, 1, .inl (fun _ => 0)))] H := hP
  have hD : va_D A [(a_p0, .inr (2, [.ref a1, .int 0, .int 0])), (a1, .inl (cI, 1, .inl (fun _ => 0)))] := hD
  refine lv_aload_n hx hb dX2_init_11 rfl (lv_at hl 0 rfl) ?_
  refine lv_iconst (v := 0) hx hb dX2_init_12 (by decide) ?_
  refine va_put (D := (dC, dI)) (ci := 2) (v := .int 0) (ty := .boolean) (C := RX2) (T := TX2) (N := 3) hx hb hts li_X2_init_X2 tyX2 tyX2_ok nmX2 hown hK hP hD hS 0 rfl rfl 1 (by decide) (hts _ lk_X2_init_15) (fun _ h9 => h9) rfl (by decide +kernel) rfl rfl (Nat.le_of_ble_eq_true rfl) dX2_init_13 (fun H locs hP hD hS => ?_)
  have hP : va_P (dC, dI) vwCl [(a_p0, .inr (2, [.ref a1, .int 0, .int 0])), (a1, .inl (cI, 1, .inl (fun _ => 0)))] H := hP
  have hD : va_D A [(a_p0, .inr (2, [.ref a1, .int 0, .int 0])), (a1, .inl (cI, 1, .inl (fun _ => 0)))] := hD
  refine lv_aload_n hx hb dX2_init_16 rfl (lv_at hl 0 rfl) ?_
  refine lv_iconst (v := 0) hx hb dX2_init_17 (by decide) ?_
  refine va_put (D := (dC, dI)) (ci := 2) (v := .int 0) (ty := .int) (C := RX2) (T := TX2) (N := 3) hx hb hts li_X2_init_X2 tyX2 tyX2_ok nmX2 hown hK hP hD hS 0 rfl rfl 2 (by decide) (hts _ lk_X2_init_19) (fun _ h9 => h9) rfl (by decide +kernel) rfl rfl (Nat.le_of_ble_eq_true rfl) dX2_init_18 (fun H locs hP hD hS => ?_)
  have hP : va_P (dC, dI) vwCl [(a_p0, .inr (2, [.ref a1, .int 0, .int 0])), (a1, .inl (cI, 1, .inl (fun _ => 0)))] H := hP
  have hD : va_D A [(a_p0, .inr (2, [.ref a1, .int 0, .int 0])), (a1, .inl (cI, 1, .inl (fun _ => 0)))] := hD
  rw [hQ]
  refine W.widen (k := 1) (n := 1) (by decide) (by decide) ?_
  exact W.vret hx hb hr (fun t ht hW => ⟨⟨a1, rfl, trivial, by rw [ht]; exact hP, va_K.moved hW.alike hK, hD⟩, hS.F ht⟩) hS.2.2 dX2_init_21
/-! X4_init -/
theorem lk_X4_init_oi : Cond.methodLink RX4 3 objectInit ∈ wsX4_init := by decide +kernel
theorem lk_X4_init_on : Cond.instanceMethod objectInit ∈ wsX4_init := by decide +kernel
theorem lk_X4_init_oc : Cond.code objectInit ⟨#[0xb1]⟩ 1 none ∈ wsX4_init := by decide +kernel
theorem li_X4_init_X4 : ∀ w ∈ u_ws RX4 TX4 10, w ∈ wsX4_init := fun w h => List.mem_cons_of_mem _ (List.mem_append_right _ h)
theorem lk_X4_init_9 : Cond.fieldLink RX4 9 "NoWifeBeside$Party" "round" "Z" ∈ wsX4_init := by decide +kernel
theorem lk_X4_init_15 : Cond.fieldLink RX4 15 "NoWifeBeside$Party" "byTurns" "Z" ∈ wsX4_init := by decide +kernel
theorem lk_X4_init_18 : Cond.fieldLink RX4 18 "NoWifeBeside$Party" "apart" "Z" ∈ wsX4_init := by decide +kernel
theorem lk_X4_init_21 : Cond.fieldLink RX4 21 "NoWifeBeside$Party" "people" "I" ∈ wsX4_init := by decide +kernel
theorem lk_X4_init_25 : Cond.fieldLink RX4 25 "NoWifeBeside$Party" "women" "I" ∈ wsX4_init := by decide +kernel
theorem lk_X4_init_28 : Cond.fieldLink RX4 28 "NoWifeBeside$Party" "couples" "J" ∈ wsX4_init := by decide +kernel
theorem lk_X4_init_32 : Cond.fieldLink RX4 32 "NoWifeBeside$Party" "quarrels" "J" ∈ wsX4_init := by decide +kernel
theorem lk_X4_init_35 : Cond.fieldLink RX4 35 "NoWifeBeside$Party" "togethers" "J" ∈ wsX4_init := by decide +kernel
theorem lk_X4_init_38 : Cond.fieldLink RX4 38 "NoWifeBeside$Party" "barred" "J" ∈ wsX4_init := by decide +kernel
theorem lk_X4_init_acI : Cond.arrayClass .int ∈ wsX4_init := by decide +kernel
theorem lk_X4_init_43 : Cond.fieldLink RX4 43 "NoWifeBeside$Party" "worths" "[I" ∈ wsX4_init := by decide +kernel
abbrev rm_X4_init : Room := { frames := 1, cells := 1, slots := 64, locals := 24 }
set_option maxRecDepth 100000 in
set_option maxHeartbeats 4000000 in
theorem c_X4_init (l : Launch) (dC : Nat → ClassId) (dI : Nat → Nat → Nat) (cI cZ : ClassId) (sz : Nat) (a_p0 : Nat) : Met l yX4_init wsX4_init rm_X4_init (va_Pc [.ref a_p0] (pw_pre (dC, dI) cI cZ [(a_p0, .inr (3, [.int 0, .int 0, .int 0, .int 0, .int 0, .long 0, .long 0, .long 0, .long 0, .null]))] sz)) (va_Qv (fun (u : Nat) => True) (fun u t => pw_post (dC, dI) cI cZ (va_A [(a_p0, .inr (3, [.int 0, .int 0, .int 0, .int 0, .int 0, .long 0, .long 0, .long 0, .long 0, .null]))] sz) [(a_p0, .inr (3, [.int 0, .int 0, .int 0, .int 0, .int 0, .long 0, .long 0, .long 0, .long 0, .ref u])), (u, .inl (cI, 64, .inl (fun _ => 0)))] t) (va_A [(a_p0, .inr (3, [.int 0, .int 0, .int 0, .int 0, .int 0, .long 0, .long 0, .long 0, .long 0, .null]))] sz)) 1 64 (va_A [(a_p0, .inr (3, [.int 0, .int 0, .int 0, .int 0, .int 0, .long 0, .long 0, .long 0, .long 0, .null]))] sz) := by
  refine Met.ofW (cc := cX4_init) (maxL := 1) (ret := none) (by decide) rfl ?_
  intro p e s m args below meth c s₁ B hml hv
  obtain ⟨rfl, hsz, hP, hK, hD0⟩ := hv
  have hx := B.exec
  have hb := B.bytes
  have hr := B.returns
  have hts := atoms_spec (ws := wsX4_init) B.pre
  have hown : s.vm.findClass RX4 = some m.cls := findClass_of_methodNamed B.named
  have hlocks := B.notSynchronized
  have hin : meth.name = "<init>" := (name_of_methodNamed B.named B.method).1
  subst hsz
  have hD := hD0.self (sz := s.heap.size)
  generalize hAe : va_A [(a_p0, .inr (3, [.int 0, .int 0, .int 0, .int 0, .int 0, .long 0, .long 0, .long 0, .long 0, .null]))] s.heap.size = A at hD ⊢
  have hA : ∀ q : Nat, s.heap.size ≤ q → A q := fun q h => by rw [← hAe]; exact Or.inr h
  have hS : va_S A s.heap s.heap [] := va_S.rf
  have hP : va_P (dC, dI) vwCl [(a_p0, .inr (3, [.int 0, .int 0, .int 0, .int 0, .int 0, .long 0, .long 0, .long 0, .long 0, .null]))] s.heap := hP
  have hl := lv_entry ([.ref a_p0]) (n := 1) (Nat.le_of_ble_eq_true rfl)
  rw [lg_entry_eq]
  generalize (lg_sl ([.ref a_p0]) ++ List.replicate (1 - (lg_sl ([.ref a_p0])).length) Slot.unset).toArray = ls at hl ⊢
  have hl : lv_has ls 1 [(0, .ref a_p0)] := hl
  refine pw_Wq (R := rm_X4_init) (fun Q hQ => ?_)
  obtain ⟨locs, elocs⟩ : ∃ y : List Loc, y = [] := ⟨_, rfl⟩
  rw [← elocs] at hS ⊢
  refine lv_aload_n hx hb dX4_init_0 rfl (lv_at hl 0 rfl) ?_
  refine W.objInit hx hb hown (hts _ lk_X4_init_oi) (hts _ lk_X4_init_on) (hts _ lk_X4_init_oc) rfl (by rw [hml]; exact hl.1) rfl dX4_init_1 (Nat.le_of_ble_eq_true rfl) (Nat.le_of_ble_eq_true rfl) ?_
  refine W.eq (g2 := F0 m 4 ls []) rfl ?_
  refine lv_aload_n hx hb dX4_init_4 rfl (lv_at hl 0 rfl) ?_
  refine lv_iconst (v := 0) hx hb dX4_init_5 (by decide) ?_
  refine va_put (D := (dC, dI)) (ci := 3) (v := .int 0) (ty := .boolean) (C := RX4) (T := TX4) (N := 10) hx hb hts li_X4_init_X4 tyX4 tyX4_ok nmX4 hown hK hP hD hS 0 rfl rfl 0 (by decide) (hts _ lk_X4_init_9) (fun _ h9 => h9) rfl (by decide +kernel) rfl rfl (Nat.le_of_ble_eq_true rfl) dX4_init_6 (fun H locs hP hD hS => ?_)
  have hP : va_P (dC, dI) vwCl [(a_p0, .inr (3, [.int 0, .int 0, .int 0, .int 0, .int 0, .long 0, .long 0, .long 0, .long 0, .null]))] H := hP
  have hD : va_D A [(a_p0, .inr (3, [.int 0, .int 0, .int 0, .int 0, .int 0, .long 0, .long 0, .long 0, .long 0, .null]))] := hD
  refine lv_aload_n hx hb dX4_init_9 rfl (lv_at hl 0 rfl) ?_
  refine lv_iconst (v := 0) hx hb dX4_init_10 (by decide) ?_
  refine va_put (D := (dC, dI)) (ci := 3) (v := .int 0) (ty := .boolean) (C := RX4) (T := TX4) (N := 10) hx hb hts li_X4_init_X4 tyX4 tyX4_ok nmX4 hown hK hP hD hS 0 rfl rfl 1 (by decide) (hts _ lk_X4_init_15) (fun _ h9 => h9) rfl (by decide +kernel) rfl rfl (Nat.le_of_ble_eq_true rfl) dX4_init_11 (fun H locs hP hD hS => ?_)
  have hP : va_P (dC, dI) vwCl [(a_p0, .inr (3, [.int 0, .int 0, .int 0, .int 0, .int 0, .long 0, .long 0, .long 0, .long 0, .null]))] H := hP
  have hD : va_D A [(a_p0, .inr (3, [.int 0, .int 0, .int 0, .int 0, .int 0, .long 0, .long 0, .long 0, .long 0, .null]))] := hD
  refine lv_aload_n hx hb dX4_init_14 rfl (lv_at hl 0 rfl) ?_
  refine lv_iconst (v := 0) hx hb dX4_init_15 (by decide) ?_
  refine va_put (D := (dC, dI)) (ci := 3) (v := .int 0) (ty := .boolean) (C := RX4) (T := TX4) (N := 10) hx hb hts li_X4_init_X4 tyX4 tyX4_ok nmX4 hown hK hP hD hS 0 rfl rfl 2 (by decide) (hts _ lk_X4_init_18) (fun _ h9 => h9) rfl (by decide +kernel) rfl rfl (Nat.le_of_ble_eq_true rfl) dX4_init_16 (fun H locs hP hD hS => ?_)
  have hP : va_P (dC, dI) vwCl [(a_p0, .inr (3, [.int 0, .int 0, .int 0, .int 0, .int 0, .long 0, .long 0, .long 0, .long 0, .null]))] H := hP
  have hD : va_D A [(a_p0, .inr (3, [.int 0, .int 0, .int 0, .int 0, .int 0, .long 0, .long 0, .long 0, .long 0, .null]))] := hD
  refine lv_aload_n hx hb dX4_init_19 rfl (lv_at hl 0 rfl) ?_
  refine lv_iconst (v := 0) hx hb dX4_init_20 (by decide) ?_
  refine va_put (D := (dC, dI)) (ci := 3) (v := .int 0) (ty := .int) (C := RX4) (T := TX4) (N := 10) hx hb hts li_X4_init_X4 tyX4 tyX4_ok nmX4 hown hK hP hD hS 0 rfl rfl 3 (by decide) (hts _ lk_X4_init_21) (fun _ h9 => h9) rfl (by decide +kernel) rfl rfl (Nat.le_of_ble_eq_true rfl) dX4_init_21 (fun H locs hP hD hS => ?_)
  have hP : va_P (dC, dI) vwCl [(a_p0, .inr (3, [.int 0, .int 0, .int 0, .int 0, .int 0, .long 0, .long 0, .long 0, .long 0, .null]))] H := hP
  have hD : va_D A [(a_p0, .inr (3, [.int 0, .int 0, .int 0, .int 0, .int 0, .long 0, .long 0, .long 0, .long 0, .null]))] := hD
  refine lv_aload_n hx hb dX4_init_24 rfl (lv_at hl 0 rfl) ?_
  refine lv_iconst (v := 0) hx hb dX4_init_25 (by decide) ?_
  refine va_put (D := (dC, dI)) (ci := 3) (v := .int 0) (ty := .int) (C := RX4) (T := TX4) (N := 10) hx hb hts li_X4_init_X4 tyX4 tyX4_ok nmX4 hown hK hP hD hS 0 rfl rfl 4 (by decide) (hts _ lk_X4_init_25) (fun _ h9 => h9) rfl (by decide +kernel) rfl rfl (Nat.le_of_ble_eq_true rfl) dX4_init_26 (fun H locs hP hD hS => ?_)
  have hP : va_P (dC, dI) vwCl [(a_p0, .inr (3, [.int 0, .int 0, .int 0, .int 0, .int 0, .long 0, .long 0, .long 0, .long 0, .null]))] H := hP
  have hD : va_D A [(a_p0, .inr (3, [.int 0, .int 0, .int 0, .int 0, .int 0, .long 0, .long 0, .long 0, .long 0, .null]))] := hD
  refine lv_aload_n hx hb dX4_init_29 rfl (lv_at hl 0 rfl) ?_
  refine lv_lconst (v := 0) hx hb dX4_init_30 (by decide) ?_
  refine va_put (D := (dC, dI)) (ci := 3) (v := .long 0) (ty := .long) (C := RX4) (T := TX4) (N := 10) hx hb hts li_X4_init_X4 tyX4 tyX4_ok nmX4 hown hK hP hD hS 0 rfl rfl 5 (by decide) (hts _ lk_X4_init_28) (fun _ h9 => h9) rfl (by decide +kernel) rfl rfl (Nat.le_of_ble_eq_true rfl) dX4_init_31 (fun H locs hP hD hS => ?_)
  have hP : va_P (dC, dI) vwCl [(a_p0, .inr (3, [.int 0, .int 0, .int 0, .int 0, .int 0, .long 0, .long 0, .long 0, .long 0, .null]))] H := hP
  have hD : va_D A [(a_p0, .inr (3, [.int 0, .int 0, .int 0, .int 0, .int 0, .long 0, .long 0, .long 0, .long 0, .null]))] := hD
  refine lv_aload_n hx hb dX4_init_34 rfl (lv_at hl 0 rfl) ?_
  refine lv_lconst (v := 0) hx hb dX4_init_35 (by decide) ?_
  refine va_put (D := (dC, dI)) (ci := 3) (v := .long 0) (ty := .long) (C := RX4) (T := TX4) (N := 10) hx hb hts li_X4_init_X4 tyX4 tyX4_ok nmX4 hown hK hP hD hS 0 rfl rfl 6 (by decide) (hts _ lk_X4_init_32) (fun _ h9 => h9) rfl (by decide +kernel) rfl rfl (Nat.le_of_ble_eq_true rfl) dX4_init_36 (fun H locs hP hD hS => ?_)
  have hP : va_P (dC, dI) vwCl [(a_p0, .inr (3, [.int 0, .int 0, .int 0, .int 0, .int 0, .long 0, .long 0, .long 0, .long 0, .null]))] H := hP
  have hD : va_D A [(a_p0, .inr (3, [.int 0, .int 0, .int 0, .int 0, .int 0, .long 0, .long 0, .long 0, .long 0, .null]))] := hD
  refine lv_aload_n hx hb dX4_init_39 rfl (lv_at hl 0 rfl) ?_
  refine lv_lconst (v := 0) hx hb dX4_init_40 (by decide) ?_
  refine va_put (D := (dC, dI)) (ci := 3) (v := .long 0) (ty := .long) (C := RX4) (T := TX4) (N := 10) hx hb hts li_X4_init_X4 tyX4 tyX4_ok nmX4 hown hK hP hD hS 0 rfl rfl 7 (by decide) (hts _ lk_X4_init_35) (fun _ h9 => h9) rfl (by decide +kernel) rfl rfl (Nat.le_of_ble_eq_true rfl) dX4_init_41 (fun H locs hP hD hS => ?_)
  have hP : va_P (dC, dI) vwCl [(a_p0, .inr (3, [.int 0, .int 0, .int 0, .int 0, .int 0, .long 0, .long 0, .long 0, .long 0, .null]))] H := hP
  have hD : va_D A [(a_p0, .inr (3, [.int 0, .int 0, .int 0, .int 0, .int 0, .long 0, .long 0, .long 0, .long 0, .null]))] := hD
  refine lv_aload_n hx hb dX4_init_44 rfl (lv_at hl 0 rfl) ?_
  refine lv_lconst (v := 0) hx hb dX4_init_45 (by decide) ?_
  refine va_put (D := (dC, dI)) (ci := 3) (v := .long 0) (ty := .long) (C := RX4) (T := TX4) (N := 10) hx hb hts li_X4_init_X4 tyX4 tyX4_ok nmX4 hown hK hP hD hS 0 rfl rfl 8 (by decide) (hts _ lk_X4_init_38) (fun _ h9 => h9) rfl (by decide +kernel) rfl rfl (Nat.le_of_ble_eq_true rfl) dX4_init_46 (fun H locs hP hD hS => ?_)
  have hP : va_P (dC, dI) vwCl [(a_p0, .inr (3, [.int 0, .int 0, .int 0, .int 0, .int 0, .long 0, .long 0, .long 0, .long 0, .null]))] H := hP
  have hD : va_D A [(a_p0, .inr (3, [.int 0, .int 0, .int 0, .int 0, .int 0, .long 0, .long 0, .long 0, .long 0, .null]))] := hD
  refine lv_aload_n hx hb dX4_init_49 rfl (lv_at hl 0 rfl) ?_
  refine lv_bipush (v := 64) hx hb dX4_init_50 (by decide) ?_
  have hcap := (hts _ lk_X4_init_acI)
  refine va_newa (atype := .int) (a0 := (64, .inl (fun _ => 0))) (ty := .int) (N' := 64) hx hb hcap rfl hK hP hD hS hA (fun cA => rfl) (by decide +kernel) (by decide +kernel) (by show 64 * 4 ≤ 536870912; omega) (by decide) (by decide) dX4_init_52 (fun a1 cA H hK1 hP hD hS => ?_)
  have hcA := (pw_tysI hK1).symm
  subst hcA
  have hP : va_P (dC, dI) vwCl [(a_p0, .inr (3, [.int 0, .int 0, .int 0, .int 0, .int 0, .long 0, .long 0, .long 0, .long 0, .null])), (a1, .inl (cI, 64, .inl (fun _ => 0)))] H := hP
  have hD : va_D A [(a_p0, .inr (3, [.int 0, .int 0, .int 0, .int 0, .int 0, .long 0, .long 0, .long 0, .long 0, .null])), (a1, .inl (cI, 64, .inl (fun _ => 0)))] := hD
  refine W.widen (k := 1) (n := 64) (by omega) (by omega) ?_
  refine va_putF (D := (dC, dI)) (ci := 3) (v := .ref a1) (ty := (.array .int)) (C := RX4) (T := TX4) (N := 10) hx hb hts li_X4_init_X4 tyX4 tyX4_ok nmX4 hown hK hP hD hS 0 rfl rfl 9 (by decide) (hts _ lk_X4_init_43) (fun _ h9 => h9) rfl hin rfl (by decide +kernel) rfl rfl (Nat.le_of_ble_eq_true rfl) dX4_init_54 (fun H locs hP hD hS => ?_)
  have hP : va_P (dC, dI) vwCl [(a_p0, .inr (3, [.int 0, .int 0, .int 0, .int 0, .int 0, .long 0, .long 0, .long 0, .long 0, .ref a1])), (a1, .inl (cI, 64, .inl (fun _ => 0)))] H := hP
  have hD : va_D A [(a_p0, .inr (3, [.int 0, .int 0, .int 0, .int 0, .int 0, .long 0, .long 0, .long 0, .long 0, .ref a1])), (a1, .inl (cI, 64, .inl (fun _ => 0)))] := hD
  rw [hQ]
  refine W.widen (k := 1) (n := 64) (by decide) (by decide) ?_
  exact W.vret hx hb hr (fun t ht hW => ⟨⟨a1, rfl, trivial, by rw [ht]; exact hP, va_K.moved hW.alike hK, hD⟩, hS.F ht⟩) hS.2.2 dX4_init_57
/-! X5_init -/
theorem lk_X5_init_oi : Cond.methodLink RX5 3 objectInit ∈ wsX5_init := by decide +kernel
theorem lk_X5_init_on : Cond.instanceMethod objectInit ∈ wsX5_init := by decide +kernel
theorem lk_X5_init_oc : Cond.code objectInit ⟨#[0xb1]⟩ 1 none ∈ wsX5_init := by decide +kernel
theorem li_X5_init_X5 : ∀ w ∈ u_ws RX5 TX5 4, w ∈ wsX5_init := fun w h => List.mem_cons_of_mem _ (List.mem_append_right _ h)
theorem lk_X5_init_11 : Cond.fieldLink RX5 11 "NoWifeBeside$Reader" "stage" "I" ∈ wsX5_init := by decide +kernel
theorem lk_X5_init_15 : Cond.fieldLink RX5 15 "NoWifeBeside$Reader" "kind" "I" ∈ wsX5_init := by decide +kernel
theorem lk_X5_init_18 : Cond.fieldLink RX5 18 "NoWifeBeside$Reader" "first" "I" ∈ wsX5_init := by decide +kernel
theorem lk_X5_init_21 : Cond.fieldLink RX5 21 "NoWifeBeside$Reader" "second" "I" ∈ wsX5_init := by decide +kernel
abbrev rm_X5_init : Room := { frames := 1, cells := 0, slots := 0, locals := 24 }
set_option maxRecDepth 100000 in
set_option maxHeartbeats 4000000 in
theorem c_X5_init (l : Launch) (dC : Nat → ClassId) (dI : Nat → Nat → Nat) (cI cZ : ClassId) (sz : Nat) (a_p0 : Nat) : Met l yX5_init wsX5_init rm_X5_init (va_Pc [.ref a_p0] (pw_pre (dC, dI) cI cZ [(a_p0, .inr (4, [.int 0, .int 0, .int 0, .int 0]))] sz)) (va_Qv (fun (u : Unit) => True) (fun u t => pw_post (dC, dI) cI cZ (va_A [(a_p0, .inr (4, [.int 0, .int 0, .int 0, .int 0]))] sz) [(a_p0, .inr (4, [.int 0, .int 0, .int 0, .int 0]))] t) (va_A [(a_p0, .inr (4, [.int 0, .int 0, .int 0, .int 0]))] sz)) 0 0 (va_A [(a_p0, .inr (4, [.int 0, .int 0, .int 0, .int 0]))] sz) := by
  refine Met.ofW (cc := cX5_init) (maxL := 1) (ret := none) (by decide) rfl ?_
  intro p e s m args below meth c s₁ B hml hv
  obtain ⟨rfl, hsz, hP, hK, hD0⟩ := hv
  have hx := B.exec
  have hb := B.bytes
  have hr := B.returns
  have hts := atoms_spec (ws := wsX5_init) B.pre
  have hown : s.vm.findClass RX5 = some m.cls := findClass_of_methodNamed B.named
  have hlocks := B.notSynchronized
  have hin : meth.name = "<init>" := (name_of_methodNamed B.named B.method).1
  subst hsz
  have hD := hD0.self (sz := s.heap.size)
  generalize hAe : va_A [(a_p0, .inr (4, [.int 0, .int 0, .int 0, .int 0]))] s.heap.size = A at hD ⊢
  have hA : ∀ q : Nat, s.heap.size ≤ q → A q := fun q h => by rw [← hAe]; exact Or.inr h
  have hS : va_S A s.heap s.heap [] := va_S.rf
  have hP : va_P (dC, dI) vwCl [(a_p0, .inr (4, [.int 0, .int 0, .int 0, .int 0]))] s.heap := hP
  have hl := lv_entry ([.ref a_p0]) (n := 1) (Nat.le_of_ble_eq_true rfl)
  rw [lg_entry_eq]
  generalize (lg_sl ([.ref a_p0]) ++ List.replicate (1 - (lg_sl ([.ref a_p0])).length) Slot.unset).toArray = ls at hl ⊢
  have hl : lv_has ls 1 [(0, .ref a_p0)] := hl
  refine pw_Wq (R := rm_X5_init) (fun Q hQ => ?_)
  obtain ⟨locs, elocs⟩ : ∃ y : List Loc, y = [] := ⟨_, rfl⟩
  rw [← elocs] at hS ⊢
  refine lv_aload_n hx hb dX5_init_0 rfl (lv_at hl 0 rfl) ?_
  refine W.objInit hx hb hown (hts _ lk_X5_init_oi) (hts _ lk_X5_init_on) (hts _ lk_X5_init_oc) rfl (by rw [hml]; exact hl.1) rfl dX5_init_1 (Nat.le_of_ble_eq_true rfl) (Nat.le_of_ble_eq_true rfl) ?_
  refine W.eq (g2 := F0 m 4 ls []) rfl ?_
  refine lv_aload_n hx hb dX5_init_4 rfl (lv_at hl 0 rfl) ?_
  refine lv_iconst (v := 0) hx hb dX5_init_5 (by decide) ?_
  refine va_put (D := (dC, dI)) (ci := 4) (v := .int 0) (ty := .int) (C := RX5) (T := TX5) (N := 4) hx hb hts li_X5_init_X5 tyX5 tyX5_ok nmX5 hown hK hP hD hS 0 rfl rfl 0 (by decide) (hts _ lk_X5_init_11) (fun _ h9 => h9) rfl (by decide +kernel) rfl rfl (Nat.le_of_ble_eq_true rfl) dX5_init_6 (fun H locs hP hD hS => ?_)
  have hP : va_P (dC, dI) vwCl [(a_p0, .inr (4, [.int 0, .int 0, .int 0, .int 0]))] H := hP
  have hD : va_D A [(a_p0, .inr (4, [.int 0, .int 0, .int 0, .int 0]))] := hD
  refine lv_aload_n hx hb dX5_init_9 rfl (lv_at hl 0 rfl) ?_
  refine lv_iconst (v := 0) hx hb dX5_init_10 (by decide) ?_
  refine va_put (D := (dC, dI)) (ci := 4) (v := .int 0) (ty := .int) (C := RX5) (T := TX5) (N := 4) hx hb hts li_X5_init_X5 tyX5 tyX5_ok nmX5 hown hK hP hD hS 0 rfl rfl 1 (by decide) (hts _ lk_X5_init_15) (fun _ h9 => h9) rfl (by decide +kernel) rfl rfl (Nat.le_of_ble_eq_true rfl) dX5_init_11 (fun H locs hP hD hS => ?_)
  have hP : va_P (dC, dI) vwCl [(a_p0, .inr (4, [.int 0, .int 0, .int 0, .int 0]))] H := hP
  have hD : va_D A [(a_p0, .inr (4, [.int 0, .int 0, .int 0, .int 0]))] := hD
  refine lv_aload_n hx hb dX5_init_14 rfl (lv_at hl 0 rfl) ?_
  refine lv_iconst (v := 0) hx hb dX5_init_15 (by decide) ?_
  refine va_put (D := (dC, dI)) (ci := 4) (v := .int 0) (ty := .int) (C := RX5) (T := TX5) (N := 4) hx hb hts li_X5_init_X5 tyX5 tyX5_ok nmX5 hown hK hP hD hS 0 rfl rfl 2 (by decide) (hts _ lk_X5_init_18) (fun _ h9 => h9) rfl (by decide +kernel) rfl rfl (Nat.le_of_ble_eq_true rfl) dX5_init_16 (fun H locs hP hD hS => ?_)
  have hP : va_P (dC, dI) vwCl [(a_p0, .inr (4, [.int 0, .int 0, .int 0, .int 0]))] H := hP
  have hD : va_D A [(a_p0, .inr (4, [.int 0, .int 0, .int 0, .int 0]))] := hD
  refine lv_aload_n hx hb dX5_init_19 rfl (lv_at hl 0 rfl) ?_
  refine lv_iconst (v := 0) hx hb dX5_init_20 (by decide) ?_
  refine va_put (D := (dC, dI)) (ci := 4) (v := .int 0) (ty := .int) (C := RX5) (T := TX5) (N := 4) hx hb hts li_X5_init_X5 tyX5 tyX5_ok nmX5 hown hK hP hD hS 0 rfl rfl 3 (by decide) (hts _ lk_X5_init_21) (fun _ h9 => h9) rfl (by decide +kernel) rfl rfl (Nat.le_of_ble_eq_true rfl) dX5_init_21 (fun H locs hP hD hS => ?_)
  have hP : va_P (dC, dI) vwCl [(a_p0, .inr (4, [.int 0, .int 0, .int 0, .int 0]))] H := hP
  have hD : va_D A [(a_p0, .inr (4, [.int 0, .int 0, .int 0, .int 0]))] := hD
  rw [hQ]
  exact W.vret hx hb hr (fun t ht hW => ⟨⟨(), rfl, trivial, by rw [ht]; exact hP, va_K.moved hW.alike hK, hD⟩, hS.F ht⟩) hS.2.2 dX5_init_24
/-! X6_init -/
theorem lk_X6_init_oi : Cond.methodLink RX6 3 objectInit ∈ wsX6_init := by decide +kernel
theorem lk_X6_init_on : Cond.instanceMethod objectInit ∈ wsX6_init := by decide +kernel
theorem lk_X6_init_oc : Cond.code objectInit ⟨#[0xb1]⟩ 1 none ∈ wsX6_init := by decide +kernel
theorem lk_X6_init_acI : Cond.arrayClass .int ∈ wsX6_init := by decide +kernel
theorem li_X6_init_X6 : ∀ w ∈ u_ws RX6 TX6 3, w ∈ wsX6_init := fun w h => List.mem_cons_of_mem _ (List.mem_append_right _ h)
theorem lk_X6_init_9 : Cond.fieldLink RX6 9 "NoWifeBeside$Search" "queue" "[I" ∈ wsX6_init := by decide +kernel
theorem lk_X6_init_15 : Cond.fieldLink RX6 15 "NoWifeBeside$Search" "swaps" "[I" ∈ wsX6_init := by decide +kernel
theorem lk_X6_init_18 : Cond.fieldLink RX6 18 "NoWifeBeside$Search" "queued" "I" ∈ wsX6_init := by decide +kernel
abbrev rm_X6_init : Room := { frames := 1, cells := 2, slots := 2, locals := 24 }
set_option maxRecDepth 100000 in
set_option maxHeartbeats 4000000 in
theorem c_X6_init (l : Launch) (dC : Nat → ClassId) (dI : Nat → Nat → Nat) (cI cZ : ClassId) (sz : Nat) (a_p0 : Nat) : Met l yX6_init wsX6_init rm_X6_init (va_Pc [.ref a_p0] (pw_pre (dC, dI) cI cZ [(a_p0, .inr (5, [.null, .null, .int 0]))] sz)) (va_Qv (fun (u : Nat × Nat) => True) (fun u t => pw_post (dC, dI) cI cZ (va_A [(a_p0, .inr (5, [.null, .null, .int 0]))] sz) [(a_p0, .inr (5, [.ref u.1, .ref u.2, .int 0])), (u.1, .inl (cI, 1, .inl (fun _ => 0))), (u.2, .inl (cI, 1, .inl (fun _ => 0)))] t) (va_A [(a_p0, .inr (5, [.null, .null, .int 0]))] sz)) 2 2 (va_A [(a_p0, .inr (5, [.null, .null, .int 0]))] sz) := by
  refine Met.ofW (cc := cX6_init) (maxL := 1) (ret := none) (by decide) rfl ?_
  intro p e s m args below meth c s₁ B hml hv
  obtain ⟨rfl, hsz, hP, hK, hD0⟩ := hv
  have hx := B.exec
  have hb := B.bytes
  have hr := B.returns
  have hts := atoms_spec (ws := wsX6_init) B.pre
  have hown : s.vm.findClass RX6 = some m.cls := findClass_of_methodNamed B.named
  have hlocks := B.notSynchronized
  have hin : meth.name = "<init>" := (name_of_methodNamed B.named B.method).1
  subst hsz
  have hD := hD0.self (sz := s.heap.size)
  generalize hAe : va_A [(a_p0, .inr (5, [.null, .null, .int 0]))] s.heap.size = A at hD ⊢
  have hA : ∀ q : Nat, s.heap.size ≤ q → A q := fun q h => by rw [← hAe]; exact Or.inr h
  have hS : va_S A s.heap s.heap [] := va_S.rf
  have hP : va_P (dC, dI) vwCl [(a_p0, .inr (5, [.null, .null, .int 0]))] s.heap := hP
  have hl := lv_entry ([.ref a_p0]) (n := 1) (Nat.le_of_ble_eq_true rfl)
  rw [lg_entry_eq]
  generalize (lg_sl ([.ref a_p0]) ++ List.replicate (1 - (lg_sl ([.ref a_p0])).length) Slot.unset).toArray = ls at hl ⊢
  have hl : lv_has ls 1 [(0, .ref a_p0)] := hl
  refine pw_Wq (R := rm_X6_init) (fun Q hQ => ?_)
  obtain ⟨locs, elocs⟩ : ∃ y : List Loc, y = [] := ⟨_, rfl⟩
  rw [← elocs] at hS ⊢
  refine lv_aload_n hx hb dX6_init_0 rfl (lv_at hl 0 rfl) ?_
  refine W.objInit hx hb hown (hts _ lk_X6_init_oi) (hts _ lk_X6_init_on) (hts _ lk_X6_init_oc) rfl (by rw [hml]; exact hl.1) rfl dX6_init_1 (Nat.le_of_ble_eq_true rfl) (Nat.le_of_ble_eq_true rfl) ?_
  refine W.eq (g2 := F0 m 4 ls []) rfl ?_
  refine lv_aload_n hx hb dX6_init_4 rfl (lv_at hl 0 rfl) ?_
  refine lv_iconst (v := 1) hx hb dX6_init_5 (by decide) ?_
  have hcap := (hts _ lk_X6_init_acI)
  refine va_newa (atype := .int) (a0 := (1, .inl (fun _ => 0))) (ty := .int) (N' := 1) hx hb hcap rfl hK hP hD hS hA (fun cA => rfl) (by decide +kernel) (by decide +kernel) (by show 1 * 4 ≤ 536870912; omega) (by decide) (by decide) dX6_init_6 (fun a1 cA H hK1 hP hD hS => ?_)
  have hcA := (pw_tysI hK1).symm
  subst hcA
  have hP : va_P (dC, dI) vwCl [(a_p0, .inr (5, [.null, .null, .int 0])), (a1, .inl (cI, 1, .inl (fun _ => 0)))] H := hP
  have hD : va_D A [(a_p0, .inr (5, [.null, .null, .int 0])), (a1, .inl (cI, 1, .inl (fun _ => 0)))] := hD
  refine W.widen (k := 1) (n := 1) (by omega) (by omega) ?_
  refine va_put (D := (dC, dI)) (ci := 5) (v := .ref a1) (ty := (.array .int)) (C := RX6) (T := TX6) (N := 3) hx hb hts li_X6_init_X6 tyX6 tyX6_ok nmX6 hown hK hP hD hS 0 rfl rfl 0 (by decide) (hts _ lk_X6_init_9) (fun _ h9 => h9) rfl (by decide +kernel) rfl rfl (Nat.le_of_ble_eq_true rfl) dX6_init_8 (fun H locs hP hD hS => ?_)
  have hP : va_P (dC, dI) vwCl [(a_p0, .inr (5, [.ref a1, .null, .int 0])), (a1, .inl (cI, 1, .inl (fun _ => 0)))] H := hP
  have hD : va_D A [(a_p0, .inr (5, [.ref a1, .null, .int 0])), (a1, .inl (cI, 1, .inl (fun _ => 0)))] := hD
  refine lv_aload_n hx hb dX6_init_11 rfl (lv_at hl 0 rfl) ?_
  refine lv_iconst (v := 1) hx hb dX6_init_12 (by decide) ?_
  have hcap := (hts _ lk_X6_init_acI)
  refine va_newa (atype := .int) (a0 := (1, .inl (fun _ => 0))) (ty := .int) (N' := 1) hx hb hcap rfl hK hP hD hS hA (fun cA => rfl) (by decide +kernel) (by decide +kernel) (by show 1 * 4 ≤ 536870912; omega) (by decide) (by decide) dX6_init_13 (fun a2 cA H hK1 hP hD hS => ?_)
  have hcA := (pw_tysI hK1).symm
  subst hcA
  have hP : va_P (dC, dI) vwCl [(a_p0, .inr (5, [.ref a1, .null, .int 0])), (a1, .inl (cI, 1, .inl (fun _ => 0))), (a2, .inl (cI, 1, .inl (fun _ => 0)))] H := hP
  have hD : va_D A [(a_p0, .inr (5, [.ref a1, .null, .int 0])), (a1, .inl (cI, 1, .inl (fun _ => 0))), (a2, .inl (cI, 1, .inl (fun _ => 0)))] := hD
  refine W.widen (k := 2) (n := 2) (by omega) (by omega) ?_
  refine va_put (D := (dC, dI)) (ci := 5) (v := .ref a2) (ty := (.array .int)) (C := RX6) (T := TX6) (N := 3) hx hb hts li_X6_init_X6 tyX6 tyX6_ok nmX6 hown hK hP hD hS 0 rfl rfl 1 (by decide) (hts _ lk_X6_init_15) (fun _ h9 => h9) rfl (by decide +kernel) rfl rfl (Nat.le_of_ble_eq_true rfl) dX6_init_15 (fun H locs hP hD hS => ?_)
  have hP : va_P (dC, dI) vwCl [(a_p0, .inr (5, [.ref a1, .ref a2, .int 0])), (a1, .inl (cI, 1, .inl (fun _ => 0))), (a2, .inl (cI, 1, .inl (fun _ => 0)))] H := hP
  have hD : va_D A [(a_p0, .inr (5, [.ref a1, .ref a2, .int 0])), (a1, .inl (cI, 1, .inl (fun _ => 0))), (a2, .inl (cI, 1, .inl (fun _ => 0)))] := hD
  refine lv_aload_n hx hb dX6_init_18 rfl (lv_at hl 0 rfl) ?_
  refine lv_iconst (v := 0) hx hb dX6_init_19 (by decide) ?_
  refine va_put (D := (dC, dI)) (ci := 5) (v := .int 0) (ty := .int) (C := RX6) (T := TX6) (N := 3) hx hb hts li_X6_init_X6 tyX6 tyX6_ok nmX6 hown hK hP hD hS 0 rfl rfl 2 (by decide) (hts _ lk_X6_init_18) (fun _ h9 => h9) rfl (by decide +kernel) rfl rfl (Nat.le_of_ble_eq_true rfl) dX6_init_20 (fun H locs hP hD hS => ?_)
  have hP : va_P (dC, dI) vwCl [(a_p0, .inr (5, [.ref a1, .ref a2, .int 0])), (a1, .inl (cI, 1, .inl (fun _ => 0))), (a2, .inl (cI, 1, .inl (fun _ => 0)))] H := hP
  have hD : va_D A [(a_p0, .inr (5, [.ref a1, .ref a2, .int 0])), (a1, .inl (cI, 1, .inl (fun _ => 0))), (a2, .inl (cI, 1, .inl (fun _ => 0)))] := hD
  rw [hQ]
  refine W.widen (k := 2) (n := 2) (by decide) (by decide) ?_
  exact W.vret hx hb hr (fun t ht hW => ⟨⟨(a1, a2), rfl, trivial, by rw [ht]; exact hP, va_K.moved hW.alike hK, hD⟩, hS.F ht⟩) hS.2.2 dX6_init_23
/-! X8_init -/
theorem lk_X8_init_oi : Cond.methodLink RX8 3 objectInit ∈ wsX8_init := by decide +kernel
theorem lk_X8_init_on : Cond.instanceMethod objectInit ∈ wsX8_init := by decide +kernel
theorem lk_X8_init_oc : Cond.code objectInit ⟨#[0xb1]⟩ 1 none ∈ wsX8_init := by decide +kernel
theorem lk_X8_init_acI : Cond.arrayClass .int ∈ wsX8_init := by decide +kernel
theorem li_X8_init_X8 : ∀ w ∈ u_ws RX8 TX8 3, w ∈ wsX8_init := fun w h => List.mem_cons_of_mem _ (List.mem_append_right _ h)
theorem lk_X8_init_11 : Cond.fieldLink RX8 11 "NoWifeBeside$Table" "dined" "[I" ∈ wsX8_init := by decide +kernel
theorem lk_X8_init_17 : Cond.fieldLink RX8 17 "NoWifeBeside$Table" "seating" "I" ∈ wsX8_init := by decide +kernel
theorem lk_X8_init_21 : Cond.fieldLink RX8 21 "NoWifeBeside$Table" "kept" "Z" ∈ wsX8_init := by decide +kernel
abbrev rm_X8_init : Room := { frames := 1, cells := 1, slots := 64, locals := 24 }
set_option maxRecDepth 100000 in
set_option maxHeartbeats 4000000 in
theorem c_X8_init (l : Launch) (dC : Nat → ClassId) (dI : Nat → Nat → Nat) (cI cZ : ClassId) (sz : Nat) (a_p0 : Nat) : Met l yX8_init wsX8_init rm_X8_init (va_Pc [.ref a_p0] (pw_pre (dC, dI) cI cZ [(a_p0, .inr (6, [.null, .int 0, .int 0]))] sz)) (va_Qv (fun (u : Nat) => True) (fun u t => pw_post (dC, dI) cI cZ (va_A [(a_p0, .inr (6, [.null, .int 0, .int 0]))] sz) [(a_p0, .inr (6, [.ref u, .int 0, .int 0])), (u, .inl (cI, 64, .inl (fun _ => 0)))] t) (va_A [(a_p0, .inr (6, [.null, .int 0, .int 0]))] sz)) 1 64 (va_A [(a_p0, .inr (6, [.null, .int 0, .int 0]))] sz) := by
  refine Met.ofW (cc := cX8_init) (maxL := 1) (ret := none) (by decide) rfl ?_
  intro p e s m args below meth c s₁ B hml hv
  obtain ⟨rfl, hsz, hP, hK, hD0⟩ := hv
  have hx := B.exec
  have hb := B.bytes
  have hr := B.returns
  have hts := atoms_spec (ws := wsX8_init) B.pre
  have hown : s.vm.findClass RX8 = some m.cls := findClass_of_methodNamed B.named
  have hlocks := B.notSynchronized
  have hin : meth.name = "<init>" := (name_of_methodNamed B.named B.method).1
  subst hsz
  have hD := hD0.self (sz := s.heap.size)
  generalize hAe : va_A [(a_p0, .inr (6, [.null, .int 0, .int 0]))] s.heap.size = A at hD ⊢
  have hA : ∀ q : Nat, s.heap.size ≤ q → A q := fun q h => by rw [← hAe]; exact Or.inr h
  have hS : va_S A s.heap s.heap [] := va_S.rf
  have hP : va_P (dC, dI) vwCl [(a_p0, .inr (6, [.null, .int 0, .int 0]))] s.heap := hP
  have hl := lv_entry ([.ref a_p0]) (n := 1) (Nat.le_of_ble_eq_true rfl)
  rw [lg_entry_eq]
  generalize (lg_sl ([.ref a_p0]) ++ List.replicate (1 - (lg_sl ([.ref a_p0])).length) Slot.unset).toArray = ls at hl ⊢
  have hl : lv_has ls 1 [(0, .ref a_p0)] := hl
  refine pw_Wq (R := rm_X8_init) (fun Q hQ => ?_)
  obtain ⟨locs, elocs⟩ : ∃ y : List Loc, y = [] := ⟨_, rfl⟩
  rw [← elocs] at hS ⊢
  refine lv_aload_n hx hb dX8_init_0 rfl (lv_at hl 0 rfl) ?_
  refine W.objInit hx hb hown (hts _ lk_X8_init_oi) (hts _ lk_X8_init_on) (hts _ lk_X8_init_oc) rfl (by rw [hml]; exact hl.1) rfl dX8_init_1 (Nat.le_of_ble_eq_true rfl) (Nat.le_of_ble_eq_true rfl) ?_
  refine W.eq (g2 := F0 m 4 ls []) rfl ?_
  refine lv_aload_n hx hb dX8_init_4 rfl (lv_at hl 0 rfl) ?_
  refine lv_bipush (v := 64) hx hb dX8_init_5 (by decide) ?_
  have hcap := (hts _ lk_X8_init_acI)
  refine va_newa (atype := .int) (a0 := (64, .inl (fun _ => 0))) (ty := .int) (N' := 64) hx hb hcap rfl hK hP hD hS hA (fun cA => rfl) (by decide +kernel) (by decide +kernel) (by show 64 * 4 ≤ 536870912; omega) (by decide) (by decide) dX8_init_7 (fun a1 cA H hK1 hP hD hS => ?_)
  have hcA := (pw_tysI hK1).symm
  subst hcA
  have hP : va_P (dC, dI) vwCl [(a_p0, .inr (6, [.null, .int 0, .int 0])), (a1, .inl (cI, 64, .inl (fun _ => 0)))] H := hP
  have hD : va_D A [(a_p0, .inr (6, [.null, .int 0, .int 0])), (a1, .inl (cI, 64, .inl (fun _ => 0)))] := hD
  refine W.widen (k := 1) (n := 64) (by omega) (by omega) ?_
  refine va_putF (D := (dC, dI)) (ci := 6) (v := .ref a1) (ty := (.array .int)) (C := RX8) (T := TX8) (N := 3) hx hb hts li_X8_init_X8 tyX8 tyX8_ok nmX8 hown hK hP hD hS 0 rfl rfl 0 (by decide) (hts _ lk_X8_init_11) (fun _ h9 => h9) rfl hin rfl (by decide +kernel) rfl rfl (Nat.le_of_ble_eq_true rfl) dX8_init_9 (fun H locs hP hD hS => ?_)
  have hP : va_P (dC, dI) vwCl [(a_p0, .inr (6, [.ref a1, .int 0, .int 0])), (a1, .inl (cI, 64, .inl (fun _ => 0)))] H := hP
  have hD : va_D A [(a_p0, .inr (6, [.ref a1, .int 0, .int 0])), (a1, .inl (cI, 64, .inl (fun _ => 0)))] := hD
  refine lv_aload_n hx hb dX8_init_12 rfl (lv_at hl 0 rfl) ?_
  refine lv_iconst (v := 0) hx hb dX8_init_13 (by decide) ?_
  refine va_put (D := (dC, dI)) (ci := 6) (v := .int 0) (ty := .int) (C := RX8) (T := TX8) (N := 3) hx hb hts li_X8_init_X8 tyX8 tyX8_ok nmX8 hown hK hP hD hS 0 rfl rfl 1 (by decide) (hts _ lk_X8_init_17) (fun _ h9 => h9) rfl (by decide +kernel) rfl rfl (Nat.le_of_ble_eq_true rfl) dX8_init_14 (fun H locs hP hD hS => ?_)
  have hP : va_P (dC, dI) vwCl [(a_p0, .inr (6, [.ref a1, .int 0, .int 0])), (a1, .inl (cI, 64, .inl (fun _ => 0)))] H := hP
  have hD : va_D A [(a_p0, .inr (6, [.ref a1, .int 0, .int 0])), (a1, .inl (cI, 64, .inl (fun _ => 0)))] := hD
  refine lv_aload_n hx hb dX8_init_17 rfl (lv_at hl 0 rfl) ?_
  refine lv_iconst (v := 0) hx hb dX8_init_18 (by decide) ?_
  refine va_put (D := (dC, dI)) (ci := 6) (v := .int 0) (ty := .boolean) (C := RX8) (T := TX8) (N := 3) hx hb hts li_X8_init_X8 tyX8 tyX8_ok nmX8 hown hK hP hD hS 0 rfl rfl 2 (by decide) (hts _ lk_X8_init_21) (fun _ h9 => h9) rfl (by decide +kernel) rfl rfl (Nat.le_of_ble_eq_true rfl) dX8_init_19 (fun H locs hP hD hS => ?_)
  have hP : va_P (dC, dI) vwCl [(a_p0, .inr (6, [.ref a1, .int 0, .int 0])), (a1, .inl (cI, 64, .inl (fun _ => 0)))] H := hP
  have hD : va_D A [(a_p0, .inr (6, [.ref a1, .int 0, .int 0])), (a1, .inl (cI, 64, .inl (fun _ => 0)))] := hD
  rw [hQ]
  refine W.widen (k := 1) (n := 64) (by decide) (by decide) ?_
  exact W.vret hx hb hr (fun t ht hW => ⟨⟨a1, rfl, trivial, by rw [ht]; exact hP, va_K.moved hW.alike hK, hD⟩, hS.F ht⟩) hS.2.2 dX8_init_22
/-! X9_init -/
theorem lk_X9_init_oi : Cond.methodLink RX9 3 objectInit ∈ wsX9_init := by decide +kernel
theorem lk_X9_init_on : Cond.instanceMethod objectInit ∈ wsX9_init := by decide +kernel
theorem lk_X9_init_oc : Cond.code objectInit ⟨#[0xb1]⟩ 1 none ∈ wsX9_init := by decide +kernel
theorem lk_X9_init_acI : Cond.arrayClass .int ∈ wsX9_init := by decide +kernel
theorem li_X9_init_X9 : ∀ w ∈ u_ws RX9 TX9 2, w ∈ wsX9_init := fun w h => List.mem_cons_of_mem _ (List.mem_append_right _ h)
theorem lk_X9_init_9 : Cond.fieldLink RX9 9 "NoWifeBeside$Text" "signs" "[I" ∈ wsX9_init := by decide +kernel
theorem lk_X9_init_15 : Cond.fieldLink RX9 15 "NoWifeBeside$Text" "length" "I" ∈ wsX9_init := by decide +kernel
abbrev rm_X9_init : Room := { frames := 1, cells := 1, slots := 64, locals := 24 }
set_option maxRecDepth 100000 in
set_option maxHeartbeats 4000000 in
theorem c_X9_init (l : Launch) (dC : Nat → ClassId) (dI : Nat → Nat → Nat) (cI cZ : ClassId) (sz : Nat) (a_p0 : Nat) : Met l yX9_init wsX9_init rm_X9_init (va_Pc [.ref a_p0] (pw_pre (dC, dI) cI cZ [(a_p0, .inr (7, [.null, .int 0]))] sz)) (va_Qv (fun (u : Nat) => True) (fun u t => pw_post (dC, dI) cI cZ (va_A [(a_p0, .inr (7, [.null, .int 0]))] sz) [(a_p0, .inr (7, [.ref u, .int 0])), (u, .inl (cI, 64, .inl (fun _ => 0)))] t) (va_A [(a_p0, .inr (7, [.null, .int 0]))] sz)) 1 64 (va_A [(a_p0, .inr (7, [.null, .int 0]))] sz) := by
  refine Met.ofW (cc := cX9_init) (maxL := 1) (ret := none) (by decide) rfl ?_
  intro p e s m args below meth c s₁ B hml hv
  obtain ⟨rfl, hsz, hP, hK, hD0⟩ := hv
  have hx := B.exec
  have hb := B.bytes
  have hr := B.returns
  have hts := atoms_spec (ws := wsX9_init) B.pre
  have hown : s.vm.findClass RX9 = some m.cls := findClass_of_methodNamed B.named
  have hlocks := B.notSynchronized
  have hin : meth.name = "<init>" := (name_of_methodNamed B.named B.method).1
  subst hsz
  have hD := hD0.self (sz := s.heap.size)
  generalize hAe : va_A [(a_p0, .inr (7, [.null, .int 0]))] s.heap.size = A at hD ⊢
  have hA : ∀ q : Nat, s.heap.size ≤ q → A q := fun q h => by rw [← hAe]; exact Or.inr h
  have hS : va_S A s.heap s.heap [] := va_S.rf
  have hP : va_P (dC, dI) vwCl [(a_p0, .inr (7, [.null, .int 0]))] s.heap := hP
  have hl := lv_entry ([.ref a_p0]) (n := 1) (Nat.le_of_ble_eq_true rfl)
  rw [lg_entry_eq]
  generalize (lg_sl ([.ref a_p0]) ++ List.replicate (1 - (lg_sl ([.ref a_p0])).length) Slot.unset).toArray = ls at hl ⊢
  have hl : lv_has ls 1 [(0, .ref a_p0)] := hl
  refine pw_Wq (R := rm_X9_init) (fun Q hQ => ?_)
  obtain ⟨locs, elocs⟩ : ∃ y : List Loc, y = [] := ⟨_, rfl⟩
  rw [← elocs] at hS ⊢
  refine lv_aload_n hx hb dX9_init_0 rfl (lv_at hl 0 rfl) ?_
  refine W.objInit hx hb hown (hts _ lk_X9_init_oi) (hts _ lk_X9_init_on) (hts _ lk_X9_init_oc) rfl (by rw [hml]; exact hl.1) rfl dX9_init_1 (Nat.le_of_ble_eq_true rfl) (Nat.le_of_ble_eq_true rfl) ?_
  refine W.eq (g2 := F0 m 4 ls []) rfl ?_
  refine lv_aload_n hx hb dX9_init_4 rfl (lv_at hl 0 rfl) ?_
  refine lv_bipush (v := 64) hx hb dX9_init_5 (by decide) ?_
  have hcap := (hts _ lk_X9_init_acI)
  refine va_newa (atype := .int) (a0 := (64, .inl (fun _ => 0))) (ty := .int) (N' := 64) hx hb hcap rfl hK hP hD hS hA (fun cA => rfl) (by decide +kernel) (by decide +kernel) (by show 64 * 4 ≤ 536870912; omega) (by decide) (by decide) dX9_init_7 (fun a1 cA H hK1 hP hD hS => ?_)
  have hcA := (pw_tysI hK1).symm
  subst hcA
  have hP : va_P (dC, dI) vwCl [(a_p0, .inr (7, [.null, .int 0])), (a1, .inl (cI, 64, .inl (fun _ => 0)))] H := hP
  have hD : va_D A [(a_p0, .inr (7, [.null, .int 0])), (a1, .inl (cI, 64, .inl (fun _ => 0)))] := hD
  refine W.widen (k := 1) (n := 64) (by omega) (by omega) ?_
  refine va_putF (D := (dC, dI)) (ci := 7) (v := .ref a1) (ty := (.array .int)) (C := RX9) (T := TX9) (N := 2) hx hb hts li_X9_init_X9 tyX9 tyX9_ok nmX9 hown hK hP hD hS 0 rfl rfl 0 (by decide) (hts _ lk_X9_init_9) (fun _ h9 => h9) rfl hin rfl (by decide +kernel) rfl rfl (Nat.le_of_ble_eq_true rfl) dX9_init_9 (fun H locs hP hD hS => ?_)
  have hP : va_P (dC, dI) vwCl [(a_p0, .inr (7, [.ref a1, .int 0])), (a1, .inl (cI, 64, .inl (fun _ => 0)))] H := hP
  have hD : va_D A [(a_p0, .inr (7, [.ref a1, .int 0])), (a1, .inl (cI, 64, .inl (fun _ => 0)))] := hD
  refine lv_aload_n hx hb dX9_init_12 rfl (lv_at hl 0 rfl) ?_
  refine lv_iconst (v := 0) hx hb dX9_init_13 (by decide) ?_
  refine va_put (D := (dC, dI)) (ci := 7) (v := .int 0) (ty := .int) (C := RX9) (T := TX9) (N := 2) hx hb hts li_X9_init_X9 tyX9 tyX9_ok nmX9 hown hK hP hD hS 0 rfl rfl 1 (by decide) (hts _ lk_X9_init_15) (fun _ h9 => h9) rfl (by decide +kernel) rfl rfl (Nat.le_of_ble_eq_true rfl) dX9_init_14 (fun H locs hP hD hS => ?_)
  have hP : va_P (dC, dI) vwCl [(a_p0, .inr (7, [.ref a1, .int 0])), (a1, .inl (cI, 64, .inl (fun _ => 0)))] H := hP
  have hD : va_D A [(a_p0, .inr (7, [.ref a1, .int 0])), (a1, .inl (cI, 64, .inl (fun _ => 0)))] := hD
  rw [hQ]
  refine W.widen (k := 1) (n := 64) (by decide) (by decide) ?_
  exact W.vret hx hb hr (fun t ht hW => ⟨⟨a1, rfl, trivial, by rw [ht]; exact hP, va_K.moved hW.alike hK, hD⟩, hS.F ht⟩) hS.2.2 dX9_init_17
