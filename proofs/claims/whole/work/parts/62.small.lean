/-! X0_forgetFirst -/
theorem li_X0_forgetFirst_X0 : ∀ w ∈ u_ws RX0 TX0 3, w ∈ wsX0_forgetFirst := fun w h => List.mem_cons_of_mem _ (List.mem_append_right _ h)
theorem lk_X0_forgetFirst_9 : Cond.fieldLink RX0 9 "NoWifeBeside$Acts" "before" "[I" ∈ wsX0_forgetFirst := by decide +kernel
theorem lk_X0_forgetFirst_15 : Cond.fieldLink RX0 15 "NoWifeBeside$Acts" "dinners" "[Z" ∈ wsX0_forgetFirst := by decide +kernel
theorem lk_X0_forgetFirst_19 : Cond.fieldLink RX0 19 "NoWifeBeside$Acts" "size" "I" ∈ wsX0_forgetFirst := by decide +kernel
abbrev rm_X0_forgetFirst : Room := { frames := 0, cells := 0, slots := 0, locals := 0 }
set_option maxRecDepth 100000 in
set_option maxHeartbeats 4000000 in
theorem lw_X0_forgetFirst_2 {p : Program} {l : Launch} {e : Env} {s : State} {m : MethodId} {args : Array Value} {below : List Frame} {meth : Method} {c : Code} {Q : State → Prop} {dC : Nat → ClassId} {dI : Nat → Nat → Nat} {cI cZ : ClassId} {A : Nat → Prop} (hx : p.tables.exec = Jvm.exec) (hb : c.code = cX0_forgetFirst) (hml : c.maxLocals = 2) (hown : s.vm.findClass RX0 = some m.cls) (hts : ∀ w ∈ wsX0_forgetFirst, w.before args s = true) (hA : ∀ q : Nat, s.heap.size ≤ q → A q) (hK : va_K (dC, dI) vwCl [(cI, .int), (cZ, .boolean)] s) (a_p0 : Nat) (a_p0_before : Nat) (a_p0_dinners : Nat) (p0_size : Int32) :
    ∀ (n : Nat) (l1 : Int32) (p0_before_v : Nat → Int32) (p0_dinners_v : Nat → Int32) (xx : (Nat → Int32) × (Nat → Int32)), lf_X0_forgetFirst_2 n l1 p0_before_v p0_dinners_v = some xx → ((∀ (e_p0_before_v : Nat → Int32) (e_p0_dinners_v : Nat → Int32), (e_p0_before_v, e_p0_dinners_v) = xx → ∀ (H : Heap) (locs : List Loc) (ls : Array Slot), va_P (dC, dI) vwCl [(a_p0, .inr (0, [.ref a_p0_before, .ref a_p0_dinners, .int p0_size])), (a_p0_before, .inl (cI, 16, .inl e_p0_before_v)), (a_p0_dinners, .inl (cZ, 16, .inl e_p0_dinners_v))] H → va_D A [(a_p0, .inr (0, [.ref a_p0_before, .ref a_p0_dinners, .int p0_size])), (a_p0_before, .inl (cI, 16, .inl e_p0_before_v)), (a_p0_dinners, .inl (cZ, 16, .inl e_p0_dinners_v))] → va_S A s.heap H locs → lv_has ls 2 [(0, .ref a_p0)] → W p l e rm_X0_forgetFirst s m args below meth c H locs 0 0 Q (F0 m 42 ls []))) → ∀ (H : Heap) (locs : List Loc) (ls : Array Slot), va_P (dC, dI) vwCl [(a_p0, .inr (0, [.ref a_p0_before, .ref a_p0_dinners, .int p0_size])), (a_p0_before, .inl (cI, 16, .inl p0_before_v)), (a_p0_dinners, .inl (cZ, 16, .inl p0_dinners_v))] H → va_D A [(a_p0, .inr (0, [.ref a_p0_before, .ref a_p0_dinners, .int p0_size])), (a_p0_before, .inl (cI, 16, .inl p0_before_v)), (a_p0_dinners, .inl (cZ, 16, .inl p0_dinners_v))] → va_S A s.heap H locs → lv_has ls 2 [(0, .ref a_p0), (1, .int l1)] → W p l e rm_X0_forgetFirst s m args below meth c H locs 0 0 Q (F0 m 2 ls []) := by
  intro n
  induction n with
  | zero =>
    intro l1 p0_before_v p0_dinners_v xx h
    rw [lf_X0_forgetFirst_2] at h
    cases h
  | succ n ih =>
    intro l1 p0_before_v p0_dinners_v xx h KK H locs ls hP hD hS hl
    rw [lf_X0_forgetFirst_2] at h
    refine lv_iload_n hx hb dX0_forgetFirst_2 rfl (lv_at hl 1 rfl) ?_
    refine lv_bipush (v := 16) hx hb dX0_forgetFirst_3 (by decide) ?_
    refine lv_icmp_ge (tgt := 42) hx hb dX0_forgetFirst_5 (by decide) (fun c1 => ?_) (fun c1 => ?_)
    · have h := pw_cd_p c1 h
      have hl := lv_sub (l' := [(0, .ref a_p0)]) hl [0] rfl
      exact KK p0_before_v p0_dinners_v (Option.some.inj h) _ locs ls hP hD hS hl
    · have h := pw_cd_n c1 h
      refine lv_aload_n hx hb dX0_forgetFirst_8 rfl (lv_at hl 0 rfl) ?_
      refine va_get (D := (dC, dI)) (ci := 0) (v := .ref a_p0_before) (C := RX0) (T := TX0) (N := 3) hx hb hts li_X0_forgetFirst_X0 hown hK hP 0 rfl rfl 0 (by decide) (hts _ lk_X0_forgetFirst_9) (fun _ h9 => h9) rfl dX0_forgetFirst_9 ?_
      refine lv_iload_n hx hb dX0_forgetFirst_12 rfl (lv_at hl 1 rfl) ?_
      refine lv_iconst (v := 1) hx hb dX0_forgetFirst_13 (by decide) ?_
      refine lv_isub hx hb dX0_forgetFirst_14 ?_
      refine lv_aload_n hx hb dX0_forgetFirst_15 rfl (lv_at hl 0 rfl) ?_
      refine va_get (D := (dC, dI)) (ci := 0) (v := .ref a_p0_before) (C := RX0) (T := TX0) (N := 3) hx hb hts li_X0_forgetFirst_X0 hown hK hP 0 rfl rfl 0 (by decide) (hts _ lk_X0_forgetFirst_9) (fun _ h9 => h9) rfl dX0_forgetFirst_16 ?_
      refine lv_iload_n hx hb dX0_forgetFirst_19 rfl (lv_at hl 1 rfl) ?_
      obtain ⟨g2, h⟩ := pw_gd_e h
      refine va_iald hx hb hK hP 1 0 rfl rfl g2 dX0_forgetFirst_20 ?_
      refine lv_topi (fun v3 ev3 => ?_)
      have h := pw_lt_e ev3 h
      obtain ⟨g4, h⟩ := pw_gd_e h
      refine va_iast hx hb hK hP hD hS 1 0 rfl rfl g4 dX0_forgetFirst_21 (fun H locs hP hD hS => ?_)
      obtain ⟨f5, ef5⟩ : ∃ y : Nat → Int32, y = (upd p0_before_v (Int32.toNatClampNeg (l1 - 1)) v3) := ⟨_, rfl⟩
      have h := pw_lt_e ef5 h
      rw [← ef5] at hP hD
      have hP : va_P (dC, dI) vwCl [(a_p0, .inr (0, [.ref a_p0_before, .ref a_p0_dinners, .int p0_size])), (a_p0_before, .inl (cI, 16, .inl f5)), (a_p0_dinners, .inl (cZ, 16, .inl p0_dinners_v))] H := hP
      have hD : va_D A [(a_p0, .inr (0, [.ref a_p0_before, .ref a_p0_dinners, .int p0_size])), (a_p0_before, .inl (cI, 16, .inl f5)), (a_p0_dinners, .inl (cZ, 16, .inl p0_dinners_v))] := hD
      refine lv_aload_n hx hb dX0_forgetFirst_22 rfl (lv_at hl 0 rfl) ?_
      refine va_get (D := (dC, dI)) (ci := 0) (v := .ref a_p0_dinners) (C := RX0) (T := TX0) (N := 3) hx hb hts li_X0_forgetFirst_X0 hown hK hP 0 rfl rfl 1 (by decide) (hts _ lk_X0_forgetFirst_15) (fun _ h9 => h9) rfl dX0_forgetFirst_23 ?_
      refine lv_iload_n hx hb dX0_forgetFirst_26 rfl (lv_at hl 1 rfl) ?_
      refine lv_iconst (v := 1) hx hb dX0_forgetFirst_27 (by decide) ?_
      refine lv_isub hx hb dX0_forgetFirst_28 ?_
      refine lv_aload_n hx hb dX0_forgetFirst_29 rfl (lv_at hl 0 rfl) ?_
      refine va_get (D := (dC, dI)) (ci := 0) (v := .ref a_p0_dinners) (C := RX0) (T := TX0) (N := 3) hx hb hts li_X0_forgetFirst_X0 hown hK hP 0 rfl rfl 1 (by decide) (hts _ lk_X0_forgetFirst_15) (fun _ h9 => h9) rfl dX0_forgetFirst_30 ?_
      refine lv_iload_n hx hb dX0_forgetFirst_33 rfl (lv_at hl 1 rfl) ?_
      obtain ⟨g6, h⟩ := pw_gd_e h
      refine va_zald hx hb hK hP 2 1 rfl rfl g6 dX0_forgetFirst_34 ?_
      refine lv_topi (fun v7 ev7 => ?_)
      have h := pw_lt_e ev7 h
      obtain ⟨g8, h⟩ := pw_gd_e h
      refine va_zast hx hb hK hP hD hS 2 1 rfl rfl g8 dX0_forgetFirst_35 (fun H locs hP hD hS => ?_)
      obtain ⟨f9, ef9⟩ : ∃ y : Nat → Int32, y = (upd p0_dinners_v (Int32.toNatClampNeg (l1 - 1)) (vp_nar .boolean v7)) := ⟨_, rfl⟩
      have h := pw_lt_e ef9 h
      rw [← ef9] at hP hD
      have hP : va_P (dC, dI) vwCl [(a_p0, .inr (0, [.ref a_p0_before, .ref a_p0_dinners, .int p0_size])), (a_p0_before, .inl (cI, 16, .inl f5)), (a_p0_dinners, .inl (cZ, 16, .inl f9))] H := hP
      have hD : va_D A [(a_p0, .inr (0, [.ref a_p0_before, .ref a_p0_dinners, .int p0_size])), (a_p0_before, .inl (cI, 16, .inl f5)), (a_p0_dinners, .inl (cZ, 16, .inl f9))] := hD
      refine lv_iinc (v := (l1 + 1)) (lv' := [(1, .int (l1 + 1)), (0, .ref a_p0)]) hx hb dX0_forgetFirst_36 hl (k := 1) rfl rfl (by decide) rfl (fun ls hl => ?_)
      refine lv_goto (tgt := 2) hx hb dX0_forgetFirst_39 (by decide) ?_
      have hl := lv_sub (l' := [(0, .ref a_p0), (1, .int (l1 + 1))]) hl [1, 0] rfl
      exact ih (l1 + 1) f5 f9 xx h KK _ locs ls hP hD hS hl
set_option maxRecDepth 100000 in
set_option maxHeartbeats 4000000 in
theorem c_X0_forgetFirst (l : Launch) (dC : Nat → ClassId) (dI : Nat → Nat → Nat) (cI cZ : ClassId) (sz : Nat) (a_p0 : Nat) (a_p0_before : Nat) (a_p0_dinners : Nat) (p0_size : Int32) (p0_before_v : Nat → Int32) (p0_dinners_v : Nat → Int32) (xx : Int32 × (Nat → Int32) × (Nat → Int32)) (hc : f_X0_forgetFirst p0_before_v p0_dinners_v = some xx) : Met l yX0_forgetFirst wsX0_forgetFirst rm_X0_forgetFirst (va_Pc [.ref a_p0] (pw_pre (dC, dI) cI cZ [(a_p0, .inr (0, [.ref a_p0_before, .ref a_p0_dinners, .int p0_size])), (a_p0_before, .inl (cI, 16, .inl p0_before_v)), (a_p0_dinners, .inl (cZ, 16, .inl p0_dinners_v))] sz)) (va_Qv (fun (u : Int32 × (Nat → Int32) × (Nat → Int32)) => f_X0_forgetFirst p0_before_v p0_dinners_v = some (u.1, u.2.1, u.2.2)) (fun u t => pw_post (dC, dI) cI cZ (va_A [(a_p0, .inr (0, [.ref a_p0_before, .ref a_p0_dinners, .int p0_size])), (a_p0_before, .inl (cI, 16, .inl p0_before_v)), (a_p0_dinners, .inl (cZ, 16, .inl p0_dinners_v))] sz) [(a_p0, .inr (0, [.ref a_p0_before, .ref a_p0_dinners, .int u.1])), (a_p0_before, .inl (cI, 16, .inl u.2.1)), (a_p0_dinners, .inl (cZ, 16, .inl u.2.2))] t) (va_A [(a_p0, .inr (0, [.ref a_p0_before, .ref a_p0_dinners, .int p0_size])), (a_p0_before, .inl (cI, 16, .inl p0_before_v)), (a_p0_dinners, .inl (cZ, 16, .inl p0_dinners_v))] sz)) 0 0 (va_A [(a_p0, .inr (0, [.ref a_p0_before, .ref a_p0_dinners, .int p0_size])), (a_p0_before, .inl (cI, 16, .inl p0_before_v)), (a_p0_dinners, .inl (cZ, 16, .inl p0_dinners_v))] sz) := by
  refine Met.ofW (cc := cX0_forgetFirst) (maxL := 2) (ret := none) (by decide) rfl ?_
  intro p e s m args below meth c s₁ B hml hv
  obtain ⟨rfl, hsz, hP, hK, hD0⟩ := hv
  have hx := B.exec
  have hb := B.bytes
  have hr := B.returns
  have hts := atoms_spec (ws := wsX0_forgetFirst) B.pre
  have hown : s.vm.findClass RX0 = some m.cls := findClass_of_methodNamed B.named
  have hlocks := B.notSynchronized
  subst hsz
  have hD := hD0.self (sz := s.heap.size)
  generalize hAe : va_A [(a_p0, .inr (0, [.ref a_p0_before, .ref a_p0_dinners, .int p0_size])), (a_p0_before, .inl (cI, 16, .inl p0_before_v)), (a_p0_dinners, .inl (cZ, 16, .inl p0_dinners_v))] s.heap.size = A at hD ⊢
  have hA : ∀ q : Nat, s.heap.size ≤ q → A q := fun q h => by rw [← hAe]; exact Or.inr h
  have hS : va_S A s.heap s.heap [] := va_S.rf
  have hP : va_P (dC, dI) vwCl [(a_p0, .inr (0, [.ref a_p0_before, .ref a_p0_dinners, .int p0_size])), (a_p0_before, .inl (cI, 16, .inl p0_before_v)), (a_p0_dinners, .inl (cZ, 16, .inl p0_dinners_v))] s.heap := hP
  have hl := lv_entry ([.ref a_p0]) (n := 2) (Nat.le_of_ble_eq_true rfl)
  rw [lg_entry_eq]
  generalize (lg_sl ([.ref a_p0]) ++ List.replicate (2 - (lg_sl ([.ref a_p0])).length) Slot.unset).toArray = ls at hl ⊢
  have hl : lv_has ls 2 [(0, .ref a_p0)] := hl
  refine pw_Wq (R := rm_X0_forgetFirst) (fun Q hQ => ?_)
  obtain ⟨locs, elocs⟩ : ∃ y : List Loc, y = [] := ⟨_, rfl⟩
  rw [← elocs] at hS ⊢
  have h := hc
  unfold f_X0_forgetFirst at h
  refine lv_iconst (v := 1) hx hb dX0_forgetFirst_0 (by decide) ?_
  refine lv_istore_n (lv' := [(1, .int 1), (0, .ref a_p0)]) hx hb dX0_forgetFirst_1 rfl hl (by decide) rfl (fun ls hl => ?_)
  have hl := lv_sub (l' := [(0, .ref a_p0), (1, .int 1)]) hl [1, 0] rfl
  obtain ⟨xx10, hL11, h⟩ := pw_bd_e h
  refine lw_X0_forgetFirst_2 hx hb hml hown hts hA hK a_p0 a_p0_before a_p0_dinners p0_size pw_FU 1 p0_before_v p0_dinners_v xx10 hL11 ?_ _ locs ls hP hD hS hl
  intro y12 y13 ex H locs ls hP hD hS hl
  subst ex
  have h := pw_u2_e h
  refine lv_aload_n hx hb dX0_forgetFirst_42 rfl (lv_at hl 0 rfl) ?_
  refine lv_bipush (v := 15) hx hb dX0_forgetFirst_43 (by decide) ?_
  refine va_put (D := (dC, dI)) (ci := 0) (v := .int 15) (ty := .int) (C := RX0) (T := TX0) (N := 3) hx hb hts li_X0_forgetFirst_X0 tyX0 tyX0_ok nmX0 hown hK hP hD hS 0 rfl rfl 2 (by decide) (hts _ lk_X0_forgetFirst_19) (fun _ h9 => h9) rfl (by decide +kernel) rfl rfl (Nat.le_of_ble_eq_true rfl) dX0_forgetFirst_45 (fun H locs hP hD hS => ?_)
  have hP : va_P (dC, dI) vwCl [(a_p0, .inr (0, [.ref a_p0_before, .ref a_p0_dinners, .int 15])), (a_p0_before, .inl (cI, 16, .inl y12)), (a_p0_dinners, .inl (cZ, 16, .inl y13))] H := hP
  have hD : va_D A [(a_p0, .inr (0, [.ref a_p0_before, .ref a_p0_dinners, .int 15])), (a_p0_before, .inl (cI, 16, .inl y12)), (a_p0_dinners, .inl (cZ, 16, .inl y13))] := hD
  rw [hQ]
  exact W.vret hx hb hr (fun t ht hW => ⟨⟨(15, y12, y13), rfl, hc.trans h.symm, by rw [ht]; exact hP, va_K.moved hW.alike hK, hD⟩, hS.F ht⟩) hS.2.2 dX0_forgetFirst_48
/-! X0_add -/
theorem li_X0_add_X0 : ∀ w ∈ u_ws RX0 TX0 3, w ∈ wsX0_add := fun w h => List.mem_cons_of_mem _ (List.mem_append_right _ h)
theorem lk_X0_add_19 : Cond.fieldLink RX0 19 "NoWifeBeside$Acts" "size" "I" ∈ wsX0_add := by decide +kernel
theorem lk_X0_add_9 : Cond.fieldLink RX0 9 "NoWifeBeside$Acts" "before" "[I" ∈ wsX0_add := by decide +kernel
theorem lk_X0_add_15 : Cond.fieldLink RX0 15 "NoWifeBeside$Acts" "dinners" "[Z" ∈ wsX0_add := by decide +kernel
abbrev rm_X0_add : Room := { frames := 1, cells := 0, slots := 0, locals := 21 }
set_option maxRecDepth 100000 in
set_option maxHeartbeats 4000000 in
theorem c_X0_add (l : Launch) (dC : Nat → ClassId) (dI : Nat → Nat → Nat) (cI cZ : ClassId) (sz : Nat) (a_p0 : Nat) (a_p0_before : Nat) (a_p0_dinners : Nat) (p0_size : Int32) (p0_before_v : Nat → Int32) (p0_dinners_v : Nat → Int32) (x1 : Int32) (x2 : Int32) (xx : Int32 × (Nat → Int32) × (Nat → Int32)) (hc : f_X0_add x1 x2 p0_size p0_before_v p0_dinners_v = some xx) : Met l yX0_add wsX0_add rm_X0_add (va_Pc [.ref a_p0, .int x1, .int x2] (pw_pre (dC, dI) cI cZ [(a_p0, .inr (0, [.ref a_p0_before, .ref a_p0_dinners, .int p0_size])), (a_p0_before, .inl (cI, 16, .inl p0_before_v)), (a_p0_dinners, .inl (cZ, 16, .inl p0_dinners_v))] sz)) (va_Qv (fun (u : Int32 × (Nat → Int32) × (Nat → Int32)) => f_X0_add x1 x2 p0_size p0_before_v p0_dinners_v = some (u.1, u.2.1, u.2.2)) (fun u t => pw_post (dC, dI) cI cZ (va_A [(a_p0, .inr (0, [.ref a_p0_before, .ref a_p0_dinners, .int p0_size])), (a_p0_before, .inl (cI, 16, .inl p0_before_v)), (a_p0_dinners, .inl (cZ, 16, .inl p0_dinners_v))] sz) [(a_p0, .inr (0, [.ref a_p0_before, .ref a_p0_dinners, .int u.1])), (a_p0_before, .inl (cI, 16, .inl u.2.1)), (a_p0_dinners, .inl (cZ, 16, .inl u.2.2))] t) (va_A [(a_p0, .inr (0, [.ref a_p0_before, .ref a_p0_dinners, .int p0_size])), (a_p0_before, .inl (cI, 16, .inl p0_before_v)), (a_p0_dinners, .inl (cZ, 16, .inl p0_dinners_v))] sz)) 0 0 (va_A [(a_p0, .inr (0, [.ref a_p0_before, .ref a_p0_dinners, .int p0_size])), (a_p0_before, .inl (cI, 16, .inl p0_before_v)), (a_p0_dinners, .inl (cZ, 16, .inl p0_dinners_v))] sz) := by
  refine Met.ofW (cc := cX0_add) (maxL := 3) (ret := none) (by decide) rfl ?_
  intro p e s m args below meth c s₁ B hml hv
  obtain ⟨rfl, hsz, hP, hK, hD0⟩ := hv
  have hx := B.exec
  have hb := B.bytes
  have hr := B.returns
  have hts := atoms_spec (ws := wsX0_add) B.pre
  have hown : s.vm.findClass RX0 = some m.cls := findClass_of_methodNamed B.named
  have hlocks := B.notSynchronized
  subst hsz
  have hD := hD0.self (sz := s.heap.size)
  generalize hAe : va_A [(a_p0, .inr (0, [.ref a_p0_before, .ref a_p0_dinners, .int p0_size])), (a_p0_before, .inl (cI, 16, .inl p0_before_v)), (a_p0_dinners, .inl (cZ, 16, .inl p0_dinners_v))] s.heap.size = A at hD ⊢
  have hA : ∀ q : Nat, s.heap.size ≤ q → A q := fun q h => by rw [← hAe]; exact Or.inr h
  have hS : va_S A s.heap s.heap [] := va_S.rf
  have hP : va_P (dC, dI) vwCl [(a_p0, .inr (0, [.ref a_p0_before, .ref a_p0_dinners, .int p0_size])), (a_p0_before, .inl (cI, 16, .inl p0_before_v)), (a_p0_dinners, .inl (cZ, 16, .inl p0_dinners_v))] s.heap := hP
  have hl := lv_entry ([.ref a_p0, .int x1, .int x2]) (n := 3) (Nat.le_of_ble_eq_true rfl)
  rw [lg_entry_eq]
  generalize (lg_sl ([.ref a_p0, .int x1, .int x2]) ++ List.replicate (3 - (lg_sl ([.ref a_p0, .int x1, .int x2])).length) Slot.unset).toArray = ls at hl ⊢
  have hl : lv_has ls 3 [(0, .ref a_p0), (1, .int x1), (2, .int x2)] := hl
  refine pw_Wq (R := rm_X0_add) (fun Q hQ => ?_)
  obtain ⟨locs, elocs⟩ : ∃ y : List Loc, y = [] := ⟨_, rfl⟩
  rw [← elocs] at hS ⊢
  have h := hc
  unfold f_X0_add at h
  refine lv_aload_n hx hb dX0_add_0 rfl (lv_at hl 0 rfl) ?_
  refine va_get (D := (dC, dI)) (ci := 0) (v := .int p0_size) (C := RX0) (T := TX0) (N := 3) hx hb hts li_X0_add_X0 hown hK hP 0 rfl rfl 2 (by decide) (hts _ lk_X0_add_19) (fun _ h9 => h9) rfl dX0_add_1 ?_
  refine lv_bipush (v := 16) hx hb dX0_add_4 (by decide) ?_
  obtain ⟨k5, hk5, h⟩ := pw_jn_e h
  have K6 : ∀ (j2 : Int32) (j3 : Nat → Int32) (j4 : Nat → Int32), k5 j2 j3 j4 = some xx → ∀ (H : Heap) (locs : List Loc) (ls : Array Slot), va_P (dC, dI) vwCl [(a_p0, .inr (0, [.ref a_p0_before, .ref a_p0_dinners, .int j2])), (a_p0_before, .inl (cI, 16, .inl j3)), (a_p0_dinners, .inl (cZ, 16, .inl j4))] H → va_D A [(a_p0, .inr (0, [.ref a_p0_before, .ref a_p0_dinners, .int j2])), (a_p0_before, .inl (cI, 16, .inl j3)), (a_p0_dinners, .inl (cZ, 16, .inl j4))] → va_S A s.heap H locs → lv_has ls 3 [(0, .ref a_p0), (1, .int x1), (2, .int x2)] → W p l e rm_X0_add s m ([.ref a_p0, .int x1, .int x2] : List Value).toArray below meth c H locs 0 0 Q (F0 m 13 ls []) := by
    intro j2 j3 j4 h H locs ls hP hD hS hl
    have h := pw_jk3 hk5 h
    refine lv_aload_n hx hb dX0_add_13 rfl (lv_at hl 0 rfl) ?_
    refine va_get (D := (dC, dI)) (ci := 0) (v := .int j2) (C := RX0) (T := TX0) (N := 3) hx hb hts li_X0_add_X0 hown hK hP 0 rfl rfl 2 (by decide) (hts _ lk_X0_add_19) (fun _ h9 => h9) rfl dX0_add_14 ?_
    refine lv_if_lt (tgt := 59) hx hb dX0_add_17 (by decide) (fun c7 => ?_) (fun c7 => ?_)
    · have h := pw_cd_p c7 h
      rw [hQ]
      exact W.vret hx hb hr (fun t ht hW => ⟨⟨(j2, j3, j4), rfl, hc.trans h.symm, by rw [ht]; exact hP, va_K.moved hW.alike hK, hD⟩, hS.F ht⟩) hS.2.2 dX0_add_59
    · have h := pw_cd_n c7 h
      refine lv_aload_n hx hb dX0_add_20 rfl (lv_at hl 0 rfl) ?_
      refine va_get (D := (dC, dI)) (ci := 0) (v := .int j2) (C := RX0) (T := TX0) (N := 3) hx hb hts li_X0_add_X0 hown hK hP 0 rfl rfl 2 (by decide) (hts _ lk_X0_add_19) (fun _ h9 => h9) rfl dX0_add_21 ?_
      refine lv_bipush (v := 16) hx hb dX0_add_24 (by decide) ?_
      refine lv_icmp_ge (tgt := 59) hx hb dX0_add_26 (by decide) (fun c8 => ?_) (fun c8 => ?_)
      · have h := pw_cd_p c8 h
        rw [hQ]
        exact W.vret hx hb hr (fun t ht hW => ⟨⟨(j2, j3, j4), rfl, hc.trans h.symm, by rw [ht]; exact hP, va_K.moved hW.alike hK, hD⟩, hS.F ht⟩) hS.2.2 dX0_add_59
      · have h := pw_cd_n c8 h
        refine lv_aload_n hx hb dX0_add_29 rfl (lv_at hl 0 rfl) ?_
        refine va_get (D := (dC, dI)) (ci := 0) (v := .ref a_p0_before) (C := RX0) (T := TX0) (N := 3) hx hb hts li_X0_add_X0 hown hK hP 0 rfl rfl 0 (by decide) (hts _ lk_X0_add_9) (fun _ h9 => h9) rfl dX0_add_30 ?_
        refine lv_aload_n hx hb dX0_add_33 rfl (lv_at hl 0 rfl) ?_
        refine va_get (D := (dC, dI)) (ci := 0) (v := .int j2) (C := RX0) (T := TX0) (N := 3) hx hb hts li_X0_add_X0 hown hK hP 0 rfl rfl 2 (by decide) (hts _ lk_X0_add_19) (fun _ h9 => h9) rfl dX0_add_34 ?_
        refine lv_iload_n hx hb dX0_add_37 rfl (lv_at hl 1 rfl) ?_
        obtain ⟨g9, h⟩ := pw_gd_e h
        refine va_iast hx hb hK hP hD hS 1 0 rfl rfl g9 dX0_add_38 (fun H locs hP hD hS => ?_)
        obtain ⟨f10, ef10⟩ : ∃ y : Nat → Int32, y = (upd j3 (Int32.toNatClampNeg j2) x1) := ⟨_, rfl⟩
        have h := pw_lt_e ef10 h
        rw [← ef10] at hP hD
        have hP : va_P (dC, dI) vwCl [(a_p0, .inr (0, [.ref a_p0_before, .ref a_p0_dinners, .int j2])), (a_p0_before, .inl (cI, 16, .inl f10)), (a_p0_dinners, .inl (cZ, 16, .inl j4))] H := hP
        have hD : va_D A [(a_p0, .inr (0, [.ref a_p0_before, .ref a_p0_dinners, .int j2])), (a_p0_before, .inl (cI, 16, .inl f10)), (a_p0_dinners, .inl (cZ, 16, .inl j4))] := hD
        refine lv_aload_n hx hb dX0_add_39 rfl (lv_at hl 0 rfl) ?_
        refine va_get (D := (dC, dI)) (ci := 0) (v := .ref a_p0_dinners) (C := RX0) (T := TX0) (N := 3) hx hb hts li_X0_add_X0 hown hK hP 0 rfl rfl 1 (by decide) (hts _ lk_X0_add_15) (fun _ h9 => h9) rfl dX0_add_40 ?_
        refine lv_aload_n hx hb dX0_add_43 rfl (lv_at hl 0 rfl) ?_
        refine va_get (D := (dC, dI)) (ci := 0) (v := .int j2) (C := RX0) (T := TX0) (N := 3) hx hb hts li_X0_add_X0 hown hK hP 0 rfl rfl 2 (by decide) (hts _ lk_X0_add_19) (fun _ h9 => h9) rfl dX0_add_44 ?_
        refine lv_iload_n hx hb dX0_add_47 rfl (lv_at hl 2 rfl) ?_
        obtain ⟨g11, h⟩ := pw_gd_e h
        refine va_zast hx hb hK hP hD hS 2 1 rfl rfl g11 dX0_add_48 (fun H locs hP hD hS => ?_)
        obtain ⟨f12, ef12⟩ : ∃ y : Nat → Int32, y = (upd j4 (Int32.toNatClampNeg j2) (vp_nar .boolean x2)) := ⟨_, rfl⟩
        have h := pw_lt_e ef12 h
        rw [← ef12] at hP hD
        have hP : va_P (dC, dI) vwCl [(a_p0, .inr (0, [.ref a_p0_before, .ref a_p0_dinners, .int j2])), (a_p0_before, .inl (cI, 16, .inl f10)), (a_p0_dinners, .inl (cZ, 16, .inl f12))] H := hP
        have hD : va_D A [(a_p0, .inr (0, [.ref a_p0_before, .ref a_p0_dinners, .int j2])), (a_p0_before, .inl (cI, 16, .inl f10)), (a_p0_dinners, .inl (cZ, 16, .inl f12))] := hD
        refine lv_aload_n hx hb dX0_add_49 rfl (lv_at hl 0 rfl) ?_
        refine lv_dup hx hb dX0_add_50 rfl ?_
        refine va_get (D := (dC, dI)) (ci := 0) (v := .int j2) (C := RX0) (T := TX0) (N := 3) hx hb hts li_X0_add_X0 hown hK hP 0 rfl rfl 2 (by decide) (hts _ lk_X0_add_19) (fun _ h9 => h9) rfl dX0_add_51 ?_
        refine lv_iconst (v := 1) hx hb dX0_add_54 (by decide) ?_
        refine lv_iadd hx hb dX0_add_55 ?_
        refine lv_topi (fun v13 ev13 => ?_)
        have h := pw_lt_e ev13 h
        refine va_put (D := (dC, dI)) (ci := 0) (v := .int v13) (ty := .int) (C := RX0) (T := TX0) (N := 3) hx hb hts li_X0_add_X0 tyX0 tyX0_ok nmX0 hown hK hP hD hS 0 rfl rfl 2 (by decide) (hts _ lk_X0_add_19) (fun _ h9 => h9) rfl (by decide +kernel) rfl rfl (Nat.le_of_ble_eq_true rfl) dX0_add_56 (fun H locs hP hD hS => ?_)
        have hP : va_P (dC, dI) vwCl [(a_p0, .inr (0, [.ref a_p0_before, .ref a_p0_dinners, .int v13])), (a_p0_before, .inl (cI, 16, .inl f10)), (a_p0_dinners, .inl (cZ, 16, .inl f12))] H := hP
        have hD : va_D A [(a_p0, .inr (0, [.ref a_p0_before, .ref a_p0_dinners, .int v13])), (a_p0_before, .inl (cI, 16, .inl f10)), (a_p0_dinners, .inl (cZ, 16, .inl f12))] := hD
        rw [hQ]
        exact W.vret hx hb hr (fun t ht hW => ⟨⟨(v13, f10, f12), rfl, hc.trans h.symm, by rw [ht]; exact hP, va_K.moved hW.alike hK, hD⟩, hS.F ht⟩) hS.2.2 dX0_add_59
  refine lv_icmp_lt (tgt := 13) hx hb dX0_add_6 (by decide) (fun c1 => ?_) (fun c1 => ?_)
  · have h := pw_cd_p c1 h
    exact K6 p0_size p0_before_v p0_dinners_v h _ locs ls hP hD hS hl
  · have h := pw_cd_n c1 h
    refine lv_aload_n hx hb dX0_add_9 rfl (lv_at hl 0 rfl) ?_
    obtain ⟨xx16, hc15, h⟩ := pw_bd_e h
    refine pw_cv (wr := []) (va_runV (As := []) (rest := []) ⟨hx, hb, hml, hown, hts⟩ (c_X0_forgetFirst l dC dI cI cZ s.heap.size a_p0 a_p0_before a_p0_dinners p0_size p0_before_v p0_dinners_v xx16 hc15) (cwV 0 hts gX0_add_X0_forgetFirst rfl rfl rfl (by decide +kernel) ⟨(Nat.le_of_ble_eq_true rfl), (Nat.le_of_ble_eq_true rfl)⟩) (pw_preV hK hP hD [0, 1, 2] rfl rfl (by decide) 0 rfl rfl) rfl rfl hl.1 rfl (lv_room (Nat.le_of_ble_eq_true rfl)) dX0_add_10 ⟨(Nat.le_of_ble_eq_true rfl), (Nat.le_of_ble_eq_true rfl)⟩) hP hD hS hA [0, 1, 2] [] rfl rfl (by decide) (by decide) (fun u H locs hw hP hD hS => ?_)
    obtain ⟨o17, o18, o19⟩ := u
    have ex : (o17, o18, o19) = xx16 := Option.some.inj (hw.symm.trans hc15)
    subst ex
    have h := pw_u3_e h
    have hP : va_P (dC, dI) vwCl [(a_p0, .inr (0, [.ref a_p0_before, .ref a_p0_dinners, .int o17])), (a_p0_before, .inl (cI, 16, .inl o18)), (a_p0_dinners, .inl (cZ, 16, .inl o19))] H := hP
    have hD : va_D A [(a_p0, .inr (0, [.ref a_p0_before, .ref a_p0_dinners, .int o17])), (a_p0_before, .inl (cI, 16, .inl o18)), (a_p0_dinners, .inl (cZ, 16, .inl o19))] := hD
    exact K6 o17 o18 o19 h _ locs ls hP hD hS hl
/-! X0_seatingBefore -/
theorem li_X0_seatingBefore_X0 : ∀ w ∈ u_ws RX0 TX0 3, w ∈ wsX0_seatingBefore := fun w h => List.mem_cons_of_mem _ (List.mem_append_right _ h)
theorem lk_X0_seatingBefore_9 : Cond.fieldLink RX0 9 "NoWifeBeside$Acts" "before" "[I" ∈ wsX0_seatingBefore := by decide +kernel
abbrev rm_X0_seatingBefore : Room := { frames := 0, cells := 0, slots := 0, locals := 0 }
set_option maxRecDepth 100000 in
set_option maxHeartbeats 4000000 in
theorem c_X0_seatingBefore (l : Launch) (dC : Nat → ClassId) (dI : Nat → Nat → Nat) (cI cZ : ClassId) (sz : Nat) (a_p0 : Nat) (a_p0_before : Nat) (a_p0_dinners : Nat) (p0_size : Int32) (p0_before_v : Nat → Int32) (x1 : Int32) (xx : Int32) (hc : f_X0_seatingBefore x1 p0_before_v = some xx) : Met l yX0_seatingBefore wsX0_seatingBefore rm_X0_seatingBefore (va_Pc [.ref a_p0, .int x1] (pw_pre (dC, dI) cI cZ [(a_p0, .inr (0, [.ref a_p0_before, .ref a_p0_dinners, .int p0_size])), (a_p0_before, .inl (cI, 16, .inl p0_before_v))] sz)) (va_Qi (fun (r : Int32) (u : Unit) => f_X0_seatingBefore x1 p0_before_v = some r) (fun u t => pw_post (dC, dI) cI cZ (va_A [(a_p0, .inr (0, [.ref a_p0_before, .ref a_p0_dinners, .int p0_size])), (a_p0_before, .inl (cI, 16, .inl p0_before_v))] sz) [(a_p0, .inr (0, [.ref a_p0_before, .ref a_p0_dinners, .int p0_size])), (a_p0_before, .inl (cI, 16, .inl p0_before_v))] t) (va_A [(a_p0, .inr (0, [.ref a_p0_before, .ref a_p0_dinners, .int p0_size])), (a_p0_before, .inl (cI, 16, .inl p0_before_v))] sz)) 0 0 (va_A [(a_p0, .inr (0, [.ref a_p0_before, .ref a_p0_dinners, .int p0_size])), (a_p0_before, .inl (cI, 16, .inl p0_before_v))] sz) := by
  refine Met.ofW (cc := cX0_seatingBefore) (maxL := 2) (ret := (some .int)) (by decide) rfl ?_
  intro p e s m args below meth c s₁ B hml hv
  obtain ⟨rfl, hsz, hP, hK, hD0⟩ := hv
  have hx := B.exec
  have hb := B.bytes
  have hr := B.returns
  have hts := atoms_spec (ws := wsX0_seatingBefore) B.pre
  have hown : s.vm.findClass RX0 = some m.cls := findClass_of_methodNamed B.named
  have hlocks := B.notSynchronized
  subst hsz
  have hD := hD0.self (sz := s.heap.size)
  generalize hAe : va_A [(a_p0, .inr (0, [.ref a_p0_before, .ref a_p0_dinners, .int p0_size])), (a_p0_before, .inl (cI, 16, .inl p0_before_v))] s.heap.size = A at hD ⊢
  have hA : ∀ q : Nat, s.heap.size ≤ q → A q := fun q h => by rw [← hAe]; exact Or.inr h
  have hS : va_S A s.heap s.heap [] := va_S.rf
  have hP : va_P (dC, dI) vwCl [(a_p0, .inr (0, [.ref a_p0_before, .ref a_p0_dinners, .int p0_size])), (a_p0_before, .inl (cI, 16, .inl p0_before_v))] s.heap := hP
  have hl := lv_entry ([.ref a_p0, .int x1]) (n := 2) (Nat.le_of_ble_eq_true rfl)
  rw [lg_entry_eq]
  generalize (lg_sl ([.ref a_p0, .int x1]) ++ List.replicate (2 - (lg_sl ([.ref a_p0, .int x1])).length) Slot.unset).toArray = ls at hl ⊢
  have hl : lv_has ls 2 [(0, .ref a_p0), (1, .int x1)] := hl
  refine pw_Wq (R := rm_X0_seatingBefore) (fun Q hQ => ?_)
  obtain ⟨locs, elocs⟩ : ∃ y : List Loc, y = [] := ⟨_, rfl⟩
  rw [← elocs] at hS ⊢
  have h := hc
  unfold f_X0_seatingBefore at h
  refine lv_iload_n hx hb dX0_seatingBefore_0 rfl (lv_at hl 1 rfl) ?_
  refine lv_if_lt (tgt := 19) hx hb dX0_seatingBefore_1 (by decide) (fun c1 => ?_) (fun c1 => ?_)
  · have h := pw_cd_p c1 h
    refine lv_iconst (v := 0) hx hb dX0_seatingBefore_19 (by decide) ?_
    rw [hQ]
    exact W.iret (v := 0) hx hb hr (fun t ht hW => ⟨⟨0, (), rfl, hc.trans h.symm, by rw [ht]; exact hP, va_K.moved hW.alike hK, hD⟩, hS.F ht⟩) hS.2.2 dX0_seatingBefore_20
  · have h := pw_cd_n c1 h
    refine lv_iload_n hx hb dX0_seatingBefore_4 rfl (lv_at hl 1 rfl) ?_
    refine lv_bipush (v := 16) hx hb dX0_seatingBefore_5 (by decide) ?_
    refine lv_icmp_ge (tgt := 19) hx hb dX0_seatingBefore_7 (by decide) (fun c2 => ?_) (fun c2 => ?_)
    · have h := pw_cd_p c2 h
      refine lv_iconst (v := 0) hx hb dX0_seatingBefore_19 (by decide) ?_
      rw [hQ]
      exact W.iret (v := 0) hx hb hr (fun t ht hW => ⟨⟨0, (), rfl, hc.trans h.symm, by rw [ht]; exact hP, va_K.moved hW.alike hK, hD⟩, hS.F ht⟩) hS.2.2 dX0_seatingBefore_20
    · have h := pw_cd_n c2 h
      refine lv_aload_n hx hb dX0_seatingBefore_10 rfl (lv_at hl 0 rfl) ?_
      refine va_get (D := (dC, dI)) (ci := 0) (v := .ref a_p0_before) (C := RX0) (T := TX0) (N := 3) hx hb hts li_X0_seatingBefore_X0 hown hK hP 0 rfl rfl 0 (by decide) (hts _ lk_X0_seatingBefore_9) (fun _ h9 => h9) rfl dX0_seatingBefore_11 ?_
      refine lv_iload_n hx hb dX0_seatingBefore_14 rfl (lv_at hl 1 rfl) ?_
      obtain ⟨g3, h⟩ := pw_gd_e h
      refine va_iald hx hb hK hP 1 0 rfl rfl g3 dX0_seatingBefore_15 ?_
      refine lv_goto (tgt := 20) hx hb dX0_seatingBefore_16 (by decide) ?_
      rw [hQ]
      exact W.iret (v := (p0_before_v (Int32.toNatClampNeg x1))) hx hb hr (fun t ht hW => ⟨⟨(p0_before_v (Int32.toNatClampNeg x1)), (), rfl, hc.trans h.symm, by rw [ht]; exact hP, va_K.moved hW.alike hK, hD⟩, hS.F ht⟩) hS.2.2 dX0_seatingBefore_20
/-! X0_wasDinner -/
theorem li_X0_wasDinner_X0 : ∀ w ∈ u_ws RX0 TX0 3, w ∈ wsX0_wasDinner := fun w h => List.mem_cons_of_mem _ (List.mem_append_right _ h)
theorem lk_X0_wasDinner_15 : Cond.fieldLink RX0 15 "NoWifeBeside$Acts" "dinners" "[Z" ∈ wsX0_wasDinner := by decide +kernel
abbrev rm_X0_wasDinner : Room := { frames := 0, cells := 0, slots := 0, locals := 0 }
set_option maxRecDepth 100000 in
set_option maxHeartbeats 4000000 in
theorem c_X0_wasDinner (l : Launch) (dC : Nat → ClassId) (dI : Nat → Nat → Nat) (cI cZ : ClassId) (sz : Nat) (a_p0 : Nat) (a_p0_before : Nat) (a_p0_dinners : Nat) (p0_size : Int32) (p0_dinners_v : Nat → Int32) (x1 : Int32) (xx : Int32) (hc : f_X0_wasDinner x1 p0_dinners_v = some xx) : Met l yX0_wasDinner wsX0_wasDinner rm_X0_wasDinner (va_Pc [.ref a_p0, .int x1] (pw_pre (dC, dI) cI cZ [(a_p0, .inr (0, [.ref a_p0_before, .ref a_p0_dinners, .int p0_size])), (a_p0_dinners, .inl (cZ, 16, .inl p0_dinners_v))] sz)) (va_Qi (fun (r : Int32) (u : Unit) => f_X0_wasDinner x1 p0_dinners_v = some r) (fun u t => pw_post (dC, dI) cI cZ (va_A [(a_p0, .inr (0, [.ref a_p0_before, .ref a_p0_dinners, .int p0_size])), (a_p0_dinners, .inl (cZ, 16, .inl p0_dinners_v))] sz) [(a_p0, .inr (0, [.ref a_p0_before, .ref a_p0_dinners, .int p0_size])), (a_p0_dinners, .inl (cZ, 16, .inl p0_dinners_v))] t) (va_A [(a_p0, .inr (0, [.ref a_p0_before, .ref a_p0_dinners, .int p0_size])), (a_p0_dinners, .inl (cZ, 16, .inl p0_dinners_v))] sz)) 0 0 (va_A [(a_p0, .inr (0, [.ref a_p0_before, .ref a_p0_dinners, .int p0_size])), (a_p0_dinners, .inl (cZ, 16, .inl p0_dinners_v))] sz) := by
  refine Met.ofW (cc := cX0_wasDinner) (maxL := 2) (ret := (some .boolean)) (by decide) rfl ?_
  intro p e s m args below meth c s₁ B hml hv
  obtain ⟨rfl, hsz, hP, hK, hD0⟩ := hv
  have hx := B.exec
  have hb := B.bytes
  have hr := B.returns
  have hts := atoms_spec (ws := wsX0_wasDinner) B.pre
  have hown : s.vm.findClass RX0 = some m.cls := findClass_of_methodNamed B.named
  have hlocks := B.notSynchronized
  subst hsz
  have hD := hD0.self (sz := s.heap.size)
  generalize hAe : va_A [(a_p0, .inr (0, [.ref a_p0_before, .ref a_p0_dinners, .int p0_size])), (a_p0_dinners, .inl (cZ, 16, .inl p0_dinners_v))] s.heap.size = A at hD ⊢
  have hA : ∀ q : Nat, s.heap.size ≤ q → A q := fun q h => by rw [← hAe]; exact Or.inr h
  have hS : va_S A s.heap s.heap [] := va_S.rf
  have hP : va_P (dC, dI) vwCl [(a_p0, .inr (0, [.ref a_p0_before, .ref a_p0_dinners, .int p0_size])), (a_p0_dinners, .inl (cZ, 16, .inl p0_dinners_v))] s.heap := hP
  have hl := lv_entry ([.ref a_p0, .int x1]) (n := 2) (Nat.le_of_ble_eq_true rfl)
  rw [lg_entry_eq]
  generalize (lg_sl ([.ref a_p0, .int x1]) ++ List.replicate (2 - (lg_sl ([.ref a_p0, .int x1])).length) Slot.unset).toArray = ls at hl ⊢
  have hl : lv_has ls 2 [(0, .ref a_p0), (1, .int x1)] := hl
  refine pw_Wq (R := rm_X0_wasDinner) (fun Q hQ => ?_)
  obtain ⟨locs, elocs⟩ : ∃ y : List Loc, y = [] := ⟨_, rfl⟩
  rw [← elocs] at hS ⊢
  have h := hc
  unfold f_X0_wasDinner at h
  refine lv_iload_n hx hb dX0_wasDinner_0 rfl (lv_at hl 1 rfl) ?_
  refine lv_if_lt (tgt := 23) hx hb dX0_wasDinner_1 (by decide) (fun c1 => ?_) (fun c1 => ?_)
  · have h := pw_cd_p c1 h
    refine lv_iconst (v := 0) hx hb dX0_wasDinner_23 (by decide) ?_
    rw [hQ]
    exact W.zret (v := 0) hx hb hr rfl (fun t ht hW => ⟨⟨0, (), rfl, hc.trans h.symm, by rw [ht]; exact hP, va_K.moved hW.alike hK, hD⟩, hS.F ht⟩) hS.2.2 dX0_wasDinner_24
  · have h := pw_cd_n c1 h
    refine lv_iload_n hx hb dX0_wasDinner_4 rfl (lv_at hl 1 rfl) ?_
    refine lv_bipush (v := 16) hx hb dX0_wasDinner_5 (by decide) ?_
    refine lv_icmp_ge (tgt := 23) hx hb dX0_wasDinner_7 (by decide) (fun c2 => ?_) (fun c2 => ?_)
    · have h := pw_cd_p c2 h
      refine lv_iconst (v := 0) hx hb dX0_wasDinner_23 (by decide) ?_
      rw [hQ]
      exact W.zret (v := 0) hx hb hr rfl (fun t ht hW => ⟨⟨0, (), rfl, hc.trans h.symm, by rw [ht]; exact hP, va_K.moved hW.alike hK, hD⟩, hS.F ht⟩) hS.2.2 dX0_wasDinner_24
    · have h := pw_cd_n c2 h
      refine lv_aload_n hx hb dX0_wasDinner_10 rfl (lv_at hl 0 rfl) ?_
      refine va_get (D := (dC, dI)) (ci := 0) (v := .ref a_p0_dinners) (C := RX0) (T := TX0) (N := 3) hx hb hts li_X0_wasDinner_X0 hown hK hP 0 rfl rfl 1 (by decide) (hts _ lk_X0_wasDinner_15) (fun _ h9 => h9) rfl dX0_wasDinner_11 ?_
      refine lv_iload_n hx hb dX0_wasDinner_14 rfl (lv_at hl 1 rfl) ?_
      obtain ⟨g3, h⟩ := pw_gd_e h
      refine va_zald hx hb hK hP 1 1 rfl rfl g3 dX0_wasDinner_15 ?_
      refine lv_if_eq (tgt := 23) hx hb dX0_wasDinner_16 (by decide) (fun c4 => ?_) (fun c4 => ?_)
      · have h := pw_cd_p c4 h
        refine lv_iconst (v := 0) hx hb dX0_wasDinner_23 (by decide) ?_
        rw [hQ]
        exact W.zret (v := 0) hx hb hr rfl (fun t ht hW => ⟨⟨0, (), rfl, hc.trans h.symm, by rw [ht]; exact hP, va_K.moved hW.alike hK, hD⟩, hS.F ht⟩) hS.2.2 dX0_wasDinner_24
      · have h := pw_cd_n c4 h
        refine lv_iconst (v := 1) hx hb dX0_wasDinner_19 (by decide) ?_
        refine lv_goto (tgt := 24) hx hb dX0_wasDinner_20 (by decide) ?_
        rw [hQ]
        exact W.zret (v := 1) hx hb hr rfl (fun t ht hW => ⟨⟨1, (), rfl, hc.trans h.symm, by rw [ht]; exact hP, va_K.moved hW.alike hK, hD⟩, hS.F ht⟩) hS.2.2 dX0_wasDinner_24
/-! X1_add -/
theorem li_X1_add_X1 : ∀ w ∈ u_ws RX1 TX1 4, w ∈ wsX1_add := fun w h => List.mem_cons_of_mem _ (List.mem_append_right _ h)
theorem lk_X1_add_22 : Cond.fieldLink RX1 22 "NoWifeBeside$Gossips" "size" "I" ∈ wsX1_add := by decide +kernel
theorem lk_X1_add_9 : Cond.fieldLink RX1 9 "NoWifeBeside$Gossips" "ones" "[I" ∈ wsX1_add := by decide +kernel
theorem lk_X1_add_15 : Cond.fieldLink RX1 15 "NoWifeBeside$Gossips" "others" "[I" ∈ wsX1_add := by decide +kernel
theorem lk_X1_add_18 : Cond.fieldLink RX1 18 "NoWifeBeside$Gossips" "besides" "[Z" ∈ wsX1_add := by decide +kernel
abbrev rm_X1_add : Room := { frames := 0, cells := 0, slots := 0, locals := 0 }
set_option maxRecDepth 100000 in
set_option maxHeartbeats 4000000 in
theorem c_X1_add (l : Launch) (dC : Nat → ClassId) (dI : Nat → Nat → Nat) (cI cZ : ClassId) (sz : Nat) (a_p0 : Nat) (a_p0_ones : Nat) (a_p0_others : Nat) (a_p0_besides : Nat) (p0_size : Int32) (p0_ones_v : Nat → Int32) (p0_others_v : Nat → Int32) (p0_besides_v : Nat → Int32) (x1 : Int32) (x2 : Int32) (x3 : Int32) (xx : Int32 × (Nat → Int32) × (Nat → Int32) × (Nat → Int32)) (hc : f_X1_add x1 x2 x3 p0_size p0_ones_v p0_others_v p0_besides_v = some xx) : Met l yX1_add wsX1_add rm_X1_add (va_Pc [.ref a_p0, .int x1, .int x2, .int x3] (pw_pre (dC, dI) cI cZ [(a_p0, .inr (1, [.ref a_p0_ones, .ref a_p0_others, .ref a_p0_besides, .int p0_size])), (a_p0_ones, .inl (cI, 8, .inl p0_ones_v)), (a_p0_others, .inl (cI, 8, .inl p0_others_v)), (a_p0_besides, .inl (cZ, 8, .inl p0_besides_v))] sz)) (va_Qv (fun (u : Int32 × (Nat → Int32) × (Nat → Int32) × (Nat → Int32)) => f_X1_add x1 x2 x3 p0_size p0_ones_v p0_others_v p0_besides_v = some (u.1, u.2.1, u.2.2.1, u.2.2.2)) (fun u t => pw_post (dC, dI) cI cZ (va_A [(a_p0, .inr (1, [.ref a_p0_ones, .ref a_p0_others, .ref a_p0_besides, .int p0_size])), (a_p0_ones, .inl (cI, 8, .inl p0_ones_v)), (a_p0_others, .inl (cI, 8, .inl p0_others_v)), (a_p0_besides, .inl (cZ, 8, .inl p0_besides_v))] sz) [(a_p0, .inr (1, [.ref a_p0_ones, .ref a_p0_others, .ref a_p0_besides, .int u.1])), (a_p0_ones, .inl (cI, 8, .inl u.2.1)), (a_p0_others, .inl (cI, 8, .inl u.2.2.1)), (a_p0_besides, .inl (cZ, 8, .inl u.2.2.2))] t) (va_A [(a_p0, .inr (1, [.ref a_p0_ones, .ref a_p0_others, .ref a_p0_besides, .int p0_size])), (a_p0_ones, .inl (cI, 8, .inl p0_ones_v)), (a_p0_others, .inl (cI, 8, .inl p0_others_v)), (a_p0_besides, .inl (cZ, 8, .inl p0_besides_v))] sz)) 0 0 (va_A [(a_p0, .inr (1, [.ref a_p0_ones, .ref a_p0_others, .ref a_p0_besides, .int p0_size])), (a_p0_ones, .inl (cI, 8, .inl p0_ones_v)), (a_p0_others, .inl (cI, 8, .inl p0_others_v)), (a_p0_besides, .inl (cZ, 8, .inl p0_besides_v))] sz) := by
  refine Met.ofW (cc := cX1_add) (maxL := 4) (ret := none) (by decide) rfl ?_
  intro p e s m args below meth c s₁ B hml hv
  obtain ⟨rfl, hsz, hP, hK, hD0⟩ := hv
  have hx := B.exec
  have hb := B.bytes
  have hr := B.returns
  have hts := atoms_spec (ws := wsX1_add) B.pre
  have hown : s.vm.findClass RX1 = some m.cls := findClass_of_methodNamed B.named
  have hlocks := B.notSynchronized
  subst hsz
  have hD := hD0.self (sz := s.heap.size)
  generalize hAe : va_A [(a_p0, .inr (1, [.ref a_p0_ones, .ref a_p0_others, .ref a_p0_besides, .int p0_size])), (a_p0_ones, .inl (cI, 8, .inl p0_ones_v)), (a_p0_others, .inl (cI, 8, .inl p0_others_v)), (a_p0_besides, .inl (cZ, 8, .inl p0_besides_v))] s.heap.size = A at hD ⊢
  have hA : ∀ q : Nat, s.heap.size ≤ q → A q := fun q h => by rw [← hAe]; exact Or.inr h
  have hS : va_S A s.heap s.heap [] := va_S.rf
  have hP : va_P (dC, dI) vwCl [(a_p0, .inr (1, [.ref a_p0_ones, .ref a_p0_others, .ref a_p0_besides, .int p0_size])), (a_p0_ones, .inl (cI, 8, .inl p0_ones_v)), (a_p0_others, .inl (cI, 8, .inl p0_others_v)), (a_p0_besides, .inl (cZ, 8, .inl p0_besides_v))] s.heap := hP
  have hl := lv_entry ([.ref a_p0, .int x1, .int x2, .int x3]) (n := 4) (Nat.le_of_ble_eq_true rfl)
  rw [lg_entry_eq]
  generalize (lg_sl ([.ref a_p0, .int x1, .int x2, .int x3]) ++ List.replicate (4 - (lg_sl ([.ref a_p0, .int x1, .int x2, .int x3])).length) Slot.unset).toArray = ls at hl ⊢
  have hl : lv_has ls 4 [(0, .ref a_p0), (1, .int x1), (2, .int x2), (3, .int x3)] := hl
  refine pw_Wq (R := rm_X1_add) (fun Q hQ => ?_)
  obtain ⟨locs, elocs⟩ : ∃ y : List Loc, y = [] := ⟨_, rfl⟩
  rw [← elocs] at hS ⊢
  have h := hc
  unfold f_X1_add at h
  refine lv_aload_n hx hb dX1_add_0 rfl (lv_at hl 0 rfl) ?_
  refine va_get (D := (dC, dI)) (ci := 1) (v := .int p0_size) (C := RX1) (T := TX1) (N := 4) hx hb hts li_X1_add_X1 hown hK hP 0 rfl rfl 3 (by decide) (hts _ lk_X1_add_22) (fun _ h9 => h9) rfl dX1_add_1 ?_
  refine lv_if_lt (tgt := 56) hx hb dX1_add_4 (by decide) (fun c1 => ?_) (fun c1 => ?_)
  · have h := pw_cd_p c1 h
    rw [hQ]
    exact W.vret hx hb hr (fun t ht hW => ⟨⟨(p0_size, p0_ones_v, p0_others_v, p0_besides_v), rfl, hc.trans h.symm, by rw [ht]; exact hP, va_K.moved hW.alike hK, hD⟩, hS.F ht⟩) hS.2.2 dX1_add_56
  · have h := pw_cd_n c1 h
    refine lv_aload_n hx hb dX1_add_7 rfl (lv_at hl 0 rfl) ?_
    refine va_get (D := (dC, dI)) (ci := 1) (v := .int p0_size) (C := RX1) (T := TX1) (N := 4) hx hb hts li_X1_add_X1 hown hK hP 0 rfl rfl 3 (by decide) (hts _ lk_X1_add_22) (fun _ h9 => h9) rfl dX1_add_8 ?_
    refine lv_bipush (v := 8) hx hb dX1_add_11 (by decide) ?_
    refine lv_icmp_ge (tgt := 56) hx hb dX1_add_13 (by decide) (fun c2 => ?_) (fun c2 => ?_)
    · have h := pw_cd_p c2 h
      rw [hQ]
      exact W.vret hx hb hr (fun t ht hW => ⟨⟨(p0_size, p0_ones_v, p0_others_v, p0_besides_v), rfl, hc.trans h.symm, by rw [ht]; exact hP, va_K.moved hW.alike hK, hD⟩, hS.F ht⟩) hS.2.2 dX1_add_56
    · have h := pw_cd_n c2 h
      refine lv_aload_n hx hb dX1_add_16 rfl (lv_at hl 0 rfl) ?_
      refine va_get (D := (dC, dI)) (ci := 1) (v := .ref a_p0_ones) (C := RX1) (T := TX1) (N := 4) hx hb hts li_X1_add_X1 hown hK hP 0 rfl rfl 0 (by decide) (hts _ lk_X1_add_9) (fun _ h9 => h9) rfl dX1_add_17 ?_
      refine lv_aload_n hx hb dX1_add_20 rfl (lv_at hl 0 rfl) ?_
      refine va_get (D := (dC, dI)) (ci := 1) (v := .int p0_size) (C := RX1) (T := TX1) (N := 4) hx hb hts li_X1_add_X1 hown hK hP 0 rfl rfl 3 (by decide) (hts _ lk_X1_add_22) (fun _ h9 => h9) rfl dX1_add_21 ?_
      refine lv_iload_n hx hb dX1_add_24 rfl (lv_at hl 1 rfl) ?_
      obtain ⟨g3, h⟩ := pw_gd_e h
      refine va_iast hx hb hK hP hD hS 1 0 rfl rfl g3 dX1_add_25 (fun H locs hP hD hS => ?_)
      obtain ⟨f4, ef4⟩ : ∃ y : Nat → Int32, y = (upd p0_ones_v (Int32.toNatClampNeg p0_size) x1) := ⟨_, rfl⟩
      have h := pw_lt_e ef4 h
      rw [← ef4] at hP hD
      have hP : va_P (dC, dI) vwCl [(a_p0, .inr (1, [.ref a_p0_ones, .ref a_p0_others, .ref a_p0_besides, .int p0_size])), (a_p0_ones, .inl (cI, 8, .inl f4)), (a_p0_others, .inl (cI, 8, .inl p0_others_v)), (a_p0_besides, .inl (cZ, 8, .inl p0_besides_v))] H := hP
      have hD : va_D A [(a_p0, .inr (1, [.ref a_p0_ones, .ref a_p0_others, .ref a_p0_besides, .int p0_size])), (a_p0_ones, .inl (cI, 8, .inl f4)), (a_p0_others, .inl (cI, 8, .inl p0_others_v)), (a_p0_besides, .inl (cZ, 8, .inl p0_besides_v))] := hD
      refine lv_aload_n hx hb dX1_add_26 rfl (lv_at hl 0 rfl) ?_
      refine va_get (D := (dC, dI)) (ci := 1) (v := .ref a_p0_others) (C := RX1) (T := TX1) (N := 4) hx hb hts li_X1_add_X1 hown hK hP 0 rfl rfl 1 (by decide) (hts _ lk_X1_add_15) (fun _ h9 => h9) rfl dX1_add_27 ?_
      refine lv_aload_n hx hb dX1_add_30 rfl (lv_at hl 0 rfl) ?_
      refine va_get (D := (dC, dI)) (ci := 1) (v := .int p0_size) (C := RX1) (T := TX1) (N := 4) hx hb hts li_X1_add_X1 hown hK hP 0 rfl rfl 3 (by decide) (hts _ lk_X1_add_22) (fun _ h9 => h9) rfl dX1_add_31 ?_
      refine lv_iload_n hx hb dX1_add_34 rfl (lv_at hl 2 rfl) ?_
      obtain ⟨g5, h⟩ := pw_gd_e h
      refine va_iast hx hb hK hP hD hS 2 0 rfl rfl g5 dX1_add_35 (fun H locs hP hD hS => ?_)
      obtain ⟨f6, ef6⟩ : ∃ y : Nat → Int32, y = (upd p0_others_v (Int32.toNatClampNeg p0_size) x2) := ⟨_, rfl⟩
      have h := pw_lt_e ef6 h
      rw [← ef6] at hP hD
      have hP : va_P (dC, dI) vwCl [(a_p0, .inr (1, [.ref a_p0_ones, .ref a_p0_others, .ref a_p0_besides, .int p0_size])), (a_p0_ones, .inl (cI, 8, .inl f4)), (a_p0_others, .inl (cI, 8, .inl f6)), (a_p0_besides, .inl (cZ, 8, .inl p0_besides_v))] H := hP
      have hD : va_D A [(a_p0, .inr (1, [.ref a_p0_ones, .ref a_p0_others, .ref a_p0_besides, .int p0_size])), (a_p0_ones, .inl (cI, 8, .inl f4)), (a_p0_others, .inl (cI, 8, .inl f6)), (a_p0_besides, .inl (cZ, 8, .inl p0_besides_v))] := hD
      refine lv_aload_n hx hb dX1_add_36 rfl (lv_at hl 0 rfl) ?_
      refine va_get (D := (dC, dI)) (ci := 1) (v := .ref a_p0_besides) (C := RX1) (T := TX1) (N := 4) hx hb hts li_X1_add_X1 hown hK hP 0 rfl rfl 2 (by decide) (hts _ lk_X1_add_18) (fun _ h9 => h9) rfl dX1_add_37 ?_
      refine lv_aload_n hx hb dX1_add_40 rfl (lv_at hl 0 rfl) ?_
      refine va_get (D := (dC, dI)) (ci := 1) (v := .int p0_size) (C := RX1) (T := TX1) (N := 4) hx hb hts li_X1_add_X1 hown hK hP 0 rfl rfl 3 (by decide) (hts _ lk_X1_add_22) (fun _ h9 => h9) rfl dX1_add_41 ?_
      refine lv_iload_n hx hb dX1_add_44 rfl (lv_at hl 3 rfl) ?_
      obtain ⟨g7, h⟩ := pw_gd_e h
      refine va_zast hx hb hK hP hD hS 3 1 rfl rfl g7 dX1_add_45 (fun H locs hP hD hS => ?_)
      obtain ⟨f8, ef8⟩ : ∃ y : Nat → Int32, y = (upd p0_besides_v (Int32.toNatClampNeg p0_size) (vp_nar .boolean x3)) := ⟨_, rfl⟩
      have h := pw_lt_e ef8 h
      rw [← ef8] at hP hD
      have hP : va_P (dC, dI) vwCl [(a_p0, .inr (1, [.ref a_p0_ones, .ref a_p0_others, .ref a_p0_besides, .int p0_size])), (a_p0_ones, .inl (cI, 8, .inl f4)), (a_p0_others, .inl (cI, 8, .inl f6)), (a_p0_besides, .inl (cZ, 8, .inl f8))] H := hP
      have hD : va_D A [(a_p0, .inr (1, [.ref a_p0_ones, .ref a_p0_others, .ref a_p0_besides, .int p0_size])), (a_p0_ones, .inl (cI, 8, .inl f4)), (a_p0_others, .inl (cI, 8, .inl f6)), (a_p0_besides, .inl (cZ, 8, .inl f8))] := hD
      refine lv_aload_n hx hb dX1_add_46 rfl (lv_at hl 0 rfl) ?_
      refine lv_dup hx hb dX1_add_47 rfl ?_
      refine va_get (D := (dC, dI)) (ci := 1) (v := .int p0_size) (C := RX1) (T := TX1) (N := 4) hx hb hts li_X1_add_X1 hown hK hP 0 rfl rfl 3 (by decide) (hts _ lk_X1_add_22) (fun _ h9 => h9) rfl dX1_add_48 ?_
      refine lv_iconst (v := 1) hx hb dX1_add_51 (by decide) ?_
      refine lv_iadd hx hb dX1_add_52 ?_
      refine lv_topi (fun v9 ev9 => ?_)
      have h := pw_lt_e ev9 h
      refine va_put (D := (dC, dI)) (ci := 1) (v := .int v9) (ty := .int) (C := RX1) (T := TX1) (N := 4) hx hb hts li_X1_add_X1 tyX1 tyX1_ok nmX1 hown hK hP hD hS 0 rfl rfl 3 (by decide) (hts _ lk_X1_add_22) (fun _ h9 => h9) rfl (by decide +kernel) rfl rfl (Nat.le_of_ble_eq_true rfl) dX1_add_53 (fun H locs hP hD hS => ?_)
      have hP : va_P (dC, dI) vwCl [(a_p0, .inr (1, [.ref a_p0_ones, .ref a_p0_others, .ref a_p0_besides, .int v9])), (a_p0_ones, .inl (cI, 8, .inl f4)), (a_p0_others, .inl (cI, 8, .inl f6)), (a_p0_besides, .inl (cZ, 8, .inl f8))] H := hP
      have hD : va_D A [(a_p0, .inr (1, [.ref a_p0_ones, .ref a_p0_others, .ref a_p0_besides, .int v9])), (a_p0_ones, .inl (cI, 8, .inl f4)), (a_p0_others, .inl (cI, 8, .inl f6)), (a_p0_besides, .inl (cZ, 8, .inl f8))] := hD
      rw [hQ]
      exact W.vret hx hb hr (fun t ht hW => ⟨⟨(v9, f4, f6, f8), rfl, hc.trans h.symm, by rw [ht]; exact hP, va_K.moved hW.alike hK, hD⟩, hS.F ht⟩) hS.2.2 dX1_add_56
/-! X1_fitsBut -/
theorem li_X1_fitsBut_X1 : ∀ w ∈ u_ws RX1 TX1 4, w ∈ wsX1_fitsBut := fun w h => List.mem_cons_of_mem _ (List.mem_append_left _ (List.mem_append_right _ h))
theorem lk_X1_fitsBut_22 : Cond.fieldLink RX1 22 "NoWifeBeside$Gossips" "size" "I" ∈ wsX1_fitsBut := by decide +kernel
theorem lk_X1_fitsBut_9 : Cond.fieldLink RX1 9 "NoWifeBeside$Gossips" "ones" "[I" ∈ wsX1_fitsBut := by decide +kernel
theorem lk_X1_fitsBut_15 : Cond.fieldLink RX1 15 "NoWifeBeside$Gossips" "others" "[I" ∈ wsX1_fitsBut := by decide +kernel
theorem lk_X1_fitsBut_18 : Cond.fieldLink RX1 18 "NoWifeBeside$Gossips" "besides" "[Z" ∈ wsX1_fitsBut := by decide +kernel
abbrev rm_X1_fitsBut : Room := { frames := 2, cells := 0, slots := 0, locals := 48 }
set_option maxRecDepth 100000 in
set_option maxHeartbeats 4000000 in
theorem lw_X1_fitsBut_13 {p : Program} {l : Launch} {e : Env} {s : State} {m : MethodId} {args : Array Value} {below : List Frame} {meth : Method} {c : Code} {Q : State → Prop} {dC : Nat → ClassId} {dI : Nat → Nat → Nat} {cI cZ : ClassId} {A : Nat → Prop} (hx : p.tables.exec = Jvm.exec) (hb : c.code = cX1_fitsBut) (hml : c.maxLocals = 9) (hown : s.vm.findClass RX1 = some m.cls) (hts : ∀ w ∈ wsX1_fitsBut, w.before args s = true) (hA : ∀ q : Nat, s.heap.size ≤ q → A q) (hK : va_K (dC, dI) vwCl [(cI, .int), (cZ, .boolean)] s) (a_p0 : Nat) (a_p0_ones : Nat) (a_p0_others : Nat) (a_p0_besides : Nat) (a_p2 : Nat) (a_p2_worths : Nat) (l1 : Int32) (l4 : Int64) (p0_size : Int32) (p0_ones_v : Nat → Int32) (p0_others_v : Nat → Int32) (p0_besides_v : Nat → Int32) (p2_round : Int32) (p2_byTurns : Int32) (p2_apart : Int32) (p2_people : Int32) (p2_women : Int32) (p2_couples : Int64) (p2_quarrels : Int64) (p2_togethers : Int64) (p2_barred : Int64) :
    ∀ (n : Nat) (l6 : Int32) (l7 : Int32) (xx : Int32), lf_X1_fitsBut_13 l1 l4 p0_size p0_ones_v p0_others_v p0_besides_v p2_people n l6 l7 = some xx → ((∀ (e_l6 : Int32), e_l6 = xx → ∀ (H : Heap) (locs : List Loc) (ls : Array Slot), va_P (dC, dI) vwCl [(a_p0, .inr (1, [.ref a_p0_ones, .ref a_p0_others, .ref a_p0_besides, .int p0_size])), (a_p0_ones, .inl (cI, 8, .inl p0_ones_v)), (a_p0_others, .inl (cI, 8, .inl p0_others_v)), (a_p0_besides, .inl (cZ, 8, .inl p0_besides_v)), (a_p2, .inr (3, [.int p2_round, .int p2_byTurns, .int p2_apart, .int p2_people, .int p2_women, .long p2_couples, .long p2_quarrels, .long p2_togethers, .long p2_barred, .ref a_p2_worths]))] H → va_D A [(a_p0, .inr (1, [.ref a_p0_ones, .ref a_p0_others, .ref a_p0_besides, .int p0_size])), (a_p0_ones, .inl (cI, 8, .inl p0_ones_v)), (a_p0_others, .inl (cI, 8, .inl p0_others_v)), (a_p0_besides, .inl (cZ, 8, .inl p0_besides_v)), (a_p2, .inr (3, [.int p2_round, .int p2_byTurns, .int p2_apart, .int p2_people, .int p2_women, .long p2_couples, .long p2_quarrels, .long p2_togethers, .long p2_barred, .ref a_p2_worths]))] → va_S A s.heap H locs → lv_has ls 9 [(1, .int l1), (6, .int e_l6)] → W p l e rm_X1_fitsBut s m args below meth c H locs 0 0 Q (F0 m 109 ls []))) → ∀ (H : Heap) (locs : List Loc) (ls : Array Slot), va_P (dC, dI) vwCl [(a_p0, .inr (1, [.ref a_p0_ones, .ref a_p0_others, .ref a_p0_besides, .int p0_size])), (a_p0_ones, .inl (cI, 8, .inl p0_ones_v)), (a_p0_others, .inl (cI, 8, .inl p0_others_v)), (a_p0_besides, .inl (cZ, 8, .inl p0_besides_v)), (a_p2, .inr (3, [.int p2_round, .int p2_byTurns, .int p2_apart, .int p2_people, .int p2_women, .long p2_couples, .long p2_quarrels, .long p2_togethers, .long p2_barred, .ref a_p2_worths]))] H → va_D A [(a_p0, .inr (1, [.ref a_p0_ones, .ref a_p0_others, .ref a_p0_besides, .int p0_size])), (a_p0_ones, .inl (cI, 8, .inl p0_ones_v)), (a_p0_others, .inl (cI, 8, .inl p0_others_v)), (a_p0_besides, .inl (cZ, 8, .inl p0_besides_v)), (a_p2, .inr (3, [.int p2_round, .int p2_byTurns, .int p2_apart, .int p2_people, .int p2_women, .long p2_couples, .long p2_quarrels, .long p2_togethers, .long p2_barred, .ref a_p2_worths]))] → va_S A s.heap H locs → lv_has ls 9 [(0, .ref a_p0), (1, .int l1), (2, .ref a_p2), (4, .long l4), (6, .int l6), (7, .int l7)] → W p l e rm_X1_fitsBut s m args below meth c H locs 0 0 Q (F0 m 13 ls []) := by
  intro n
  induction n with
  | zero =>
    intro l6 l7 xx h
    rw [lf_X1_fitsBut_13] at h
    cases h
  | succ n ih =>
    intro l6 l7 xx h KK H locs ls hP hD hS hl
    rw [lf_X1_fitsBut_13] at h
    refine lv_iload hx hb dX1_fitsBut_13 (lv_at hl 5 rfl) ?_
    refine lv_aload_n hx hb dX1_fitsBut_15 rfl (lv_at hl 0 rfl) ?_
    refine va_get (D := (dC, dI)) (ci := 1) (v := .int p0_size) (C := RX1) (T := TX1) (N := 4) hx hb hts li_X1_fitsBut_X1 hown hK hP 0 rfl rfl 3 (by decide) (hts _ lk_X1_fitsBut_22) (fun _ h9 => h9) rfl dX1_fitsBut_16 ?_
    refine lv_icmp_ge (tgt := 109) hx hb dX1_fitsBut_19 (by decide) (fun c4 => ?_) (fun c4 => ?_)
    · have h := pw_cd_p c4 h
      have hl := lv_sub (l' := [(1, .int l1), (6, .int l6)]) hl [1, 4] rfl
      exact KK l6 (Option.some.inj h) _ locs ls hP hD hS hl
    · have h := pw_cd_n c4 h
      refine lv_iload hx hb dX1_fitsBut_22 (lv_at hl 5 rfl) ?_
      refine lv_bipush (v := 8) hx hb dX1_fitsBut_24 (by decide) ?_
      refine lv_icmp_ge (tgt := 109) hx hb dX1_fitsBut_26 (by decide) (fun c5 => ?_) (fun c5 => ?_)
      · have h := pw_cd_p c5 h
        have hl := lv_sub (l' := [(1, .int l1), (6, .int l6)]) hl [1, 4] rfl
        exact KK l6 (Option.some.inj h) _ locs ls hP hD hS hl
      · have h := pw_cd_n c5 h
        refine lv_iload hx hb dX1_fitsBut_29 (lv_at hl 4 rfl) ?_
        refine lv_iload_n hx hb dX1_fitsBut_31 rfl (lv_at hl 1 rfl) ?_
        refine lv_icmp_gt (tgt := 109) hx hb dX1_fitsBut_32 (by decide) (fun c6 => ?_) (fun c6 => ?_)
        · have h := pw_cd_p c6 h
          have hl := lv_sub (l' := [(1, .int l1), (6, .int l6)]) hl [1, 4] rfl
          exact KK l6 (Option.some.inj h) _ locs ls hP hD hS hl
        · have h := pw_cd_n c6 h
          refine lv_lload hx hb dX1_fitsBut_35 (lv_at hl 3 rfl) ?_
          refine lv_aload_n hx hb dX1_fitsBut_37 rfl (lv_at hl 0 rfl) ?_
          refine va_get (D := (dC, dI)) (ci := 1) (v := .ref a_p0_ones) (C := RX1) (T := TX1) (N := 4) hx hb hts li_X1_fitsBut_X1 hown hK hP 0 rfl rfl 0 (by decide) (hts _ lk_X1_fitsBut_9) (fun _ h9 => h9) rfl dX1_fitsBut_38 ?_
          refine lv_iload hx hb dX1_fitsBut_41 (lv_at hl 5 rfl) ?_
          obtain ⟨g7, h⟩ := pw_gd_e h
          refine va_iald hx hb hK hP 1 0 rfl rfl g7 dX1_fitsBut_43 ?_
          refine lv_aload_n hx hb dX1_fitsBut_44 rfl (lv_at hl 0 rfl) ?_
          refine va_get (D := (dC, dI)) (ci := 1) (v := .ref a_p0_others) (C := RX1) (T := TX1) (N := 4) hx hb hts li_X1_fitsBut_X1 hown hK hP 0 rfl rfl 1 (by decide) (hts _ lk_X1_fitsBut_15) (fun _ h9 => h9) rfl dX1_fitsBut_45 ?_
          refine lv_iload hx hb dX1_fitsBut_48 (lv_at hl 5 rfl) ?_
          obtain ⟨g8, h⟩ := pw_gd_e h
          refine va_iald hx hb hK hP 2 0 rfl rfl g8 dX1_fitsBut_50 ?_
          refine pw_cl (wr := [(a_p0, .inr (1, [.ref a_p0_ones, .ref a_p0_others, .ref a_p0_besides, .int p0_size])), (a_p0_ones, .inl (cI, 8, .inl p0_ones_v)), (a_p0_others, .inl (cI, 8, .inl p0_others_v)), (a_p0_besides, .inl (cZ, 8, .inl p0_besides_v)), (a_p2, .inr (3, [.int p2_round, .int p2_byTurns, .int p2_apart, .int p2_people, .int p2_women, .long p2_couples, .long p2_quarrels, .long p2_togethers, .long p2_barred, .ref a_p2_worths]))]) (va_runS (As := [.int (p0_ones_v (Int32.toNatClampNeg l7)), .int (p0_others_v (Int32.toNatClampNeg l7))]) (rest := [.long l4]) ⟨hx, hb, hml, hown, hts⟩ (c_X3_bothWays l dC dI cI cZ H.size (p0_ones_v (Int32.toNatClampNeg l7)) (p0_others_v (Int32.toNatClampNeg l7))) (va_cwS 2 hts gX1_fitsBut_X3_bothWays rfl rfl rfl (by decide +kernel) ⟨(Nat.le_of_ble_eq_true rfl), (Nat.le_of_ble_eq_true rfl)⟩) (pw_preS hK hP hD [] rfl rfl (by decide)) rfl rfl hl.1 rfl (lv_room (Nat.le_of_ble_eq_true rfl)) dX1_fitsBut_51 ⟨(Nat.le_of_ble_eq_true rfl), (Nat.le_of_ble_eq_true rfl)⟩) hP hD hS hA [] [0, 1, 2, 3, 4] rfl rfl (by decide) (by decide) (fun r9 u H locs hw hP hD hS => ?_)
          have h := pw_lt_e hw h
          have hP : va_P (dC, dI) vwCl [(a_p0, .inr (1, [.ref a_p0_ones, .ref a_p0_others, .ref a_p0_besides, .int p0_size])), (a_p0_ones, .inl (cI, 8, .inl p0_ones_v)), (a_p0_others, .inl (cI, 8, .inl p0_others_v)), (a_p0_besides, .inl (cZ, 8, .inl p0_besides_v)), (a_p2, .inr (3, [.int p2_round, .int p2_byTurns, .int p2_apart, .int p2_people, .int p2_women, .long p2_couples, .long p2_quarrels, .long p2_togethers, .long p2_barred, .ref a_p2_worths]))] H := hP
          have hD : va_D A [(a_p0, .inr (1, [.ref a_p0_ones, .ref a_p0_others, .ref a_p0_besides, .int p0_size])), (a_p0_ones, .inl (cI, 8, .inl p0_ones_v)), (a_p0_others, .inl (cI, 8, .inl p0_others_v)), (a_p0_besides, .inl (cZ, 8, .inl p0_besides_v)), (a_p2, .inr (3, [.int p2_round, .int p2_byTurns, .int p2_apart, .int p2_people, .int p2_women, .long p2_couples, .long p2_quarrels, .long p2_togethers, .long p2_barred, .ref a_p2_worths]))] := hD
          refine lv_land hx hb dX1_fitsBut_54 ?_
          refine lv_lconst (v := 0) hx hb dX1_fitsBut_55 (by decide) ?_
          refine W.lcmp hx hb dX1_fitsBut_56 ?_
          obtain ⟨k14, hk14, h⟩ := pw_lk_e h
          have K15 : ∀ (j13 : Int32), k14 j13 = some xx → ∀ (H : Heap) (locs : List Loc) (ls : Array Slot), va_P (dC, dI) vwCl [(a_p0, .inr (1, [.ref a_p0_ones, .ref a_p0_others, .ref a_p0_besides, .int p0_size])), (a_p0_ones, .inl (cI, 8, .inl p0_ones_v)), (a_p0_others, .inl (cI, 8, .inl p0_others_v)), (a_p0_besides, .inl (cZ, 8, .inl p0_besides_v)), (a_p2, .inr (3, [.int p2_round, .int p2_byTurns, .int p2_apart, .int p2_people, .int p2_women, .long p2_couples, .long p2_quarrels, .long p2_togethers, .long p2_barred, .ref a_p2_worths]))] H → va_D A [(a_p0, .inr (1, [.ref a_p0_ones, .ref a_p0_others, .ref a_p0_besides, .int p0_size])), (a_p0_ones, .inl (cI, 8, .inl p0_ones_v)), (a_p0_others, .inl (cI, 8, .inl p0_others_v)), (a_p0_besides, .inl (cZ, 8, .inl p0_besides_v)), (a_p2, .inr (3, [.int p2_round, .int p2_byTurns, .int p2_apart, .int p2_people, .int p2_women, .long p2_couples, .long p2_quarrels, .long p2_togethers, .long p2_barred, .ref a_p2_worths]))] → va_S A s.heap H locs → lv_has ls 9 [(0, .ref a_p0), (1, .int l1), (2, .ref a_p2), (4, .long l4), (6, .int l6), (7, .int l7)] → W p l e rm_X1_fitsBut s m args below meth c H locs 0 0 Q (F0 m 65 ls [.int j13]) := by
            intro j13 h H locs ls hP hD hS hl
            have h := pw_jk1 hk14 h
            refine lv_istore (lv' := [(8, .int j13), (0, .ref a_p0), (1, .int l1), (2, .ref a_p2), (4, .long l4), (6, .int l6), (7, .int l7)]) hx hb dX1_fitsBut_65 hl (by decide) rfl (fun ls hl => ?_)
            refine lv_iload hx hb dX1_fitsBut_67 (lv_at hl 0 rfl) ?_
            refine lv_aload_n hx hb dX1_fitsBut_69 rfl (lv_at hl 1 rfl) ?_
            refine va_get (D := (dC, dI)) (ci := 1) (v := .ref a_p0_besides) (C := RX1) (T := TX1) (N := 4) hx hb hts li_X1_fitsBut_X1 hown hK hP 0 rfl rfl 2 (by decide) (hts _ lk_X1_fitsBut_18) (fun _ h9 => h9) rfl dX1_fitsBut_70 ?_
            refine lv_iload hx hb dX1_fitsBut_73 (lv_at hl 6 rfl) ?_
            obtain ⟨g16, h⟩ := pw_gd_e h
            refine va_zald hx hb hK hP 3 1 rfl rfl g16 dX1_fitsBut_75 ?_
            refine lv_icmp_eq (tgt := 103) hx hb dX1_fitsBut_76 (by decide) (fun c17 => ?_) (fun c17 => ?_)
            · have h := pw_cd_p c17 h
              refine lv_iinc (v := (l7 + 1)) (lv' := [(7, .int (l7 + 1)), (8, .int j13), (0, .ref a_p0), (1, .int l1), (2, .ref a_p2), (4, .long l4), (6, .int l6)]) hx hb dX1_fitsBut_103 hl (k := 6) rfl rfl (by decide) rfl (fun ls hl => ?_)
              refine lv_goto (tgt := 13) hx hb dX1_fitsBut_106 (by decide) ?_
              have hl := lv_sub (l' := [(0, .ref a_p0), (1, .int l1), (2, .ref a_p2), (4, .long l4), (6, .int l6), (7, .int (l7 + 1))]) hl [2, 3, 4, 5, 6, 0] rfl
              exact ih l6 (l7 + 1) xx h KK _ locs ls hP hD hS hl
            · have h := pw_cd_n c17 h
              refine lv_aload_n hx hb dX1_fitsBut_79 rfl (lv_at hl 3 rfl) ?_
              refine lv_aload_n hx hb dX1_fitsBut_80 rfl (lv_at hl 1 rfl) ?_
              refine va_get (D := (dC, dI)) (ci := 1) (v := .ref a_p0_ones) (C := RX1) (T := TX1) (N := 4) hx hb hts li_X1_fitsBut_X1 hown hK hP 0 rfl rfl 0 (by decide) (hts _ lk_X1_fitsBut_9) (fun _ h9 => h9) rfl dX1_fitsBut_81 ?_
              refine lv_iload hx hb dX1_fitsBut_84 (lv_at hl 6 rfl) ?_
              obtain ⟨g18, h⟩ := pw_gd_e h
              refine va_iald hx hb hK hP 1 0 rfl rfl g18 dX1_fitsBut_86 ?_
              refine lv_aload_n hx hb dX1_fitsBut_87 rfl (lv_at hl 1 rfl) ?_
              refine va_get (D := (dC, dI)) (ci := 1) (v := .ref a_p0_others) (C := RX1) (T := TX1) (N := 4) hx hb hts li_X1_fitsBut_X1 hown hK hP 0 rfl rfl 1 (by decide) (hts _ lk_X1_fitsBut_15) (fun _ h9 => h9) rfl dX1_fitsBut_88 ?_
              refine lv_iload hx hb dX1_fitsBut_91 (lv_at hl 6 rfl) ?_
              obtain ⟨g19, h⟩ := pw_gd_e h
              refine va_iald hx hb hK hP 2 0 rfl rfl g19 dX1_fitsBut_93 ?_
              refine pw_ci (wr := [(a_p0, .inr (1, [.ref a_p0_ones, .ref a_p0_others, .ref a_p0_besides, .int p0_size])), (a_p0_ones, .inl (cI, 8, .inl p0_ones_v)), (a_p0_others, .inl (cI, 8, .inl p0_others_v)), (a_p0_besides, .inl (cZ, 8, .inl p0_besides_v))]) (va_runV (As := [.int (p0_ones_v (Int32.toNatClampNeg l7)), .int (p0_others_v (Int32.toNatClampNeg l7))]) (rest := []) ⟨hx, hb, hml, hown, hts⟩ (c_X4_hasBoth l dC dI cI cZ H.size a_p2 a_p2_worths p2_round p2_byTurns p2_apart p2_people p2_women p2_couples p2_quarrels p2_togethers p2_barred (p0_ones_v (Int32.toNatClampNeg l7)) (p0_others_v (Int32.toNatClampNeg l7))) (cwV 2 hts gX1_fitsBut_X4_hasBoth rfl rfl rfl (by decide +kernel) ⟨(Nat.le_of_ble_eq_true rfl), (Nat.le_of_ble_eq_true rfl)⟩) (pw_preV hK hP hD [4] rfl rfl (by decide) 3 rfl rfl) rfl rfl hl.1 rfl (lv_room (Nat.le_of_ble_eq_true rfl)) dX1_fitsBut_94 ⟨(Nat.le_of_ble_eq_true rfl), (Nat.le_of_ble_eq_true rfl)⟩) hP hD hS hA [4] [0, 1, 2, 3] rfl rfl (by decide) (by decide) (fun r20 u H locs hw hP hD hS => ?_)
              have h := pw_lt_e hw h
              have hP : va_P (dC, dI) vwCl [(a_p0, .inr (1, [.ref a_p0_ones, .ref a_p0_others, .ref a_p0_besides, .int p0_size])), (a_p0_ones, .inl (cI, 8, .inl p0_ones_v)), (a_p0_others, .inl (cI, 8, .inl p0_others_v)), (a_p0_besides, .inl (cZ, 8, .inl p0_besides_v)), (a_p2, .inr (3, [.int p2_round, .int p2_byTurns, .int p2_apart, .int p2_people, .int p2_women, .long p2_couples, .long p2_quarrels, .long p2_togethers, .long p2_barred, .ref a_p2_worths]))] H := hP
              have hD : va_D A [(a_p0, .inr (1, [.ref a_p0_ones, .ref a_p0_others, .ref a_p0_besides, .int p0_size])), (a_p0_ones, .inl (cI, 8, .inl p0_ones_v)), (a_p0_others, .inl (cI, 8, .inl p0_others_v)), (a_p0_besides, .inl (cZ, 8, .inl p0_besides_v)), (a_p2, .inr (3, [.int p2_round, .int p2_byTurns, .int p2_apart, .int p2_people, .int p2_women, .long p2_couples, .long p2_quarrels, .long p2_togethers, .long p2_barred, .ref a_p2_worths]))] := hD
              refine lv_if_eq (tgt := 103) hx hb dX1_fitsBut_97 (by decide) (fun c23 => ?_) (fun c23 => ?_)
              · have h := pw_cd_p c23 h
                refine lv_iinc (v := (l7 + 1)) (lv' := [(7, .int (l7 + 1)), (8, .int j13), (0, .ref a_p0), (1, .int l1), (2, .ref a_p2), (4, .long l4), (6, .int l6)]) hx hb dX1_fitsBut_103 hl (k := 6) rfl rfl (by decide) rfl (fun ls hl => ?_)
                refine lv_goto (tgt := 13) hx hb dX1_fitsBut_106 (by decide) ?_
                have hl := lv_sub (l' := [(0, .ref a_p0), (1, .int l1), (2, .ref a_p2), (4, .long l4), (6, .int l6), (7, .int (l7 + 1))]) hl [2, 3, 4, 5, 6, 0] rfl
                exact ih l6 (l7 + 1) xx h KK _ locs ls hP hD hS hl
              · have h := pw_cd_n c23 h
                refine lv_iinc (v := (l6 + 1)) (lv' := [(6, .int (l6 + 1)), (8, .int j13), (0, .ref a_p0), (1, .int l1), (2, .ref a_p2), (4, .long l4), (7, .int l7)]) hx hb dX1_fitsBut_100 hl (k := 5) rfl rfl (by decide) rfl (fun ls hl => ?_)
                refine lv_iinc (v := (l7 + 1)) (lv' := [(7, .int (l7 + 1)), (6, .int (l6 + 1)), (8, .int j13), (0, .ref a_p0), (1, .int l1), (2, .ref a_p2), (4, .long l4)]) hx hb dX1_fitsBut_103 hl (k := 6) rfl rfl (by decide) rfl (fun ls hl => ?_)
                refine lv_goto (tgt := 13) hx hb dX1_fitsBut_106 (by decide) ?_
                have hl := lv_sub (l' := [(0, .ref a_p0), (1, .int l1), (2, .ref a_p2), (4, .long l4), (6, .int (l6 + 1)), (7, .int (l7 + 1))]) hl [3, 4, 5, 6, 1, 0] rfl
                exact ih (l6 + 1) (l7 + 1) xx h KK _ locs ls hP hD hS hl
          refine lv_if_eq (tgt := 64) hx hb dX1_fitsBut_57 (by decide) (fun c12 => ?_) (fun c12 => ?_)
          · have h := pw_lt_p c12 h
            refine lv_iconst (v := 0) hx hb dX1_fitsBut_64 (by decide) ?_
            exact K15 0 (pw_lt_0 h) _ locs ls hP hD hS hl
          · have h := pw_lt_n c12 h
            refine lv_iconst (v := 1) hx hb dX1_fitsBut_60 (by decide) ?_
            refine lv_goto (tgt := 65) hx hb dX1_fitsBut_61 (by decide) ?_
            exact K15 1 (pw_lt_0 h) _ locs ls hP hD hS hl
set_option maxRecDepth 100000 in
set_option maxHeartbeats 4000000 in
theorem c_X1_fitsBut (l : Launch) (dC : Nat → ClassId) (dI : Nat → Nat → Nat) (cI cZ : ClassId) (sz : Nat) (a_p0 : Nat) (a_p0_ones : Nat) (a_p0_others : Nat) (a_p0_besides : Nat) (a_p2 : Nat) (a_p2_worths : Nat) (p0_size : Int32) (p0_ones_v : Nat → Int32) (p0_others_v : Nat → Int32) (p0_besides_v : Nat → Int32) (p2_round : Int32) (p2_byTurns : Int32) (p2_apart : Int32) (p2_people : Int32) (p2_women : Int32) (p2_couples : Int64) (p2_quarrels : Int64) (p2_togethers : Int64) (p2_barred : Int64) (x1 : Int32) (x3 : Int32) (xx : Int32) (hc : f_X1_fitsBut x1 x3 p0_size p0_ones_v p0_others_v p0_besides_v p2_round p2_people = some xx) : Met l yX1_fitsBut wsX1_fitsBut rm_X1_fitsBut (va_Pc [.ref a_p0, .int x1, .ref a_p2, .int x3] (pw_pre (dC, dI) cI cZ [(a_p0, .inr (1, [.ref a_p0_ones, .ref a_p0_others, .ref a_p0_besides, .int p0_size])), (a_p0_ones, .inl (cI, 8, .inl p0_ones_v)), (a_p0_others, .inl (cI, 8, .inl p0_others_v)), (a_p0_besides, .inl (cZ, 8, .inl p0_besides_v)), (a_p2, .inr (3, [.int p2_round, .int p2_byTurns, .int p2_apart, .int p2_people, .int p2_women, .long p2_couples, .long p2_quarrels, .long p2_togethers, .long p2_barred, .ref a_p2_worths]))] sz)) (va_Qi (fun (r : Int32) (u : Unit) => f_X1_fitsBut x1 x3 p0_size p0_ones_v p0_others_v p0_besides_v p2_round p2_people = some r) (fun u t => pw_post (dC, dI) cI cZ (va_A [(a_p0, .inr (1, [.ref a_p0_ones, .ref a_p0_others, .ref a_p0_besides, .int p0_size])), (a_p0_ones, .inl (cI, 8, .inl p0_ones_v)), (a_p0_others, .inl (cI, 8, .inl p0_others_v)), (a_p0_besides, .inl (cZ, 8, .inl p0_besides_v)), (a_p2, .inr (3, [.int p2_round, .int p2_byTurns, .int p2_apart, .int p2_people, .int p2_women, .long p2_couples, .long p2_quarrels, .long p2_togethers, .long p2_barred, .ref a_p2_worths]))] sz) [(a_p0, .inr (1, [.ref a_p0_ones, .ref a_p0_others, .ref a_p0_besides, .int p0_size])), (a_p0_ones, .inl (cI, 8, .inl p0_ones_v)), (a_p0_others, .inl (cI, 8, .inl p0_others_v)), (a_p0_besides, .inl (cZ, 8, .inl p0_besides_v)), (a_p2, .inr (3, [.int p2_round, .int p2_byTurns, .int p2_apart, .int p2_people, .int p2_women, .long p2_couples, .long p2_quarrels, .long p2_togethers, .long p2_barred, .ref a_p2_worths]))] t) (va_A [(a_p0, .inr (1, [.ref a_p0_ones, .ref a_p0_others, .ref a_p0_besides, .int p0_size])), (a_p0_ones, .inl (cI, 8, .inl p0_ones_v)), (a_p0_others, .inl (cI, 8, .inl p0_others_v)), (a_p0_besides, .inl (cZ, 8, .inl p0_besides_v)), (a_p2, .inr (3, [.int p2_round, .int p2_byTurns, .int p2_apart, .int p2_people, .int p2_women, .long p2_couples, .long p2_quarrels, .long p2_togethers, .long p2_barred, .ref a_p2_worths]))] sz)) 0 0 (va_A [(a_p0, .inr (1, [.ref a_p0_ones, .ref a_p0_others, .ref a_p0_besides, .int p0_size])), (a_p0_ones, .inl (cI, 8, .inl p0_ones_v)), (a_p0_others, .inl (cI, 8, .inl p0_others_v)), (a_p0_besides, .inl (cZ, 8, .inl p0_besides_v)), (a_p2, .inr (3, [.int p2_round, .int p2_byTurns, .int p2_apart, .int p2_people, .int p2_women, .long p2_couples, .long p2_quarrels, .long p2_togethers, .long p2_barred, .ref a_p2_worths]))] sz) := by
  refine Met.ofW (cc := cX1_fitsBut) (maxL := 9) (ret := (some .boolean)) (by decide) rfl ?_
  intro p e s m args below meth c s₁ B hml hv
  obtain ⟨rfl, hsz, hP, hK, hD0⟩ := hv
  have hx := B.exec
  have hb := B.bytes
  have hr := B.returns
  have hts := atoms_spec (ws := wsX1_fitsBut) B.pre
  have hown : s.vm.findClass RX1 = some m.cls := findClass_of_methodNamed B.named
  have hlocks := B.notSynchronized
  subst hsz
  have hD := hD0.self (sz := s.heap.size)
  generalize hAe : va_A [(a_p0, .inr (1, [.ref a_p0_ones, .ref a_p0_others, .ref a_p0_besides, .int p0_size])), (a_p0_ones, .inl (cI, 8, .inl p0_ones_v)), (a_p0_others, .inl (cI, 8, .inl p0_others_v)), (a_p0_besides, .inl (cZ, 8, .inl p0_besides_v)), (a_p2, .inr (3, [.int p2_round, .int p2_byTurns, .int p2_apart, .int p2_people, .int p2_women, .long p2_couples, .long p2_quarrels, .long p2_togethers, .long p2_barred, .ref a_p2_worths]))] s.heap.size = A at hD ⊢
  have hA : ∀ q : Nat, s.heap.size ≤ q → A q := fun q h => by rw [← hAe]; exact Or.inr h
  have hS : va_S A s.heap s.heap [] := va_S.rf
  have hP : va_P (dC, dI) vwCl [(a_p0, .inr (1, [.ref a_p0_ones, .ref a_p0_others, .ref a_p0_besides, .int p0_size])), (a_p0_ones, .inl (cI, 8, .inl p0_ones_v)), (a_p0_others, .inl (cI, 8, .inl p0_others_v)), (a_p0_besides, .inl (cZ, 8, .inl p0_besides_v)), (a_p2, .inr (3, [.int p2_round, .int p2_byTurns, .int p2_apart, .int p2_people, .int p2_women, .long p2_couples, .long p2_quarrels, .long p2_togethers, .long p2_barred, .ref a_p2_worths]))] s.heap := hP
  have hl := lv_entry ([.ref a_p0, .int x1, .ref a_p2, .int x3]) (n := 9) (Nat.le_of_ble_eq_true rfl)
  rw [lg_entry_eq]
  generalize (lg_sl ([.ref a_p0, .int x1, .ref a_p2, .int x3]) ++ List.replicate (9 - (lg_sl ([.ref a_p0, .int x1, .ref a_p2, .int x3])).length) Slot.unset).toArray = ls at hl ⊢
  have hl : lv_has ls 9 [(0, .ref a_p0), (1, .int x1), (2, .ref a_p2), (3, .int x3)] := hl
  refine pw_Wq (R := rm_X1_fitsBut) (fun Q hQ => ?_)
  obtain ⟨locs, elocs⟩ : ∃ y : List Loc, y = [] := ⟨_, rfl⟩
  rw [← elocs] at hS ⊢
  have h := hc
  unfold f_X1_fitsBut at h
  refine lv_aload_n hx hb dX1_fitsBut_0 rfl (lv_at hl 2 rfl) ?_
  refine lv_iload_n hx hb dX1_fitsBut_1 rfl (lv_at hl 3 rfl) ?_
  obtain ⟨xx3, hc2, h⟩ := pw_bd_e h
  refine pw_cl (wr := [(a_p0, .inr (1, [.ref a_p0_ones, .ref a_p0_others, .ref a_p0_besides, .int p0_size])), (a_p0_ones, .inl (cI, 8, .inl p0_ones_v)), (a_p0_others, .inl (cI, 8, .inl p0_others_v)), (a_p0_besides, .inl (cZ, 8, .inl p0_besides_v))]) (va_runV (As := [.int x3]) (rest := []) ⟨hx, hb, hml, hown, hts⟩ (c_X4_neighbours l dC dI cI cZ s.heap.size a_p2 a_p2_worths p2_round p2_byTurns p2_apart p2_people p2_women p2_couples p2_quarrels p2_togethers p2_barred x3 xx3 hc2) (cwV 1 hts gX1_fitsBut_X4_neighbours rfl rfl rfl (by decide +kernel) ⟨(Nat.le_of_ble_eq_true rfl), (Nat.le_of_ble_eq_true rfl)⟩) (pw_preV hK hP hD [4] rfl rfl (by decide) 3 rfl rfl) rfl rfl hl.1 rfl (lv_room (Nat.le_of_ble_eq_true rfl)) dX1_fitsBut_2 ⟨(Nat.le_of_ble_eq_true rfl), (Nat.le_of_ble_eq_true rfl)⟩) hP hD hS hA [4] [0, 1, 2, 3] rfl rfl (by decide) (by decide) (fun r1 u H locs hw hP hD hS => ?_)
  have ex : r1 = xx3 := Option.some.inj (hw.symm.trans hc2)
  subst ex
  have h := pw_u1_e h
  have hP : va_P (dC, dI) vwCl [(a_p0, .inr (1, [.ref a_p0_ones, .ref a_p0_others, .ref a_p0_besides, .int p0_size])), (a_p0_ones, .inl (cI, 8, .inl p0_ones_v)), (a_p0_others, .inl (cI, 8, .inl p0_others_v)), (a_p0_besides, .inl (cZ, 8, .inl p0_besides_v)), (a_p2, .inr (3, [.int p2_round, .int p2_byTurns, .int p2_apart, .int p2_people, .int p2_women, .long p2_couples, .long p2_quarrels, .long p2_togethers, .long p2_barred, .ref a_p2_worths]))] H := hP
  have hD : va_D A [(a_p0, .inr (1, [.ref a_p0_ones, .ref a_p0_others, .ref a_p0_besides, .int p0_size])), (a_p0_ones, .inl (cI, 8, .inl p0_ones_v)), (a_p0_others, .inl (cI, 8, .inl p0_others_v)), (a_p0_besides, .inl (cZ, 8, .inl p0_besides_v)), (a_p2, .inr (3, [.int p2_round, .int p2_byTurns, .int p2_apart, .int p2_people, .int p2_women, .long p2_couples, .long p2_quarrels, .long p2_togethers, .long p2_barred, .ref a_p2_worths]))] := hD
  refine lv_lstore (lv' := [(4, .long r1), (0, .ref a_p0), (1, .int x1), (2, .ref a_p2), (3, .int x3)]) hx hb dX1_fitsBut_5 hl (by decide) rfl (fun ls hl => ?_)
  refine lv_iconst (v := 0) hx hb dX1_fitsBut_7 (by decide) ?_
  refine lv_istore (lv' := [(6, .int 0), (4, .long r1), (0, .ref a_p0), (1, .int x1), (2, .ref a_p2), (3, .int x3)]) hx hb dX1_fitsBut_8 hl (by decide) rfl (fun ls hl => ?_)
  refine lv_iconst (v := 0) hx hb dX1_fitsBut_10 (by decide) ?_
  refine lv_istore (lv' := [(7, .int 0), (6, .int 0), (4, .long r1), (0, .ref a_p0), (1, .int x1), (2, .ref a_p2), (3, .int x3)]) hx hb dX1_fitsBut_11 hl (by decide) rfl (fun ls hl => ?_)
  have hl := lv_sub (l' := [(0, .ref a_p0), (1, .int x1), (2, .ref a_p2), (4, .long r1), (6, .int 0), (7, .int 0)]) hl [3, 4, 5, 2, 1, 0] rfl
  obtain ⟨xx24, hL25, h⟩ := pw_bd_e h
  refine lw_X1_fitsBut_13 hx hb hml hown hts hA hK a_p0 a_p0_ones a_p0_others a_p0_besides a_p2 a_p2_worths x1 r1 p0_size p0_ones_v p0_others_v p0_besides_v p2_round p2_byTurns p2_apart p2_people p2_women p2_couples p2_quarrels p2_togethers p2_barred pw_FU 0 0 xx24 hL25 ?_ _ locs ls hP hD hS hl
  intro y26 ex H locs ls hP hD hS hl
  subst ex
  have h := pw_u1_e h
  refine lv_iload hx hb dX1_fitsBut_109 (lv_at hl 1 rfl) ?_
  refine lv_iload_n hx hb dX1_fitsBut_111 rfl (lv_at hl 0 rfl) ?_
  refine lv_icmp_gt (tgt := 119) hx hb dX1_fitsBut_112 (by decide) (fun c27 => ?_) (fun c27 => ?_)
  · have h := pw_cd_p c27 h
    refine lv_iconst (v := 0) hx hb dX1_fitsBut_119 (by decide) ?_
    rw [hQ]
    exact W.zret (v := 0) hx hb hr rfl (fun t ht hW => ⟨⟨0, (), rfl, hc.trans h.symm, by rw [ht]; exact hP, va_K.moved hW.alike hK, hD⟩, hS.F ht⟩) hS.2.2 dX1_fitsBut_120
  · have h := pw_cd_n c27 h
    refine lv_iconst (v := 1) hx hb dX1_fitsBut_115 (by decide) ?_
    refine lv_goto (tgt := 120) hx hb dX1_fitsBut_116 (by decide) ?_
    rw [hQ]
    exact W.zret (v := 1) hx hb hr rfl (fun t ht hW => ⟨⟨1, (), rfl, hc.trans h.symm, by rw [ht]; exact hP, va_K.moved hW.alike hK, hD⟩, hS.F ht⟩) hS.2.2 dX1_fitsBut_120
/-! X9_add -/
theorem li_X9_add_X9 : ∀ w ∈ u_ws RX9 TX9 2, w ∈ wsX9_add := fun w h => List.mem_cons_of_mem _ (List.mem_append_right _ h)
theorem lk_X9_add_15 : Cond.fieldLink RX9 15 "NoWifeBeside$Text" "length" "I" ∈ wsX9_add := by decide +kernel
theorem lk_X9_add_9 : Cond.fieldLink RX9 9 "NoWifeBeside$Text" "signs" "[I" ∈ wsX9_add := by decide +kernel
abbrev rm_X9_add : Room := { frames := 0, cells := 0, slots := 0, locals := 0 }
set_option maxRecDepth 100000 in
set_option maxHeartbeats 4000000 in
theorem lw_X9_add_5 {p : Program} {l : Launch} {e : Env} {s : State} {m : MethodId} {args : Array Value} {below : List Frame} {meth : Method} {c : Code} {Q : State → Prop} {dC : Nat → ClassId} {dI : Nat → Nat → Nat} {cI cZ : ClassId} {A : Nat → Prop} (hx : p.tables.exec = Jvm.exec) (hb : c.code = cX9_add) (hml : c.maxLocals = 5) (hown : s.vm.findClass RX9 = some m.cls) (hts : ∀ w ∈ wsX9_add, w.before args s = true) (hA : ∀ q : Nat, s.heap.size ≤ q → A q) (hK : va_K (dC, dI) vwCl [(cI, .int), (cZ, .boolean)] s) (a_p0 : Nat) (a_p0_signs : Nat) (l2 : Int64) :
    ∀ (n : Nat) (l4 : Int32) (p0_length : Int32) (p0_signs_v : Nat → Int32) (xx : Int32 × (Nat → Int32)), lf_X9_add_5 l2 n l4 p0_length p0_signs_v = some xx → ((∀ (e_p0_length : Int32) (e_p0_signs_v : Nat → Int32), (e_p0_length, e_p0_signs_v) = xx → ∀ (H : Heap) (locs : List Loc) (ls : Array Slot), va_P (dC, dI) vwCl [(a_p0, .inr (7, [.ref a_p0_signs, .int e_p0_length])), (a_p0_signs, .inl (cI, 64, .inl e_p0_signs_v))] H → va_D A [(a_p0, .inr (7, [.ref a_p0_signs, .int e_p0_length])), (a_p0_signs, .inl (cI, 64, .inl e_p0_signs_v))] → va_S A s.heap H locs → lv_has ls 5 [] → W p l e rm_X9_add s m args below meth c H locs 0 0 Q (F0 m 59 ls []))) → ∀ (H : Heap) (locs : List Loc) (ls : Array Slot), va_P (dC, dI) vwCl [(a_p0, .inr (7, [.ref a_p0_signs, .int p0_length])), (a_p0_signs, .inl (cI, 64, .inl p0_signs_v))] H → va_D A [(a_p0, .inr (7, [.ref a_p0_signs, .int p0_length])), (a_p0_signs, .inl (cI, 64, .inl p0_signs_v))] → va_S A s.heap H locs → lv_has ls 5 [(0, .ref a_p0), (2, .long l2), (4, .int l4)] → W p l e rm_X9_add s m args below meth c H locs 0 0 Q (F0 m 5 ls []) := by
  intro n
  induction n with
  | zero =>
    intro l4 p0_length p0_signs_v xx h
    rw [lf_X9_add_5] at h
    cases h
  | succ n ih =>
    intro l4 p0_length p0_signs_v xx h KK H locs ls hP hD hS hl
    rw [lf_X9_add_5] at h
    refine lv_iload hx hb dX9_add_5 (lv_at hl 2 rfl) ?_
    refine lv_if_lt (tgt := 59) hx hb dX9_add_7 (by decide) (fun c2 => ?_) (fun c2 => ?_)
    · have h := pw_cd_p c2 h
      have hl := lv_sub (l' := []) hl [] rfl
      exact KK p0_length p0_signs_v (Option.some.inj h) _ locs ls hP hD hS hl
    · have h := pw_cd_n c2 h
      refine lv_aload_n hx hb dX9_add_10 rfl (lv_at hl 0 rfl) ?_
      refine va_get (D := (dC, dI)) (ci := 7) (v := .int p0_length) (C := RX9) (T := TX9) (N := 2) hx hb hts li_X9_add_X9 hown hK hP 0 rfl rfl 1 (by decide) (hts _ lk_X9_add_15) (fun _ h9 => h9) rfl dX9_add_11 ?_
      refine lv_aload_n hx hb dX9_add_14 rfl (lv_at hl 0 rfl) ?_
      refine va_get (D := (dC, dI)) (ci := 7) (v := .ref a_p0_signs) (C := RX9) (T := TX9) (N := 2) hx hb hts li_X9_add_X9 hown hK hP 0 rfl rfl 0 (by decide) (hts _ lk_X9_add_9) (fun _ h9 => h9) rfl dX9_add_15 ?_
      refine va_alen hx hb hK hP 1 0 rfl rfl (v := 64) rfl dX9_add_18 ?_
      refine lv_topi (fun v3 ev3 => ?_)
      have h := pw_lt_e ev3 h
      refine lv_icmp_ge (tgt := 59) hx hb dX9_add_19 (by decide) (fun c4 => ?_) (fun c4 => ?_)
      · have h := pw_cd_p c4 h
        have hl := lv_sub (l' := []) hl [] rfl
        exact KK p0_length p0_signs_v (Option.some.inj h) _ locs ls hP hD hS hl
      · have h := pw_cd_n c4 h
        refine lv_aload_n hx hb dX9_add_22 rfl (lv_at hl 0 rfl) ?_
        refine va_get (D := (dC, dI)) (ci := 7) (v := .ref a_p0_signs) (C := RX9) (T := TX9) (N := 2) hx hb hts li_X9_add_X9 hown hK hP 0 rfl rfl 0 (by decide) (hts _ lk_X9_add_9) (fun _ h9 => h9) rfl dX9_add_23 ?_
        refine lv_aload_n hx hb dX9_add_26 rfl (lv_at hl 0 rfl) ?_
        refine va_get (D := (dC, dI)) (ci := 7) (v := .int p0_length) (C := RX9) (T := TX9) (N := 2) hx hb hts li_X9_add_X9 hown hK hP 0 rfl rfl 1 (by decide) (hts _ lk_X9_add_15) (fun _ h9 => h9) rfl dX9_add_27 ?_
        refine lv_lload_n hx hb dX9_add_30 rfl (lv_at hl 1 rfl) ?_
        refine lv_bipush (v := 8) hx hb dX9_add_31 (by decide) ?_
        refine lv_iload hx hb dX9_add_33 (lv_at hl 2 rfl) ?_
        refine lv_imul hx hb dX9_add_35 ?_
        refine lv_lushr hx hb dX9_add_36 (v := (Int64.toUInt64 l2 >>> (Int64.toUInt64 (Int32.toInt64 (8 * l4)) &&& Int64.toUInt64 63)).toInt64) rfl ?_
        refine lv_l2i hx hb dX9_add_37 (v := (Int64.toInt32 ((Int64.toUInt64 l2 >>> (Int64.toUInt64 (Int32.toInt64 (8 * l4)) &&& Int64.toUInt64 63)).toInt64))) rfl ?_
        refine lv_sipush (v := 255) hx hb dX9_add_38 (by decide) ?_
        refine lv_iand hx hb dX9_add_41 ?_
        refine lv_topi (fun v5 ev5 => ?_)
        have h := pw_lt_e ev5 h
        obtain ⟨g6, h⟩ := pw_gd_e h
        refine va_iast hx hb hK hP hD hS 1 0 rfl rfl g6 dX9_add_42 (fun H locs hP hD hS => ?_)
        obtain ⟨f7, ef7⟩ : ∃ y : Nat → Int32, y = (upd p0_signs_v (Int32.toNatClampNeg p0_length) v5) := ⟨_, rfl⟩
        have h := pw_lt_e ef7 h
        rw [← ef7] at hP hD
        have hP : va_P (dC, dI) vwCl [(a_p0, .inr (7, [.ref a_p0_signs, .int p0_length])), (a_p0_signs, .inl (cI, 64, .inl f7))] H := hP
        have hD : va_D A [(a_p0, .inr (7, [.ref a_p0_signs, .int p0_length])), (a_p0_signs, .inl (cI, 64, .inl f7))] := hD
        refine lv_aload_n hx hb dX9_add_43 rfl (lv_at hl 0 rfl) ?_
        refine lv_dup hx hb dX9_add_44 rfl ?_
        refine va_get (D := (dC, dI)) (ci := 7) (v := .int p0_length) (C := RX9) (T := TX9) (N := 2) hx hb hts li_X9_add_X9 hown hK hP 0 rfl rfl 1 (by decide) (hts _ lk_X9_add_15) (fun _ h9 => h9) rfl dX9_add_45 ?_
        refine lv_iconst (v := 1) hx hb dX9_add_48 (by decide) ?_
        refine lv_iadd hx hb dX9_add_49 ?_
        refine lv_topi (fun v8 ev8 => ?_)
        have h := pw_lt_e ev8 h
        refine va_put (D := (dC, dI)) (ci := 7) (v := .int v8) (ty := .int) (C := RX9) (T := TX9) (N := 2) hx hb hts li_X9_add_X9 tyX9 tyX9_ok nmX9 hown hK hP hD hS 0 rfl rfl 1 (by decide) (hts _ lk_X9_add_15) (fun _ h9 => h9) rfl (by decide +kernel) rfl rfl (Nat.le_of_ble_eq_true rfl) dX9_add_50 (fun H locs hP hD hS => ?_)
        have hP : va_P (dC, dI) vwCl [(a_p0, .inr (7, [.ref a_p0_signs, .int v8])), (a_p0_signs, .inl (cI, 64, .inl f7))] H := hP
        have hD : va_D A [(a_p0, .inr (7, [.ref a_p0_signs, .int v8])), (a_p0_signs, .inl (cI, 64, .inl f7))] := hD
        refine lv_iinc (v := (l4 + (-1))) (lv' := [(4, .int (l4 + (-1))), (0, .ref a_p0), (2, .long l2)]) hx hb dX9_add_53 hl (k := 2) rfl rfl (by decide) rfl (fun ls hl => ?_)
        refine lv_goto (tgt := 5) hx hb dX9_add_56 (by decide) ?_
        have hl := lv_sub (l' := [(0, .ref a_p0), (2, .long l2), (4, .int (l4 + (-1)))]) hl [1, 2, 0] rfl
        exact ih (l4 + (-1)) v8 f7 xx h KK _ locs ls hP hD hS hl
set_option maxRecDepth 100000 in
set_option maxHeartbeats 4000000 in
theorem c_X9_add (l : Launch) (dC : Nat → ClassId) (dI : Nat → Nat → Nat) (cI cZ : ClassId) (sz : Nat) (a_p0 : Nat) (a_p0_signs : Nat) (p0_length : Int32) (p0_signs_v : Nat → Int32) (x1 : Int32) (x2 : Int64) (xx : Int32 × (Nat → Int32)) (hc : f_X9_add x1 x2 p0_length p0_signs_v = some xx) : Met l yX9_add wsX9_add rm_X9_add (va_Pc [.ref a_p0, .int x1, .long x2] (pw_pre (dC, dI) cI cZ [(a_p0, .inr (7, [.ref a_p0_signs, .int p0_length])), (a_p0_signs, .inl (cI, 64, .inl p0_signs_v))] sz)) (va_Qv (fun (u : Int32 × (Nat → Int32)) => f_X9_add x1 x2 p0_length p0_signs_v = some (u.1, u.2)) (fun u t => pw_post (dC, dI) cI cZ (va_A [(a_p0, .inr (7, [.ref a_p0_signs, .int p0_length])), (a_p0_signs, .inl (cI, 64, .inl p0_signs_v))] sz) [(a_p0, .inr (7, [.ref a_p0_signs, .int u.1])), (a_p0_signs, .inl (cI, 64, .inl u.2))] t) (va_A [(a_p0, .inr (7, [.ref a_p0_signs, .int p0_length])), (a_p0_signs, .inl (cI, 64, .inl p0_signs_v))] sz)) 0 0 (va_A [(a_p0, .inr (7, [.ref a_p0_signs, .int p0_length])), (a_p0_signs, .inl (cI, 64, .inl p0_signs_v))] sz) := by
  refine Met.ofW (cc := cX9_add) (maxL := 5) (ret := none) (by decide) rfl ?_
  intro p e s m args below meth c s₁ B hml hv
  obtain ⟨rfl, hsz, hP, hK, hD0⟩ := hv
  have hx := B.exec
  have hb := B.bytes
  have hr := B.returns
  have hts := atoms_spec (ws := wsX9_add) B.pre
  have hown : s.vm.findClass RX9 = some m.cls := findClass_of_methodNamed B.named
  have hlocks := B.notSynchronized
  subst hsz
  have hD := hD0.self (sz := s.heap.size)
  generalize hAe : va_A [(a_p0, .inr (7, [.ref a_p0_signs, .int p0_length])), (a_p0_signs, .inl (cI, 64, .inl p0_signs_v))] s.heap.size = A at hD ⊢
  have hA : ∀ q : Nat, s.heap.size ≤ q → A q := fun q h => by rw [← hAe]; exact Or.inr h
  have hS : va_S A s.heap s.heap [] := va_S.rf
  have hP : va_P (dC, dI) vwCl [(a_p0, .inr (7, [.ref a_p0_signs, .int p0_length])), (a_p0_signs, .inl (cI, 64, .inl p0_signs_v))] s.heap := hP
  have hl := lv_entry ([.ref a_p0, .int x1, .long x2]) (n := 5) (Nat.le_of_ble_eq_true rfl)
  rw [lg_entry_eq]
  generalize (lg_sl ([.ref a_p0, .int x1, .long x2]) ++ List.replicate (5 - (lg_sl ([.ref a_p0, .int x1, .long x2])).length) Slot.unset).toArray = ls at hl ⊢
  have hl : lv_has ls 5 [(0, .ref a_p0), (1, .int x1), (2, .long x2)] := hl
  refine pw_Wq (R := rm_X9_add) (fun Q hQ => ?_)
  obtain ⟨locs, elocs⟩ : ∃ y : List Loc, y = [] := ⟨_, rfl⟩
  rw [← elocs] at hS ⊢
  have h := hc
  unfold f_X9_add at h
  refine lv_iload_n hx hb dX9_add_0 rfl (lv_at hl 1 rfl) ?_
  refine lv_iconst (v := 1) hx hb dX9_add_1 (by decide) ?_
  refine lv_isub hx hb dX9_add_2 ?_
  refine lv_topi (fun v1 ev1 => ?_)
  have h := pw_lt_e ev1 h
  refine lv_istore (lv' := [(4, .int v1), (0, .ref a_p0), (1, .int x1), (2, .long x2)]) hx hb dX9_add_3 hl (by decide) rfl (fun ls hl => ?_)
  have hl := lv_sub (l' := [(0, .ref a_p0), (2, .long x2), (4, .int v1)]) hl [1, 3, 0] rfl
  obtain ⟨xx9, hL10, h⟩ := pw_bd_e h
  refine lw_X9_add_5 hx hb hml hown hts hA hK a_p0 a_p0_signs x2 pw_FU v1 p0_length p0_signs_v xx9 hL10 ?_ _ locs ls hP hD hS hl
  intro y11 y12 ex H locs ls hP hD hS hl
  subst ex
  have h := pw_u2_e h
  rw [hQ]
  exact W.vret hx hb hr (fun t ht hW => ⟨⟨(y11, y12), rfl, hc.trans h.symm, by rw [ht]; exact hP, va_K.moved hW.alike hK, hD⟩, hS.F ht⟩) hS.2.2 dX9_add_59
/-! X8_begin -/
theorem li_X8_begin_X8 : ∀ w ∈ u_ws RX8 TX8 3, w ∈ wsX8_begin := fun w h => List.mem_cons_of_mem _ (List.mem_append_right _ h)
theorem lk_X8_begin_17 : Cond.fieldLink RX8 17 "NoWifeBeside$Table" "seating" "I" ∈ wsX8_begin := by decide +kernel
theorem lk_X8_begin_11 : Cond.fieldLink RX8 11 "NoWifeBeside$Table" "dined" "[I" ∈ wsX8_begin := by decide +kernel
abbrev rm_X8_begin : Room := { frames := 2, cells := 0, slots := 0, locals := 45 }
set_option maxRecDepth 100000 in
set_option maxHeartbeats 4000000 in
theorem lw_X8_begin_10 {p : Program} {l : Launch} {e : Env} {s : State} {m : MethodId} {args : Array Value} {below : List Frame} {meth : Method} {c : Code} {Q : State → Prop} {dC : Nat → ClassId} {dI : Nat → Nat → Nat} {cI cZ : ClassId} {A : Nat → Prop} (hx : p.tables.exec = Jvm.exec) (hb : c.code = cX8_begin) (hml : c.maxLocals = 3) (hown : s.vm.findClass RX8 = some m.cls) (hts : ∀ w ∈ wsX8_begin, w.before args s = true) (hA : ∀ q : Nat, s.heap.size ≤ q → A q) (hK : va_K (dC, dI) vwCl [(cI, .int), (cZ, .boolean)] s) (a_p0 : Nat) (a_p0_dined : Nat) (p0_seating : Int32) (p0_kept : Int32) :
    ∀ (n : Nat) (l2 : Int32) (p0_dined_v : Nat → Int32) (xx : (Nat → Int32)), lf_X8_begin_10 n l2 p0_dined_v = some xx → ((∀ (e_p0_dined_v : Nat → Int32), e_p0_dined_v = xx → ∀ (H : Heap) (locs : List Loc) (ls : Array Slot), va_P (dC, dI) vwCl [(a_p0, .inr (6, [.ref a_p0_dined, .int p0_seating, .int p0_kept])), (a_p0_dined, .inl (cI, 64, .inl e_p0_dined_v))] H → va_D A [(a_p0, .inr (6, [.ref a_p0_dined, .int p0_seating, .int p0_kept])), (a_p0_dined, .inl (cI, 64, .inl e_p0_dined_v))] → va_S A s.heap H locs → lv_has ls 3 [] → W p l e rm_X8_begin s m args below meth c H locs 0 0 Q (F0 m 32 ls []))) → ∀ (H : Heap) (locs : List Loc) (ls : Array Slot), va_P (dC, dI) vwCl [(a_p0, .inr (6, [.ref a_p0_dined, .int p0_seating, .int p0_kept])), (a_p0_dined, .inl (cI, 64, .inl p0_dined_v))] H → va_D A [(a_p0, .inr (6, [.ref a_p0_dined, .int p0_seating, .int p0_kept])), (a_p0_dined, .inl (cI, 64, .inl p0_dined_v))] → va_S A s.heap H locs → lv_has ls 3 [(0, .ref a_p0), (2, .int l2)] → W p l e rm_X8_begin s m args below meth c H locs 0 0 Q (F0 m 10 ls []) := by
  intro n
  induction n with
  | zero =>
    intro l2 p0_dined_v xx h
    rw [lf_X8_begin_10] at h
    cases h
  | succ n ih =>
    intro l2 p0_dined_v xx h KK H locs ls hP hD hS hl
    rw [lf_X8_begin_10] at h
    refine lv_iload_n hx hb dX8_begin_10 rfl (lv_at hl 1 rfl) ?_
    refine lv_aload_n hx hb dX8_begin_11 rfl (lv_at hl 0 rfl) ?_
    refine va_get (D := (dC, dI)) (ci := 6) (v := .ref a_p0_dined) (C := RX8) (T := TX8) (N := 3) hx hb hts li_X8_begin_X8 hown hK hP 0 rfl rfl 0 (by decide) (hts _ lk_X8_begin_11) (fun _ h9 => h9) rfl dX8_begin_12 ?_
    refine va_alen hx hb hK hP 1 0 rfl rfl (v := 64) rfl dX8_begin_15 ?_
    refine lv_topi (fun v4 ev4 => ?_)
    have h := pw_lt_e ev4 h
    refine lv_icmp_ge (tgt := 32) hx hb dX8_begin_16 (by decide) (fun c5 => ?_) (fun c5 => ?_)
    · have h := pw_cd_p c5 h
      have hl := lv_sub (l' := []) hl [] rfl
      exact KK p0_dined_v (Option.some.inj h) _ locs ls hP hD hS hl
    · have h := pw_cd_n c5 h
      refine lv_aload_n hx hb dX8_begin_19 rfl (lv_at hl 0 rfl) ?_
      refine va_get (D := (dC, dI)) (ci := 6) (v := .ref a_p0_dined) (C := RX8) (T := TX8) (N := 3) hx hb hts li_X8_begin_X8 hown hK hP 0 rfl rfl 0 (by decide) (hts _ lk_X8_begin_11) (fun _ h9 => h9) rfl dX8_begin_20 ?_
      refine lv_iload_n hx hb dX8_begin_23 rfl (lv_at hl 1 rfl) ?_
      refine lv_iconst (v := 0) hx hb dX8_begin_24 (by decide) ?_
      obtain ⟨g6, h⟩ := pw_gd_e h
      refine va_iast hx hb hK hP hD hS 1 0 rfl rfl g6 dX8_begin_25 (fun H locs hP hD hS => ?_)
      obtain ⟨f7, ef7⟩ : ∃ y : Nat → Int32, y = (upd p0_dined_v (Int32.toNatClampNeg l2) 0) := ⟨_, rfl⟩
      have h := pw_lt_e ef7 h
      rw [← ef7] at hP hD
      have hP : va_P (dC, dI) vwCl [(a_p0, .inr (6, [.ref a_p0_dined, .int p0_seating, .int p0_kept])), (a_p0_dined, .inl (cI, 64, .inl f7))] H := hP
      have hD : va_D A [(a_p0, .inr (6, [.ref a_p0_dined, .int p0_seating, .int p0_kept])), (a_p0_dined, .inl (cI, 64, .inl f7))] := hD
      refine lv_iinc (v := (l2 + 1)) (lv' := [(2, .int (l2 + 1)), (0, .ref a_p0)]) hx hb dX8_begin_26 hl (k := 1) rfl rfl (by decide) rfl (fun ls hl => ?_)
      refine lv_goto (tgt := 10) hx hb dX8_begin_29 (by decide) ?_
      have hl := lv_sub (l' := [(0, .ref a_p0), (2, .int (l2 + 1))]) hl [1, 0] rfl
      exact ih (l2 + 1) f7 xx h KK _ locs ls hP hD hS hl
set_option maxRecDepth 100000 in
set_option maxHeartbeats 4000000 in
theorem c_X8_begin (l : Launch) (dC : Nat → ClassId) (dI : Nat → Nat → Nat) (cI cZ : ClassId) (sz : Nat) (a_p0 : Nat) (a_p0_dined : Nat) (p0_seating : Int32) (p0_kept : Int32) (p0_dined_v : Nat → Int32) (x1 : Int32) (xx : Int32 × (Nat → Int32)) (hc : f_X8_begin x1 p0_dined_v = some xx) : Met l yX8_begin wsX8_begin rm_X8_begin (va_Pc [.ref a_p0, .int x1] (pw_pre (dC, dI) cI cZ [(a_p0, .inr (6, [.ref a_p0_dined, .int p0_seating, .int p0_kept])), (a_p0_dined, .inl (cI, 64, .inl p0_dined_v))] sz)) (va_Qv (fun (u : Int32 × (Nat → Int32)) => f_X8_begin x1 p0_dined_v = some (u.1, u.2)) (fun u t => pw_post (dC, dI) cI cZ (va_A [(a_p0, .inr (6, [.ref a_p0_dined, .int p0_seating, .int p0_kept])), (a_p0_dined, .inl (cI, 64, .inl p0_dined_v))] sz) [(a_p0, .inr (6, [.ref a_p0_dined, .int u.1, .int p0_kept])), (a_p0_dined, .inl (cI, 64, .inl u.2))] t) (va_A [(a_p0, .inr (6, [.ref a_p0_dined, .int p0_seating, .int p0_kept])), (a_p0_dined, .inl (cI, 64, .inl p0_dined_v))] sz)) 0 0 (va_A [(a_p0, .inr (6, [.ref a_p0_dined, .int p0_seating, .int p0_kept])), (a_p0_dined, .inl (cI, 64, .inl p0_dined_v))] sz) := by
  refine Met.ofW (cc := cX8_begin) (maxL := 3) (ret := none) (by decide) rfl ?_
  intro p e s m args below meth c s₁ B hml hv
  obtain ⟨rfl, hsz, hP, hK, hD0⟩ := hv
  have hx := B.exec
  have hb := B.bytes
  have hr := B.returns
  have hts := atoms_spec (ws := wsX8_begin) B.pre
  have hown : s.vm.findClass RX8 = some m.cls := findClass_of_methodNamed B.named
  have hlocks := B.notSynchronized
  subst hsz
  have hD := hD0.self (sz := s.heap.size)
  generalize hAe : va_A [(a_p0, .inr (6, [.ref a_p0_dined, .int p0_seating, .int p0_kept])), (a_p0_dined, .inl (cI, 64, .inl p0_dined_v))] s.heap.size = A at hD ⊢
  have hA : ∀ q : Nat, s.heap.size ≤ q → A q := fun q h => by rw [← hAe]; exact Or.inr h
  have hS : va_S A s.heap s.heap [] := va_S.rf
  have hP : va_P (dC, dI) vwCl [(a_p0, .inr (6, [.ref a_p0_dined, .int p0_seating, .int p0_kept])), (a_p0_dined, .inl (cI, 64, .inl p0_dined_v))] s.heap := hP
  have hl := lv_entry ([.ref a_p0, .int x1]) (n := 3) (Nat.le_of_ble_eq_true rfl)
  rw [lg_entry_eq]
  generalize (lg_sl ([.ref a_p0, .int x1]) ++ List.replicate (3 - (lg_sl ([.ref a_p0, .int x1])).length) Slot.unset).toArray = ls at hl ⊢
  have hl : lv_has ls 3 [(0, .ref a_p0), (1, .int x1)] := hl
  refine pw_Wq (R := rm_X8_begin) (fun Q hQ => ?_)
  obtain ⟨locs, elocs⟩ : ∃ y : List Loc, y = [] := ⟨_, rfl⟩
  rw [← elocs] at hS ⊢
  have h := hc
  unfold f_X8_begin at h
  refine lv_aload_n hx hb dX8_begin_0 rfl (lv_at hl 0 rfl) ?_
  refine lv_iload_n hx hb dX8_begin_1 rfl (lv_at hl 1 rfl) ?_
  obtain ⟨xx3, hc2, h⟩ := pw_bd_e h
  refine pw_ci (wr := [(a_p0, .inr (6, [.ref a_p0_dined, .int p0_seating, .int p0_kept])), (a_p0_dined, .inl (cI, 64, .inl p0_dined_v))]) (va_runS (As := [.int x1]) (rest := [.ref a_p0]) ⟨hx, hb, hml, hown, hts⟩ (c_X7_asTold l dC dI cI cZ s.heap.size x1 xx3 hc2) (va_cwS 1 hts gX8_begin_X7_asTold rfl rfl rfl (by decide +kernel) ⟨(Nat.le_of_ble_eq_true rfl), (Nat.le_of_ble_eq_true rfl)⟩) (pw_preS hK hP hD [] rfl rfl (by decide)) rfl rfl hl.1 rfl (lv_room (Nat.le_of_ble_eq_true rfl)) dX8_begin_2 ⟨(Nat.le_of_ble_eq_true rfl), (Nat.le_of_ble_eq_true rfl)⟩) hP hD hS hA [] [0, 1] rfl rfl (by decide) (by decide) (fun r1 u H locs hw hP hD hS => ?_)
  have ex : r1 = xx3 := Option.some.inj (hw.symm.trans hc2)
  subst ex
  have h := pw_u1_e h
  have hP : va_P (dC, dI) vwCl [(a_p0, .inr (6, [.ref a_p0_dined, .int p0_seating, .int p0_kept])), (a_p0_dined, .inl (cI, 64, .inl p0_dined_v))] H := hP
  have hD : va_D A [(a_p0, .inr (6, [.ref a_p0_dined, .int p0_seating, .int p0_kept])), (a_p0_dined, .inl (cI, 64, .inl p0_dined_v))] := hD
  refine va_put (D := (dC, dI)) (ci := 6) (v := .int r1) (ty := .int) (C := RX8) (T := TX8) (N := 3) hx hb hts li_X8_begin_X8 tyX8 tyX8_ok nmX8 hown hK hP hD hS 0 rfl rfl 1 (by decide) (hts _ lk_X8_begin_17) (fun _ h9 => h9) rfl (by decide +kernel) rfl rfl (Nat.le_of_ble_eq_true rfl) dX8_begin_5 (fun H locs hP hD hS => ?_)
  have hP : va_P (dC, dI) vwCl [(a_p0, .inr (6, [.ref a_p0_dined, .int r1, .int p0_kept])), (a_p0_dined, .inl (cI, 64, .inl p0_dined_v))] H := hP
  have hD : va_D A [(a_p0, .inr (6, [.ref a_p0_dined, .int r1, .int p0_kept])), (a_p0_dined, .inl (cI, 64, .inl p0_dined_v))] := hD
  refine lv_iconst (v := 0) hx hb dX8_begin_8 (by decide) ?_
  refine lv_istore_n (lv' := [(2, .int 0), (0, .ref a_p0), (1, .int x1)]) hx hb dX8_begin_9 rfl hl (by decide) rfl (fun ls hl => ?_)
  have hl := lv_sub (l' := [(0, .ref a_p0), (2, .int 0)]) hl [1, 0] rfl
  obtain ⟨xx8, hL9, h⟩ := pw_bd_e h
  refine lw_X8_begin_10 hx hb hml hown hts hA hK a_p0 a_p0_dined r1 p0_kept pw_FU 0 p0_dined_v xx8 hL9 ?_ _ locs ls hP hD hS hl
  intro y10 ex H locs ls hP hD hS hl
  subst ex
  have h := pw_u1_e h
  rw [hQ]
  exact W.vret hx hb hr (fun t ht hW => ⟨⟨(r1, y10), rfl, hc.trans h.symm, by rw [ht]; exact hP, va_K.moved hW.alike hK, hD⟩, hS.F ht⟩) hS.2.2 dX8_begin_32
/-! X8_copy -/
theorem li_X8_copy_X8 : ∀ w ∈ u_ws RX8 TX8 3, w ∈ wsX8_copy := fun w h => List.mem_cons_of_mem _ (List.mem_append_right _ h)
theorem lk_X8_copy_17 : Cond.fieldLink RX8 17 "NoWifeBeside$Table" "seating" "I" ∈ wsX8_copy := by decide +kernel
theorem lk_X8_copy_11 : Cond.fieldLink RX8 11 "NoWifeBeside$Table" "dined" "[I" ∈ wsX8_copy := by decide +kernel
abbrev rm_X8_copy : Room := { frames := 0, cells := 0, slots := 0, locals := 0 }
set_option maxRecDepth 100000 in
set_option maxHeartbeats 4000000 in
theorem lw_X8_copy_10 {p : Program} {l : Launch} {e : Env} {s : State} {m : MethodId} {args : Array Value} {below : List Frame} {meth : Method} {c : Code} {Q : State → Prop} {dC : Nat → ClassId} {dI : Nat → Nat → Nat} {cI cZ : ClassId} {A : Nat → Prop} (hx : p.tables.exec = Jvm.exec) (hb : c.code = cX8_copy) (hml : c.maxLocals = 3) (hown : s.vm.findClass RX8 = some m.cls) (hts : ∀ w ∈ wsX8_copy, w.before args s = true) (hA : ∀ q : Nat, s.heap.size ≤ q → A q) (hK : va_K (dC, dI) vwCl [(cI, .int), (cZ, .boolean)] s) (a_p0 : Nat) (a_p0_dined : Nat) (a_p1 : Nat) (a_p1_dined : Nat) (p0_seating : Int32) (p0_kept : Int32) (p1_seating : Int32) (p1_kept : Int32) (p1_dined_v : Nat → Int32) :
    ∀ (n : Nat) (l2 : Int32) (p0_dined_v : Nat → Int32) (xx : (Nat → Int32)), lf_X8_copy_10 p1_dined_v n l2 p0_dined_v = some xx → ((∀ (e_p0_dined_v : Nat → Int32), e_p0_dined_v = xx → ∀ (H : Heap) (locs : List Loc) (ls : Array Slot), va_P (dC, dI) vwCl [(a_p0, .inr (6, [.ref a_p0_dined, .int p0_seating, .int p0_kept])), (a_p0_dined, .inl (cI, 64, .inl e_p0_dined_v)), (a_p1, .inr (6, [.ref a_p1_dined, .int p1_seating, .int p1_kept])), (a_p1_dined, .inl (cI, 64, .inl p1_dined_v))] H → va_D A [(a_p0, .inr (6, [.ref a_p0_dined, .int p0_seating, .int p0_kept])), (a_p0_dined, .inl (cI, 64, .inl e_p0_dined_v)), (a_p1, .inr (6, [.ref a_p1_dined, .int p1_seating, .int p1_kept])), (a_p1_dined, .inl (cI, 64, .inl p1_dined_v))] → va_S A s.heap H locs → lv_has ls 3 [] → W p l e rm_X8_copy s m args below meth c H locs 0 0 Q (F0 m 46 ls []))) → ∀ (H : Heap) (locs : List Loc) (ls : Array Slot), va_P (dC, dI) vwCl [(a_p0, .inr (6, [.ref a_p0_dined, .int p0_seating, .int p0_kept])), (a_p0_dined, .inl (cI, 64, .inl p0_dined_v)), (a_p1, .inr (6, [.ref a_p1_dined, .int p1_seating, .int p1_kept])), (a_p1_dined, .inl (cI, 64, .inl p1_dined_v))] H → va_D A [(a_p0, .inr (6, [.ref a_p0_dined, .int p0_seating, .int p0_kept])), (a_p0_dined, .inl (cI, 64, .inl p0_dined_v)), (a_p1, .inr (6, [.ref a_p1_dined, .int p1_seating, .int p1_kept])), (a_p1_dined, .inl (cI, 64, .inl p1_dined_v))] → va_S A s.heap H locs → lv_has ls 3 [(0, .ref a_p0), (1, .ref a_p1), (2, .int l2)] → W p l e rm_X8_copy s m args below meth c H locs 0 0 Q (F0 m 10 ls []) := by
  intro n
  induction n with
  | zero =>
    intro l2 p0_dined_v xx h
    rw [lf_X8_copy_10] at h
    cases h
  | succ n ih =>
    intro l2 p0_dined_v xx h KK H locs ls hP hD hS hl
    rw [lf_X8_copy_10] at h
    refine lv_iload_n hx hb dX8_copy_10 rfl (lv_at hl 2 rfl) ?_
    refine lv_aload_n hx hb dX8_copy_11 rfl (lv_at hl 0 rfl) ?_
    refine va_get (D := (dC, dI)) (ci := 6) (v := .ref a_p0_dined) (C := RX8) (T := TX8) (N := 3) hx hb hts li_X8_copy_X8 hown hK hP 0 rfl rfl 0 (by decide) (hts _ lk_X8_copy_11) (fun _ h9 => h9) rfl dX8_copy_12 ?_
    refine va_alen hx hb hK hP 1 0 rfl rfl (v := 64) rfl dX8_copy_15 ?_
    refine lv_topi (fun v1 ev1 => ?_)
    have h := pw_lt_e ev1 h
    refine lv_icmp_ge (tgt := 46) hx hb dX8_copy_16 (by decide) (fun c2 => ?_) (fun c2 => ?_)
    · have h := pw_cd_p c2 h
      have hl := lv_sub (l' := []) hl [] rfl
      exact KK p0_dined_v (Option.some.inj h) _ locs ls hP hD hS hl
    · have h := pw_cd_n c2 h
      refine lv_iload_n hx hb dX8_copy_19 rfl (lv_at hl 2 rfl) ?_
      refine lv_aload_n hx hb dX8_copy_20 rfl (lv_at hl 1 rfl) ?_
      refine va_get (D := (dC, dI)) (ci := 6) (v := .ref a_p1_dined) (C := RX8) (T := TX8) (N := 3) hx hb hts li_X8_copy_X8 hown hK hP 2 rfl rfl 0 (by decide) (hts _ lk_X8_copy_11) (fun _ h9 => h9) rfl dX8_copy_21 ?_
      refine va_alen hx hb hK hP 3 0 rfl rfl (v := 64) rfl dX8_copy_24 ?_
      refine lv_topi (fun v3 ev3 => ?_)
      have h := pw_lt_e ev3 h
      refine lv_icmp_ge (tgt := 46) hx hb dX8_copy_25 (by decide) (fun c4 => ?_) (fun c4 => ?_)
      · have h := pw_cd_p c4 h
        have hl := lv_sub (l' := []) hl [] rfl
        exact KK p0_dined_v (Option.some.inj h) _ locs ls hP hD hS hl
      · have h := pw_cd_n c4 h
        refine lv_aload_n hx hb dX8_copy_28 rfl (lv_at hl 0 rfl) ?_
        refine va_get (D := (dC, dI)) (ci := 6) (v := .ref a_p0_dined) (C := RX8) (T := TX8) (N := 3) hx hb hts li_X8_copy_X8 hown hK hP 0 rfl rfl 0 (by decide) (hts _ lk_X8_copy_11) (fun _ h9 => h9) rfl dX8_copy_29 ?_
        refine lv_iload_n hx hb dX8_copy_32 rfl (lv_at hl 2 rfl) ?_
        refine lv_aload_n hx hb dX8_copy_33 rfl (lv_at hl 1 rfl) ?_
        refine va_get (D := (dC, dI)) (ci := 6) (v := .ref a_p1_dined) (C := RX8) (T := TX8) (N := 3) hx hb hts li_X8_copy_X8 hown hK hP 2 rfl rfl 0 (by decide) (hts _ lk_X8_copy_11) (fun _ h9 => h9) rfl dX8_copy_34 ?_
        refine lv_iload_n hx hb dX8_copy_37 rfl (lv_at hl 2 rfl) ?_
        obtain ⟨g5, h⟩ := pw_gd_e h
        refine va_iald hx hb hK hP 3 0 rfl rfl g5 dX8_copy_38 ?_
        refine lv_topi (fun v6 ev6 => ?_)
        have h := pw_lt_e ev6 h
        obtain ⟨g7, h⟩ := pw_gd_e h
        refine va_iast hx hb hK hP hD hS 1 0 rfl rfl g7 dX8_copy_39 (fun H locs hP hD hS => ?_)
        obtain ⟨f8, ef8⟩ : ∃ y : Nat → Int32, y = (upd p0_dined_v (Int32.toNatClampNeg l2) v6) := ⟨_, rfl⟩
        have h := pw_lt_e ef8 h
        rw [← ef8] at hP hD
        have hP : va_P (dC, dI) vwCl [(a_p0, .inr (6, [.ref a_p0_dined, .int p0_seating, .int p0_kept])), (a_p0_dined, .inl (cI, 64, .inl f8)), (a_p1, .inr (6, [.ref a_p1_dined, .int p1_seating, .int p1_kept])), (a_p1_dined, .inl (cI, 64, .inl p1_dined_v))] H := hP
        have hD : va_D A [(a_p0, .inr (6, [.ref a_p0_dined, .int p0_seating, .int p0_kept])), (a_p0_dined, .inl (cI, 64, .inl f8)), (a_p1, .inr (6, [.ref a_p1_dined, .int p1_seating, .int p1_kept])), (a_p1_dined, .inl (cI, 64, .inl p1_dined_v))] := hD
        refine lv_iinc (v := (l2 + 1)) (lv' := [(2, .int (l2 + 1)), (0, .ref a_p0), (1, .ref a_p1)]) hx hb dX8_copy_40 hl (k := 2) rfl rfl (by decide) rfl (fun ls hl => ?_)
        refine lv_goto (tgt := 10) hx hb dX8_copy_43 (by decide) ?_
        have hl := lv_sub (l' := [(0, .ref a_p0), (1, .ref a_p1), (2, .int (l2 + 1))]) hl [1, 2, 0] rfl
        exact ih (l2 + 1) f8 xx h KK _ locs ls hP hD hS hl
set_option maxRecDepth 100000 in
set_option maxHeartbeats 4000000 in
theorem c_X8_copy (l : Launch) (dC : Nat → ClassId) (dI : Nat → Nat → Nat) (cI cZ : ClassId) (sz : Nat) (a_p0 : Nat) (a_p0_dined : Nat) (a_p1 : Nat) (a_p1_dined : Nat) (p0_seating : Int32) (p0_kept : Int32) (p0_dined_v : Nat → Int32) (p1_seating : Int32) (p1_kept : Int32) (p1_dined_v : Nat → Int32) (xx : Int32 × (Nat → Int32)) (hc : f_X8_copy p0_dined_v p1_seating p1_dined_v = some xx) : Met l yX8_copy wsX8_copy rm_X8_copy (va_Pc [.ref a_p0, .ref a_p1] (pw_pre (dC, dI) cI cZ [(a_p0, .inr (6, [.ref a_p0_dined, .int p0_seating, .int p0_kept])), (a_p0_dined, .inl (cI, 64, .inl p0_dined_v)), (a_p1, .inr (6, [.ref a_p1_dined, .int p1_seating, .int p1_kept])), (a_p1_dined, .inl (cI, 64, .inl p1_dined_v))] sz)) (va_Qv (fun (u : Int32 × (Nat → Int32)) => f_X8_copy p0_dined_v p1_seating p1_dined_v = some (u.1, u.2)) (fun u t => pw_post (dC, dI) cI cZ (va_A [(a_p0, .inr (6, [.ref a_p0_dined, .int p0_seating, .int p0_kept])), (a_p0_dined, .inl (cI, 64, .inl p0_dined_v)), (a_p1, .inr (6, [.ref a_p1_dined, .int p1_seating, .int p1_kept])), (a_p1_dined, .inl (cI, 64, .inl p1_dined_v))] sz) [(a_p0, .inr (6, [.ref a_p0_dined, .int u.1, .int p0_kept])), (a_p0_dined, .inl (cI, 64, .inl u.2)), (a_p1, .inr (6, [.ref a_p1_dined, .int p1_seating, .int p1_kept])), (a_p1_dined, .inl (cI, 64, .inl p1_dined_v))] t) (va_A [(a_p0, .inr (6, [.ref a_p0_dined, .int p0_seating, .int p0_kept])), (a_p0_dined, .inl (cI, 64, .inl p0_dined_v)), (a_p1, .inr (6, [.ref a_p1_dined, .int p1_seating, .int p1_kept])), (a_p1_dined, .inl (cI, 64, .inl p1_dined_v))] sz)) 0 0 (va_A [(a_p0, .inr (6, [.ref a_p0_dined, .int p0_seating, .int p0_kept])), (a_p0_dined, .inl (cI, 64, .inl p0_dined_v)), (a_p1, .inr (6, [.ref a_p1_dined, .int p1_seating, .int p1_kept])), (a_p1_dined, .inl (cI, 64, .inl p1_dined_v))] sz) := by
  refine Met.ofW (cc := cX8_copy) (maxL := 3) (ret := none) (by decide) rfl ?_
  intro p e s m args below meth c s₁ B hml hv
  obtain ⟨rfl, hsz, hP, hK, hD0⟩ := hv
  have hx := B.exec
  have hb := B.bytes
  have hr := B.returns
  have hts := atoms_spec (ws := wsX8_copy) B.pre
  have hown : s.vm.findClass RX8 = some m.cls := findClass_of_methodNamed B.named
  have hlocks := B.notSynchronized
  subst hsz
  have hD := hD0.self (sz := s.heap.size)
  generalize hAe : va_A [(a_p0, .inr (6, [.ref a_p0_dined, .int p0_seating, .int p0_kept])), (a_p0_dined, .inl (cI, 64, .inl p0_dined_v)), (a_p1, .inr (6, [.ref a_p1_dined, .int p1_seating, .int p1_kept])), (a_p1_dined, .inl (cI, 64, .inl p1_dined_v))] s.heap.size = A at hD ⊢
  have hA : ∀ q : Nat, s.heap.size ≤ q → A q := fun q h => by rw [← hAe]; exact Or.inr h
  have hS : va_S A s.heap s.heap [] := va_S.rf
  have hP : va_P (dC, dI) vwCl [(a_p0, .inr (6, [.ref a_p0_dined, .int p0_seating, .int p0_kept])), (a_p0_dined, .inl (cI, 64, .inl p0_dined_v)), (a_p1, .inr (6, [.ref a_p1_dined, .int p1_seating, .int p1_kept])), (a_p1_dined, .inl (cI, 64, .inl p1_dined_v))] s.heap := hP
  have hl := lv_entry ([.ref a_p0, .ref a_p1]) (n := 3) (Nat.le_of_ble_eq_true rfl)
  rw [lg_entry_eq]
  generalize (lg_sl ([.ref a_p0, .ref a_p1]) ++ List.replicate (3 - (lg_sl ([.ref a_p0, .ref a_p1])).length) Slot.unset).toArray = ls at hl ⊢
  have hl : lv_has ls 3 [(0, .ref a_p0), (1, .ref a_p1)] := hl
  refine pw_Wq (R := rm_X8_copy) (fun Q hQ => ?_)
  obtain ⟨locs, elocs⟩ : ∃ y : List Loc, y = [] := ⟨_, rfl⟩
  rw [← elocs] at hS ⊢
  have h := hc
  unfold f_X8_copy at h
  refine lv_aload_n hx hb dX8_copy_0 rfl (lv_at hl 0 rfl) ?_
  refine lv_aload_n hx hb dX8_copy_1 rfl (lv_at hl 1 rfl) ?_
  refine va_get (D := (dC, dI)) (ci := 6) (v := .int p1_seating) (C := RX8) (T := TX8) (N := 3) hx hb hts li_X8_copy_X8 hown hK hP 2 rfl rfl 1 (by decide) (hts _ lk_X8_copy_17) (fun _ h9 => h9) rfl dX8_copy_2 ?_
  refine va_put (D := (dC, dI)) (ci := 6) (v := .int p1_seating) (ty := .int) (C := RX8) (T := TX8) (N := 3) hx hb hts li_X8_copy_X8 tyX8 tyX8_ok nmX8 hown hK hP hD hS 0 rfl rfl 1 (by decide) (hts _ lk_X8_copy_17) (fun _ h9 => h9) rfl (by decide +kernel) rfl rfl (Nat.le_of_ble_eq_true rfl) dX8_copy_5 (fun H locs hP hD hS => ?_)
  have hP : va_P (dC, dI) vwCl [(a_p0, .inr (6, [.ref a_p0_dined, .int p1_seating, .int p0_kept])), (a_p0_dined, .inl (cI, 64, .inl p0_dined_v)), (a_p1, .inr (6, [.ref a_p1_dined, .int p1_seating, .int p1_kept])), (a_p1_dined, .inl (cI, 64, .inl p1_dined_v))] H := hP
  have hD : va_D A [(a_p0, .inr (6, [.ref a_p0_dined, .int p1_seating, .int p0_kept])), (a_p0_dined, .inl (cI, 64, .inl p0_dined_v)), (a_p1, .inr (6, [.ref a_p1_dined, .int p1_seating, .int p1_kept])), (a_p1_dined, .inl (cI, 64, .inl p1_dined_v))] := hD
  refine lv_iconst (v := 0) hx hb dX8_copy_8 (by decide) ?_
  refine lv_istore_n (lv' := [(2, .int 0), (0, .ref a_p0), (1, .ref a_p1)]) hx hb dX8_copy_9 rfl hl (by decide) rfl (fun ls hl => ?_)
  have hl := lv_sub (l' := [(0, .ref a_p0), (1, .ref a_p1), (2, .int 0)]) hl [1, 2, 0] rfl
  obtain ⟨xx9, hL10, h⟩ := pw_bd_e h
  refine lw_X8_copy_10 hx hb hml hown hts hA hK a_p0 a_p0_dined a_p1 a_p1_dined p1_seating p0_kept p1_seating p1_kept p1_dined_v pw_FU 0 p0_dined_v xx9 hL10 ?_ _ locs ls hP hD hS hl
  intro y11 ex H locs ls hP hD hS hl
  subst ex
  have h := pw_u1_e h
  rw [hQ]
  exact W.vret hx hb hr (fun t ht hW => ⟨⟨(p1_seating, y11), rfl, hc.trans h.symm, by rw [ht]; exact hP, va_K.moved hW.alike hK, hD⟩, hS.F ht⟩) hS.2.2 dX8_copy_46
/-! X8_mostDined -/
theorem li_X8_mostDined_X8 : ∀ w ∈ u_ws RX8 TX8 3, w ∈ wsX8_mostDined := fun w h => List.mem_cons_of_mem _ (List.mem_append_left _ (List.mem_append_right _ h))
theorem lk_X8_mostDined_11 : Cond.fieldLink RX8 11 "NoWifeBeside$Table" "dined" "[I" ∈ wsX8_mostDined := by decide +kernel
theorem lk_X8_mostDined_17 : Cond.fieldLink RX8 17 "NoWifeBeside$Table" "seating" "I" ∈ wsX8_mostDined := by decide +kernel
theorem lk_X8_mostDined_mx : Cond.methodLink RX8 41 Lib.Math.max.name ∈ wsX8_mostDined := by decide +kernel
theorem lk_X8_mostDined_ms : Cond.static Lib.Math.max.name ∈ wsX8_mostDined := by decide +kernel
theorem lk_X8_mostDined_mi : Cond.initialized "java/lang/Math" ∈ wsX8_mostDined := by decide +kernel
theorem lk_X8_mostDined_mc : Cond.code Lib.Math.max.name Lib.Math.max.code 2 (some .int) ∈ wsX8_mostDined := by decide +kernel
abbrev rm_X8_mostDined : Room := { frames := 3, cells := 0, slots := 0, locals := 64 }
set_option maxRecDepth 100000 in
set_option maxHeartbeats 4000000 in
theorem lw_X8_mostDined_10 {p : Program} {l : Launch} {e : Env} {s : State} {m : MethodId} {args : Array Value} {below : List Frame} {meth : Method} {c : Code} {Q : State → Prop} {dC : Nat → ClassId} {dI : Nat → Nat → Nat} {cI cZ : ClassId} {A : Nat → Prop} (hx : p.tables.exec = Jvm.exec) (hb : c.code = cX8_mostDined) (hml : c.maxLocals = 5) (hown : s.vm.findClass RX8 = some m.cls) (hts : ∀ w ∈ wsX8_mostDined, w.before args s = true) (hA : ∀ q : Nat, s.heap.size ≤ q → A q) (hK : va_K (dC, dI) vwCl [(cI, .int), (cZ, .boolean)] s) (a_p0 : Nat) (a_p0_dined : Nat) (a_p1 : Nat) (a_p1_worths : Nat) (l3 : Int32) (p0_seating : Int32) (p0_kept : Int32) (p0_dined_v : Nat → Int32) (p1_round : Int32) (p1_byTurns : Int32) (p1_apart : Int32) (p1_people : Int32) (p1_women : Int32) (p1_couples : Int64) (p1_quarrels : Int64) (p1_togethers : Int64) (p1_barred : Int64) :
    ∀ (n : Nat) (l2 : Int32) (l4 : Int32) (xx : Int32), lf_X8_mostDined_10 l3 p0_seating p0_dined_v p1_people n l2 l4 = some xx → ((∀ (e_l2 : Int32), e_l2 = xx → ∀ (H : Heap) (locs : List Loc) (ls : Array Slot), va_P (dC, dI) vwCl [(a_p0, .inr (6, [.ref a_p0_dined, .int p0_seating, .int p0_kept])), (a_p0_dined, .inl (cI, 64, .inl p0_dined_v)), (a_p1, .inr (3, [.int p1_round, .int p1_byTurns, .int p1_apart, .int p1_people, .int p1_women, .long p1_couples, .long p1_quarrels, .long p1_togethers, .long p1_barred, .ref a_p1_worths]))] H → va_D A [(a_p0, .inr (6, [.ref a_p0_dined, .int p0_seating, .int p0_kept])), (a_p0_dined, .inl (cI, 64, .inl p0_dined_v)), (a_p1, .inr (3, [.int p1_round, .int p1_byTurns, .int p1_apart, .int p1_people, .int p1_women, .long p1_couples, .long p1_quarrels, .long p1_togethers, .long p1_barred, .ref a_p1_worths]))] → va_S A s.heap H locs → lv_has ls 5 [(2, .int e_l2)] → W p l e rm_X8_mostDined s m args below meth c H locs 0 0 Q (F0 m 49 ls []))) → ∀ (H : Heap) (locs : List Loc) (ls : Array Slot), va_P (dC, dI) vwCl [(a_p0, .inr (6, [.ref a_p0_dined, .int p0_seating, .int p0_kept])), (a_p0_dined, .inl (cI, 64, .inl p0_dined_v)), (a_p1, .inr (3, [.int p1_round, .int p1_byTurns, .int p1_apart, .int p1_people, .int p1_women, .long p1_couples, .long p1_quarrels, .long p1_togethers, .long p1_barred, .ref a_p1_worths]))] H → va_D A [(a_p0, .inr (6, [.ref a_p0_dined, .int p0_seating, .int p0_kept])), (a_p0_dined, .inl (cI, 64, .inl p0_dined_v)), (a_p1, .inr (3, [.int p1_round, .int p1_byTurns, .int p1_apart, .int p1_people, .int p1_women, .long p1_couples, .long p1_quarrels, .long p1_togethers, .long p1_barred, .ref a_p1_worths]))] → va_S A s.heap H locs → lv_has ls 5 [(0, .ref a_p0), (1, .ref a_p1), (2, .int l2), (3, .int l3), (4, .int l4)] → W p l e rm_X8_mostDined s m args below meth c H locs 0 0 Q (F0 m 10 ls []) := by
  intro n
  induction n with
  | zero =>
    intro l2 l4 xx h
    rw [lf_X8_mostDined_10] at h
    cases h
  | succ n ih =>
    intro l2 l4 xx h KK H locs ls hP hD hS hl
    rw [lf_X8_mostDined_10] at h
    refine lv_iload hx hb dX8_mostDined_10 (lv_at hl 4 rfl) ?_
    refine lv_iload_n hx hb dX8_mostDined_12 rfl (lv_at hl 3 rfl) ?_
    refine lv_icmp_ge (tgt := 49) hx hb dX8_mostDined_13 (by decide) (fun c4 => ?_) (fun c4 => ?_)
    · have h := pw_cd_p c4 h
      have hl := lv_sub (l' := [(2, .int l2)]) hl [2] rfl
      exact KK l2 (Option.some.inj h) _ locs ls hP hD hS hl
    · have h := pw_cd_n c4 h
      refine lv_iload hx hb dX8_mostDined_16 (lv_at hl 4 rfl) ?_
      refine lv_bipush (v := 7) hx hb dX8_mostDined_18 (by decide) ?_
      refine lv_icmp_ge (tgt := 49) hx hb dX8_mostDined_20 (by decide) (fun c5 => ?_) (fun c5 => ?_)
      · have h := pw_cd_p c5 h
        have hl := lv_sub (l' := [(2, .int l2)]) hl [2] rfl
        exact KK l2 (Option.some.inj h) _ locs ls hP hD hS hl
      · have h := pw_cd_n c5 h
        refine lv_iload_n hx hb dX8_mostDined_23 rfl (lv_at hl 2 rfl) ?_
        refine lv_aload_n hx hb dX8_mostDined_24 rfl (lv_at hl 0 rfl) ?_
        refine va_get (D := (dC, dI)) (ci := 6) (v := .ref a_p0_dined) (C := RX8) (T := TX8) (N := 3) hx hb hts li_X8_mostDined_X8 hown hK hP 0 rfl rfl 0 (by decide) (hts _ lk_X8_mostDined_11) (fun _ h9 => h9) rfl dX8_mostDined_25 ?_
        refine lv_aload_n hx hb dX8_mostDined_28 rfl (lv_at hl 1 rfl) ?_
        refine lv_aload_n hx hb dX8_mostDined_29 rfl (lv_at hl 0 rfl) ?_
        refine va_get (D := (dC, dI)) (ci := 6) (v := .int p0_seating) (C := RX8) (T := TX8) (N := 3) hx hb hts li_X8_mostDined_X8 hown hK hP 0 rfl rfl 1 (by decide) (hts _ lk_X8_mostDined_17) (fun _ h9 => h9) rfl dX8_mostDined_30 ?_
        refine lv_iload hx hb dX8_mostDined_33 (lv_at hl 4 rfl) ?_
        refine pw_ci (wr := [(a_p0, .inr (6, [.ref a_p0_dined, .int p0_seating, .int p0_kept])), (a_p0_dined, .inl (cI, 64, .inl p0_dined_v))]) (va_runV (As := [.int p0_seating, .int l4]) (rest := [.ref a_p0_dined, .int l2]) ⟨hx, hb, hml, hown, hts⟩ (c_X4_cellOfPair l dC dI cI cZ H.size a_p1 a_p1_worths p1_round p1_byTurns p1_apart p1_people p1_women p1_couples p1_quarrels p1_togethers p1_barred p0_seating l4) (cwV 2 hts gX8_mostDined_X4_cellOfPair rfl rfl rfl (by decide +kernel) ⟨(Nat.le_of_ble_eq_true rfl), (Nat.le_of_ble_eq_true rfl)⟩) (pw_preV hK hP hD [2] rfl rfl (by decide) 3 rfl rfl) rfl rfl hl.1 rfl (lv_room (Nat.le_of_ble_eq_true rfl)) dX8_mostDined_35 ⟨(Nat.le_of_ble_eq_true rfl), (Nat.le_of_ble_eq_true rfl)⟩) hP hD hS hA [2] [0, 1] rfl rfl (by decide) (by decide) (fun r6 u H locs hw hP hD hS => ?_)
        have h := pw_lt_e hw h
        have hP : va_P (dC, dI) vwCl [(a_p0, .inr (6, [.ref a_p0_dined, .int p0_seating, .int p0_kept])), (a_p0_dined, .inl (cI, 64, .inl p0_dined_v)), (a_p1, .inr (3, [.int p1_round, .int p1_byTurns, .int p1_apart, .int p1_people, .int p1_women, .long p1_couples, .long p1_quarrels, .long p1_togethers, .long p1_barred, .ref a_p1_worths]))] H := hP
        have hD : va_D A [(a_p0, .inr (6, [.ref a_p0_dined, .int p0_seating, .int p0_kept])), (a_p0_dined, .inl (cI, 64, .inl p0_dined_v)), (a_p1, .inr (3, [.int p1_round, .int p1_byTurns, .int p1_apart, .int p1_people, .int p1_women, .long p1_couples, .long p1_quarrels, .long p1_togethers, .long p1_barred, .ref a_p1_worths]))] := hD
        obtain ⟨g9, h⟩ := pw_gd_e h
        refine va_iald hx hb hK hP 1 0 rfl rfl g9 dX8_mostDined_38 ?_
        refine va_mmax hx hb (by rw [hml]; exact hl.1.symm) hown (hts _ lk_X8_mostDined_mx) (hts _ lk_X8_mostDined_ms) (hts _ lk_X8_mostDined_mi) (hts _ lk_X8_mostDined_mc) (Nat.le_of_ble_eq_true rfl) (Nat.le_of_ble_eq_true rfl) (Nat.le_of_ble_eq_true rfl) (Nat.le_of_ble_eq_true rfl) dX8_mostDined_39 ?_
        refine lv_topi (fun v10 ev10 => ?_)
        have h := pw_lt_e ev10 h
        refine lv_istore_n (lv' := [(2, .int v10), (0, .ref a_p0), (1, .ref a_p1), (3, .int l3), (4, .int l4)]) hx hb dX8_mostDined_42 rfl hl (by decide) rfl (fun ls hl => ?_)
        refine lv_iinc (v := (l4 + 1)) (lv' := [(4, .int (l4 + 1)), (2, .int v10), (0, .ref a_p0), (1, .ref a_p1), (3, .int l3)]) hx hb dX8_mostDined_43 hl (k := 4) rfl rfl (by decide) rfl (fun ls hl => ?_)
        refine lv_goto (tgt := 10) hx hb dX8_mostDined_46 (by decide) ?_
        have hl := lv_sub (l' := [(0, .ref a_p0), (1, .ref a_p1), (2, .int v10), (3, .int l3), (4, .int (l4 + 1))]) hl [2, 3, 1, 4, 0] rfl
        exact ih v10 (l4 + 1) xx h KK _ locs ls hP hD hS hl
set_option maxRecDepth 100000 in
set_option maxHeartbeats 4000000 in
theorem c_X8_mostDined (l : Launch) (dC : Nat → ClassId) (dI : Nat → Nat → Nat) (cI cZ : ClassId) (sz : Nat) (a_p0 : Nat) (a_p0_dined : Nat) (a_p1 : Nat) (a_p1_worths : Nat) (p0_seating : Int32) (p0_kept : Int32) (p0_dined_v : Nat → Int32) (p1_round : Int32) (p1_byTurns : Int32) (p1_apart : Int32) (p1_people : Int32) (p1_women : Int32) (p1_couples : Int64) (p1_quarrels : Int64) (p1_togethers : Int64) (p1_barred : Int64) (xx : Int32) (hc : f_X8_mostDined p0_seating p0_dined_v p1_round p1_people = some xx) : Met l yX8_mostDined wsX8_mostDined rm_X8_mostDined (va_Pc [.ref a_p0, .ref a_p1] (pw_pre (dC, dI) cI cZ [(a_p0, .inr (6, [.ref a_p0_dined, .int p0_seating, .int p0_kept])), (a_p0_dined, .inl (cI, 64, .inl p0_dined_v)), (a_p1, .inr (3, [.int p1_round, .int p1_byTurns, .int p1_apart, .int p1_people, .int p1_women, .long p1_couples, .long p1_quarrels, .long p1_togethers, .long p1_barred, .ref a_p1_worths]))] sz)) (va_Qi (fun (r : Int32) (u : Unit) => f_X8_mostDined p0_seating p0_dined_v p1_round p1_people = some r) (fun u t => pw_post (dC, dI) cI cZ (va_A [(a_p0, .inr (6, [.ref a_p0_dined, .int p0_seating, .int p0_kept])), (a_p0_dined, .inl (cI, 64, .inl p0_dined_v)), (a_p1, .inr (3, [.int p1_round, .int p1_byTurns, .int p1_apart, .int p1_people, .int p1_women, .long p1_couples, .long p1_quarrels, .long p1_togethers, .long p1_barred, .ref a_p1_worths]))] sz) [(a_p0, .inr (6, [.ref a_p0_dined, .int p0_seating, .int p0_kept])), (a_p0_dined, .inl (cI, 64, .inl p0_dined_v)), (a_p1, .inr (3, [.int p1_round, .int p1_byTurns, .int p1_apart, .int p1_people, .int p1_women, .long p1_couples, .long p1_quarrels, .long p1_togethers, .long p1_barred, .ref a_p1_worths]))] t) (va_A [(a_p0, .inr (6, [.ref a_p0_dined, .int p0_seating, .int p0_kept])), (a_p0_dined, .inl (cI, 64, .inl p0_dined_v)), (a_p1, .inr (3, [.int p1_round, .int p1_byTurns, .int p1_apart, .int p1_people, .int p1_women, .long p1_couples, .long p1_quarrels, .long p1_togethers, .long p1_barred, .ref a_p1_worths]))] sz)) 0 0 (va_A [(a_p0, .inr (6, [.ref a_p0_dined, .int p0_seating, .int p0_kept])), (a_p0_dined, .inl (cI, 64, .inl p0_dined_v)), (a_p1, .inr (3, [.int p1_round, .int p1_byTurns, .int p1_apart, .int p1_people, .int p1_women, .long p1_couples, .long p1_quarrels, .long p1_togethers, .long p1_barred, .ref a_p1_worths]))] sz) := by
  refine Met.ofW (cc := cX8_mostDined) (maxL := 5) (ret := (some .int)) (by decide) rfl ?_
  intro p e s m args below meth c s₁ B hml hv
  obtain ⟨rfl, hsz, hP, hK, hD0⟩ := hv
  have hx := B.exec
  have hb := B.bytes
  have hr := B.returns
  have hts := atoms_spec (ws := wsX8_mostDined) B.pre
  have hown : s.vm.findClass RX8 = some m.cls := findClass_of_methodNamed B.named
  have hlocks := B.notSynchronized
  subst hsz
  have hD := hD0.self (sz := s.heap.size)
  generalize hAe : va_A [(a_p0, .inr (6, [.ref a_p0_dined, .int p0_seating, .int p0_kept])), (a_p0_dined, .inl (cI, 64, .inl p0_dined_v)), (a_p1, .inr (3, [.int p1_round, .int p1_byTurns, .int p1_apart, .int p1_people, .int p1_women, .long p1_couples, .long p1_quarrels, .long p1_togethers, .long p1_barred, .ref a_p1_worths]))] s.heap.size = A at hD ⊢
  have hA : ∀ q : Nat, s.heap.size ≤ q → A q := fun q h => by rw [← hAe]; exact Or.inr h
  have hS : va_S A s.heap s.heap [] := va_S.rf
  have hP : va_P (dC, dI) vwCl [(a_p0, .inr (6, [.ref a_p0_dined, .int p0_seating, .int p0_kept])), (a_p0_dined, .inl (cI, 64, .inl p0_dined_v)), (a_p1, .inr (3, [.int p1_round, .int p1_byTurns, .int p1_apart, .int p1_people, .int p1_women, .long p1_couples, .long p1_quarrels, .long p1_togethers, .long p1_barred, .ref a_p1_worths]))] s.heap := hP
  have hl := lv_entry ([.ref a_p0, .ref a_p1]) (n := 5) (Nat.le_of_ble_eq_true rfl)
  rw [lg_entry_eq]
  generalize (lg_sl ([.ref a_p0, .ref a_p1]) ++ List.replicate (5 - (lg_sl ([.ref a_p0, .ref a_p1])).length) Slot.unset).toArray = ls at hl ⊢
  have hl : lv_has ls 5 [(0, .ref a_p0), (1, .ref a_p1)] := hl
  refine pw_Wq (R := rm_X8_mostDined) (fun Q hQ => ?_)
  obtain ⟨locs, elocs⟩ : ∃ y : List Loc, y = [] := ⟨_, rfl⟩
  rw [← elocs] at hS ⊢
  have h := hc
  unfold f_X8_mostDined at h
  refine lv_iconst (v := 0) hx hb dX8_mostDined_0 (by decide) ?_
  refine lv_istore_n (lv' := [(2, .int 0), (0, .ref a_p0), (1, .ref a_p1)]) hx hb dX8_mostDined_1 rfl hl (by decide) rfl (fun ls hl => ?_)
  refine lv_aload_n hx hb dX8_mostDined_2 rfl (lv_at hl 2 rfl) ?_
  refine pw_ci (wr := [(a_p0, .inr (6, [.ref a_p0_dined, .int p0_seating, .int p0_kept])), (a_p0_dined, .inl (cI, 64, .inl p0_dined_v))]) (va_runV (As := []) (rest := []) ⟨hx, hb, hml, hown, hts⟩ (c_X4_neighbourPairs l dC dI cI cZ s.heap.size a_p1 a_p1_worths p1_round p1_byTurns p1_apart p1_people p1_women p1_couples p1_quarrels p1_togethers p1_barred) (cwV 0 hts gX8_mostDined_X4_neighbourPairs rfl rfl rfl (by decide +kernel) ⟨(Nat.le_of_ble_eq_true rfl), (Nat.le_of_ble_eq_true rfl)⟩) (pw_preV hK hP hD [2] rfl rfl (by decide) 3 rfl rfl) rfl rfl hl.1 rfl (lv_room (Nat.le_of_ble_eq_true rfl)) dX8_mostDined_3 ⟨(Nat.le_of_ble_eq_true rfl), (Nat.le_of_ble_eq_true rfl)⟩) hP hD hS hA [2] [0, 1] rfl rfl (by decide) (by decide) (fun r1 u H locs hw hP hD hS => ?_)
  have h := pw_lt_e hw h
  have hP : va_P (dC, dI) vwCl [(a_p0, .inr (6, [.ref a_p0_dined, .int p0_seating, .int p0_kept])), (a_p0_dined, .inl (cI, 64, .inl p0_dined_v)), (a_p1, .inr (3, [.int p1_round, .int p1_byTurns, .int p1_apart, .int p1_people, .int p1_women, .long p1_couples, .long p1_quarrels, .long p1_togethers, .long p1_barred, .ref a_p1_worths]))] H := hP
  have hD : va_D A [(a_p0, .inr (6, [.ref a_p0_dined, .int p0_seating, .int p0_kept])), (a_p0_dined, .inl (cI, 64, .inl p0_dined_v)), (a_p1, .inr (3, [.int p1_round, .int p1_byTurns, .int p1_apart, .int p1_people, .int p1_women, .long p1_couples, .long p1_quarrels, .long p1_togethers, .long p1_barred, .ref a_p1_worths]))] := hD
  refine lv_istore_n (lv' := [(3, .int r1), (2, .int 0), (0, .ref a_p0), (1, .ref a_p1)]) hx hb dX8_mostDined_6 rfl hl (by decide) rfl (fun ls hl => ?_)
  refine lv_iconst (v := 0) hx hb dX8_mostDined_7 (by decide) ?_
  refine lv_istore (lv' := [(4, .int 0), (3, .int r1), (2, .int 0), (0, .ref a_p0), (1, .ref a_p1)]) hx hb dX8_mostDined_8 hl (by decide) rfl (fun ls hl => ?_)
  have hl := lv_sub (l' := [(0, .ref a_p0), (1, .ref a_p1), (2, .int 0), (3, .int r1), (4, .int 0)]) hl [3, 4, 2, 1, 0] rfl
  obtain ⟨xx11, hL12, h⟩ := pw_bd_e h
  refine lw_X8_mostDined_10 hx hb hml hown hts hA hK a_p0 a_p0_dined a_p1 a_p1_worths r1 p0_seating p0_kept p0_dined_v p1_round p1_byTurns p1_apart p1_people p1_women p1_couples p1_quarrels p1_togethers p1_barred pw_FU 0 0 xx11 hL12 ?_ _ locs ls hP hD hS hl
  intro y13 ex H locs ls hP hD hS hl
  subst ex
  have h := pw_u1_e h
  refine lv_iload_n hx hb dX8_mostDined_49 rfl (lv_at hl 0 rfl) ?_
  rw [hQ]
  exact W.iret (v := y13) hx hb hr (fun t ht hW => ⟨⟨y13, (), rfl, hc.trans h.symm, by rw [ht]; exact hP, va_K.moved hW.alike hK, hD⟩, hS.F ht⟩) hS.2.2 dX8_mostDined_50
/-! X8_pairsThatDined -/
theorem li_X8_pairsThatDined_X8 : ∀ w ∈ u_ws RX8 TX8 3, w ∈ wsX8_pairsThatDined := fun w h => List.mem_cons_of_mem _ (List.mem_append_left _ (List.mem_append_right _ h))
theorem lk_X8_pairsThatDined_11 : Cond.fieldLink RX8 11 "NoWifeBeside$Table" "dined" "[I" ∈ wsX8_pairsThatDined := by decide +kernel
theorem lk_X8_pairsThatDined_17 : Cond.fieldLink RX8 17 "NoWifeBeside$Table" "seating" "I" ∈ wsX8_pairsThatDined := by decide +kernel
abbrev rm_X8_pairsThatDined : Room := { frames := 3, cells := 0, slots := 0, locals := 64 }
set_option maxRecDepth 100000 in
set_option maxHeartbeats 4000000 in
theorem lw_X8_pairsThatDined_10 {p : Program} {l : Launch} {e : Env} {s : State} {m : MethodId} {args : Array Value} {below : List Frame} {meth : Method} {c : Code} {Q : State → Prop} {dC : Nat → ClassId} {dI : Nat → Nat → Nat} {cI cZ : ClassId} {A : Nat → Prop} (hx : p.tables.exec = Jvm.exec) (hb : c.code = cX8_pairsThatDined) (hml : c.maxLocals = 5) (hown : s.vm.findClass RX8 = some m.cls) (hts : ∀ w ∈ wsX8_pairsThatDined, w.before args s = true) (hA : ∀ q : Nat, s.heap.size ≤ q → A q) (hK : va_K (dC, dI) vwCl [(cI, .int), (cZ, .boolean)] s) (a_p0 : Nat) (a_p0_dined : Nat) (a_p1 : Nat) (a_p1_worths : Nat) (l3 : Int32) (p0_seating : Int32) (p0_kept : Int32) (p0_dined_v : Nat → Int32) (p1_round : Int32) (p1_byTurns : Int32) (p1_apart : Int32) (p1_people : Int32) (p1_women : Int32) (p1_couples : Int64) (p1_quarrels : Int64) (p1_togethers : Int64) (p1_barred : Int64) :
    ∀ (n : Nat) (l2 : Int32) (l4 : Int32) (xx : Int32), lf_X8_pairsThatDined_10 l3 p0_seating p0_dined_v p1_people n l2 l4 = some xx → ((∀ (e_l2 : Int32), e_l2 = xx → ∀ (H : Heap) (locs : List Loc) (ls : Array Slot), va_P (dC, dI) vwCl [(a_p0, .inr (6, [.ref a_p0_dined, .int p0_seating, .int p0_kept])), (a_p0_dined, .inl (cI, 64, .inl p0_dined_v)), (a_p1, .inr (3, [.int p1_round, .int p1_byTurns, .int p1_apart, .int p1_people, .int p1_women, .long p1_couples, .long p1_quarrels, .long p1_togethers, .long p1_barred, .ref a_p1_worths]))] H → va_D A [(a_p0, .inr (6, [.ref a_p0_dined, .int p0_seating, .int p0_kept])), (a_p0_dined, .inl (cI, 64, .inl p0_dined_v)), (a_p1, .inr (3, [.int p1_round, .int p1_byTurns, .int p1_apart, .int p1_people, .int p1_women, .long p1_couples, .long p1_quarrels, .long p1_togethers, .long p1_barred, .ref a_p1_worths]))] → va_S A s.heap H locs → lv_has ls 5 [(2, .int e_l2)] → W p l e rm_X8_pairsThatDined s m args below meth c H locs 0 0 Q (F0 m 50 ls []))) → ∀ (H : Heap) (locs : List Loc) (ls : Array Slot), va_P (dC, dI) vwCl [(a_p0, .inr (6, [.ref a_p0_dined, .int p0_seating, .int p0_kept])), (a_p0_dined, .inl (cI, 64, .inl p0_dined_v)), (a_p1, .inr (3, [.int p1_round, .int p1_byTurns, .int p1_apart, .int p1_people, .int p1_women, .long p1_couples, .long p1_quarrels, .long p1_togethers, .long p1_barred, .ref a_p1_worths]))] H → va_D A [(a_p0, .inr (6, [.ref a_p0_dined, .int p0_seating, .int p0_kept])), (a_p0_dined, .inl (cI, 64, .inl p0_dined_v)), (a_p1, .inr (3, [.int p1_round, .int p1_byTurns, .int p1_apart, .int p1_people, .int p1_women, .long p1_couples, .long p1_quarrels, .long p1_togethers, .long p1_barred, .ref a_p1_worths]))] → va_S A s.heap H locs → lv_has ls 5 [(0, .ref a_p0), (1, .ref a_p1), (2, .int l2), (3, .int l3), (4, .int l4)] → W p l e rm_X8_pairsThatDined s m args below meth c H locs 0 0 Q (F0 m 10 ls []) := by
  intro n
  induction n with
  | zero =>
    intro l2 l4 xx h
    rw [lf_X8_pairsThatDined_10] at h
    cases h
  | succ n ih =>
    intro l2 l4 xx h KK H locs ls hP hD hS hl
    rw [lf_X8_pairsThatDined_10] at h
    refine lv_iload hx hb dX8_pairsThatDined_10 (lv_at hl 4 rfl) ?_
    refine lv_iload_n hx hb dX8_pairsThatDined_12 rfl (lv_at hl 3 rfl) ?_
    refine lv_icmp_ge (tgt := 50) hx hb dX8_pairsThatDined_13 (by decide) (fun c4 => ?_) (fun c4 => ?_)
    · have h := pw_cd_p c4 h
      have hl := lv_sub (l' := [(2, .int l2)]) hl [2] rfl
      exact KK l2 (Option.some.inj h) _ locs ls hP hD hS hl
    · have h := pw_cd_n c4 h
      refine lv_iload hx hb dX8_pairsThatDined_16 (lv_at hl 4 rfl) ?_
      refine lv_bipush (v := 7) hx hb dX8_pairsThatDined_18 (by decide) ?_
      refine lv_icmp_ge (tgt := 50) hx hb dX8_pairsThatDined_20 (by decide) (fun c5 => ?_) (fun c5 => ?_)
      · have h := pw_cd_p c5 h
        have hl := lv_sub (l' := [(2, .int l2)]) hl [2] rfl
        exact KK l2 (Option.some.inj h) _ locs ls hP hD hS hl
      · have h := pw_cd_n c5 h
        refine lv_aload_n hx hb dX8_pairsThatDined_23 rfl (lv_at hl 0 rfl) ?_
        refine va_get (D := (dC, dI)) (ci := 6) (v := .ref a_p0_dined) (C := RX8) (T := TX8) (N := 3) hx hb hts li_X8_pairsThatDined_X8 hown hK hP 0 rfl rfl 0 (by decide) (hts _ lk_X8_pairsThatDined_11) (fun _ h9 => h9) rfl dX8_pairsThatDined_24 ?_
        refine lv_aload_n hx hb dX8_pairsThatDined_27 rfl (lv_at hl 1 rfl) ?_
        refine lv_aload_n hx hb dX8_pairsThatDined_28 rfl (lv_at hl 0 rfl) ?_
        refine va_get (D := (dC, dI)) (ci := 6) (v := .int p0_seating) (C := RX8) (T := TX8) (N := 3) hx hb hts li_X8_pairsThatDined_X8 hown hK hP 0 rfl rfl 1 (by decide) (hts _ lk_X8_pairsThatDined_17) (fun _ h9 => h9) rfl dX8_pairsThatDined_29 ?_
        refine lv_iload hx hb dX8_pairsThatDined_32 (lv_at hl 4 rfl) ?_
        refine pw_ci (wr := [(a_p0, .inr (6, [.ref a_p0_dined, .int p0_seating, .int p0_kept])), (a_p0_dined, .inl (cI, 64, .inl p0_dined_v))]) (va_runV (As := [.int p0_seating, .int l4]) (rest := [.ref a_p0_dined]) ⟨hx, hb, hml, hown, hts⟩ (c_X4_cellOfPair l dC dI cI cZ H.size a_p1 a_p1_worths p1_round p1_byTurns p1_apart p1_people p1_women p1_couples p1_quarrels p1_togethers p1_barred p0_seating l4) (cwV 2 hts gX8_pairsThatDined_X4_cellOfPair rfl rfl rfl (by decide +kernel) ⟨(Nat.le_of_ble_eq_true rfl), (Nat.le_of_ble_eq_true rfl)⟩) (pw_preV hK hP hD [2] rfl rfl (by decide) 3 rfl rfl) rfl rfl hl.1 rfl (lv_room (Nat.le_of_ble_eq_true rfl)) dX8_pairsThatDined_34 ⟨(Nat.le_of_ble_eq_true rfl), (Nat.le_of_ble_eq_true rfl)⟩) hP hD hS hA [2] [0, 1] rfl rfl (by decide) (by decide) (fun r6 u H locs hw hP hD hS => ?_)
        have h := pw_lt_e hw h
        have hP : va_P (dC, dI) vwCl [(a_p0, .inr (6, [.ref a_p0_dined, .int p0_seating, .int p0_kept])), (a_p0_dined, .inl (cI, 64, .inl p0_dined_v)), (a_p1, .inr (3, [.int p1_round, .int p1_byTurns, .int p1_apart, .int p1_people, .int p1_women, .long p1_couples, .long p1_quarrels, .long p1_togethers, .long p1_barred, .ref a_p1_worths]))] H := hP
        have hD : va_D A [(a_p0, .inr (6, [.ref a_p0_dined, .int p0_seating, .int p0_kept])), (a_p0_dined, .inl (cI, 64, .inl p0_dined_v)), (a_p1, .inr (3, [.int p1_round, .int p1_byTurns, .int p1_apart, .int p1_people, .int p1_women, .long p1_couples, .long p1_quarrels, .long p1_togethers, .long p1_barred, .ref a_p1_worths]))] := hD
        obtain ⟨g9, h⟩ := pw_gd_e h
        refine va_iald hx hb hK hP 1 0 rfl rfl g9 dX8_pairsThatDined_37 ?_
        refine lv_if_le (tgt := 44) hx hb dX8_pairsThatDined_38 (by decide) (fun c10 => ?_) (fun c10 => ?_)
        · have h := pw_cd_p c10 h
          refine lv_iinc (v := (l4 + 1)) (lv' := [(4, .int (l4 + 1)), (0, .ref a_p0), (1, .ref a_p1), (2, .int l2), (3, .int l3)]) hx hb dX8_pairsThatDined_44 hl (k := 4) rfl rfl (by decide) rfl (fun ls hl => ?_)
          refine lv_goto (tgt := 10) hx hb dX8_pairsThatDined_47 (by decide) ?_
          have hl := lv_sub (l' := [(0, .ref a_p0), (1, .ref a_p1), (2, .int l2), (3, .int l3), (4, .int (l4 + 1))]) hl [1, 2, 3, 4, 0] rfl
          exact ih l2 (l4 + 1) xx h KK _ locs ls hP hD hS hl
        · have h := pw_cd_n c10 h
          refine lv_iinc (v := (l2 + 1)) (lv' := [(2, .int (l2 + 1)), (0, .ref a_p0), (1, .ref a_p1), (3, .int l3), (4, .int l4)]) hx hb dX8_pairsThatDined_41 hl (k := 2) rfl rfl (by decide) rfl (fun ls hl => ?_)
          refine lv_iinc (v := (l4 + 1)) (lv' := [(4, .int (l4 + 1)), (2, .int (l2 + 1)), (0, .ref a_p0), (1, .ref a_p1), (3, .int l3)]) hx hb dX8_pairsThatDined_44 hl (k := 4) rfl rfl (by decide) rfl (fun ls hl => ?_)
          refine lv_goto (tgt := 10) hx hb dX8_pairsThatDined_47 (by decide) ?_
          have hl := lv_sub (l' := [(0, .ref a_p0), (1, .ref a_p1), (2, .int (l2 + 1)), (3, .int l3), (4, .int (l4 + 1))]) hl [2, 3, 1, 4, 0] rfl
          exact ih (l2 + 1) (l4 + 1) xx h KK _ locs ls hP hD hS hl
set_option maxRecDepth 100000 in
set_option maxHeartbeats 4000000 in
theorem c_X8_pairsThatDined (l : Launch) (dC : Nat → ClassId) (dI : Nat → Nat → Nat) (cI cZ : ClassId) (sz : Nat) (a_p0 : Nat) (a_p0_dined : Nat) (a_p1 : Nat) (a_p1_worths : Nat) (p0_seating : Int32) (p0_kept : Int32) (p0_dined_v : Nat → Int32) (p1_round : Int32) (p1_byTurns : Int32) (p1_apart : Int32) (p1_people : Int32) (p1_women : Int32) (p1_couples : Int64) (p1_quarrels : Int64) (p1_togethers : Int64) (p1_barred : Int64) (xx : Int32) (hc : f_X8_pairsThatDined p0_seating p0_dined_v p1_round p1_people = some xx) : Met l yX8_pairsThatDined wsX8_pairsThatDined rm_X8_pairsThatDined (va_Pc [.ref a_p0, .ref a_p1] (pw_pre (dC, dI) cI cZ [(a_p0, .inr (6, [.ref a_p0_dined, .int p0_seating, .int p0_kept])), (a_p0_dined, .inl (cI, 64, .inl p0_dined_v)), (a_p1, .inr (3, [.int p1_round, .int p1_byTurns, .int p1_apart, .int p1_people, .int p1_women, .long p1_couples, .long p1_quarrels, .long p1_togethers, .long p1_barred, .ref a_p1_worths]))] sz)) (va_Qi (fun (r : Int32) (u : Unit) => f_X8_pairsThatDined p0_seating p0_dined_v p1_round p1_people = some r) (fun u t => pw_post (dC, dI) cI cZ (va_A [(a_p0, .inr (6, [.ref a_p0_dined, .int p0_seating, .int p0_kept])), (a_p0_dined, .inl (cI, 64, .inl p0_dined_v)), (a_p1, .inr (3, [.int p1_round, .int p1_byTurns, .int p1_apart, .int p1_people, .int p1_women, .long p1_couples, .long p1_quarrels, .long p1_togethers, .long p1_barred, .ref a_p1_worths]))] sz) [(a_p0, .inr (6, [.ref a_p0_dined, .int p0_seating, .int p0_kept])), (a_p0_dined, .inl (cI, 64, .inl p0_dined_v)), (a_p1, .inr (3, [.int p1_round, .int p1_byTurns, .int p1_apart, .int p1_people, .int p1_women, .long p1_couples, .long p1_quarrels, .long p1_togethers, .long p1_barred, .ref a_p1_worths]))] t) (va_A [(a_p0, .inr (6, [.ref a_p0_dined, .int p0_seating, .int p0_kept])), (a_p0_dined, .inl (cI, 64, .inl p0_dined_v)), (a_p1, .inr (3, [.int p1_round, .int p1_byTurns, .int p1_apart, .int p1_people, .int p1_women, .long p1_couples, .long p1_quarrels, .long p1_togethers, .long p1_barred, .ref a_p1_worths]))] sz)) 0 0 (va_A [(a_p0, .inr (6, [.ref a_p0_dined, .int p0_seating, .int p0_kept])), (a_p0_dined, .inl (cI, 64, .inl p0_dined_v)), (a_p1, .inr (3, [.int p1_round, .int p1_byTurns, .int p1_apart, .int p1_people, .int p1_women, .long p1_couples, .long p1_quarrels, .long p1_togethers, .long p1_barred, .ref a_p1_worths]))] sz) := by
  refine Met.ofW (cc := cX8_pairsThatDined) (maxL := 5) (ret := (some .int)) (by decide) rfl ?_
  intro p e s m args below meth c s₁ B hml hv
  obtain ⟨rfl, hsz, hP, hK, hD0⟩ := hv
  have hx := B.exec
  have hb := B.bytes
  have hr := B.returns
  have hts := atoms_spec (ws := wsX8_pairsThatDined) B.pre
  have hown : s.vm.findClass RX8 = some m.cls := findClass_of_methodNamed B.named
  have hlocks := B.notSynchronized
  subst hsz
  have hD := hD0.self (sz := s.heap.size)
  generalize hAe : va_A [(a_p0, .inr (6, [.ref a_p0_dined, .int p0_seating, .int p0_kept])), (a_p0_dined, .inl (cI, 64, .inl p0_dined_v)), (a_p1, .inr (3, [.int p1_round, .int p1_byTurns, .int p1_apart, .int p1_people, .int p1_women, .long p1_couples, .long p1_quarrels, .long p1_togethers, .long p1_barred, .ref a_p1_worths]))] s.heap.size = A at hD ⊢
  have hA : ∀ q : Nat, s.heap.size ≤ q → A q := fun q h => by rw [← hAe]; exact Or.inr h
  have hS : va_S A s.heap s.heap [] := va_S.rf
  have hP : va_P (dC, dI) vwCl [(a_p0, .inr (6, [.ref a_p0_dined, .int p0_seating, .int p0_kept])), (a_p0_dined, .inl (cI, 64, .inl p0_dined_v)), (a_p1, .inr (3, [.int p1_round, .int p1_byTurns, .int p1_apart, .int p1_people, .int p1_women, .long p1_couples, .long p1_quarrels, .long p1_togethers, .long p1_barred, .ref a_p1_worths]))] s.heap := hP
  have hl := lv_entry ([.ref a_p0, .ref a_p1]) (n := 5) (Nat.le_of_ble_eq_true rfl)
  rw [lg_entry_eq]
  generalize (lg_sl ([.ref a_p0, .ref a_p1]) ++ List.replicate (5 - (lg_sl ([.ref a_p0, .ref a_p1])).length) Slot.unset).toArray = ls at hl ⊢
  have hl : lv_has ls 5 [(0, .ref a_p0), (1, .ref a_p1)] := hl
  refine pw_Wq (R := rm_X8_pairsThatDined) (fun Q hQ => ?_)
  obtain ⟨locs, elocs⟩ : ∃ y : List Loc, y = [] := ⟨_, rfl⟩
  rw [← elocs] at hS ⊢
  have h := hc
  unfold f_X8_pairsThatDined at h
  refine lv_iconst (v := 0) hx hb dX8_pairsThatDined_0 (by decide) ?_
  refine lv_istore_n (lv' := [(2, .int 0), (0, .ref a_p0), (1, .ref a_p1)]) hx hb dX8_pairsThatDined_1 rfl hl (by decide) rfl (fun ls hl => ?_)
  refine lv_aload_n hx hb dX8_pairsThatDined_2 rfl (lv_at hl 2 rfl) ?_
  refine pw_ci (wr := [(a_p0, .inr (6, [.ref a_p0_dined, .int p0_seating, .int p0_kept])), (a_p0_dined, .inl (cI, 64, .inl p0_dined_v))]) (va_runV (As := []) (rest := []) ⟨hx, hb, hml, hown, hts⟩ (c_X4_neighbourPairs l dC dI cI cZ s.heap.size a_p1 a_p1_worths p1_round p1_byTurns p1_apart p1_people p1_women p1_couples p1_quarrels p1_togethers p1_barred) (cwV 0 hts gX8_pairsThatDined_X4_neighbourPairs rfl rfl rfl (by decide +kernel) ⟨(Nat.le_of_ble_eq_true rfl), (Nat.le_of_ble_eq_true rfl)⟩) (pw_preV hK hP hD [2] rfl rfl (by decide) 3 rfl rfl) rfl rfl hl.1 rfl (lv_room (Nat.le_of_ble_eq_true rfl)) dX8_pairsThatDined_3 ⟨(Nat.le_of_ble_eq_true rfl), (Nat.le_of_ble_eq_true rfl)⟩) hP hD hS hA [2] [0, 1] rfl rfl (by decide) (by decide) (fun r1 u H locs hw hP hD hS => ?_)
  have h := pw_lt_e hw h
  have hP : va_P (dC, dI) vwCl [(a_p0, .inr (6, [.ref a_p0_dined, .int p0_seating, .int p0_kept])), (a_p0_dined, .inl (cI, 64, .inl p0_dined_v)), (a_p1, .inr (3, [.int p1_round, .int p1_byTurns, .int p1_apart, .int p1_people, .int p1_women, .long p1_couples, .long p1_quarrels, .long p1_togethers, .long p1_barred, .ref a_p1_worths]))] H := hP
  have hD : va_D A [(a_p0, .inr (6, [.ref a_p0_dined, .int p0_seating, .int p0_kept])), (a_p0_dined, .inl (cI, 64, .inl p0_dined_v)), (a_p1, .inr (3, [.int p1_round, .int p1_byTurns, .int p1_apart, .int p1_people, .int p1_women, .long p1_couples, .long p1_quarrels, .long p1_togethers, .long p1_barred, .ref a_p1_worths]))] := hD
  refine lv_istore_n (lv' := [(3, .int r1), (2, .int 0), (0, .ref a_p0), (1, .ref a_p1)]) hx hb dX8_pairsThatDined_6 rfl hl (by decide) rfl (fun ls hl => ?_)
  refine lv_iconst (v := 0) hx hb dX8_pairsThatDined_7 (by decide) ?_
  refine lv_istore (lv' := [(4, .int 0), (3, .int r1), (2, .int 0), (0, .ref a_p0), (1, .ref a_p1)]) hx hb dX8_pairsThatDined_8 hl (by decide) rfl (fun ls hl => ?_)
  have hl := lv_sub (l' := [(0, .ref a_p0), (1, .ref a_p1), (2, .int 0), (3, .int r1), (4, .int 0)]) hl [3, 4, 2, 1, 0] rfl
  obtain ⟨xx11, hL12, h⟩ := pw_bd_e h
  refine lw_X8_pairsThatDined_10 hx hb hml hown hts hA hK a_p0 a_p0_dined a_p1 a_p1_worths r1 p0_seating p0_kept p0_dined_v p1_round p1_byTurns p1_apart p1_people p1_women p1_couples p1_quarrels p1_togethers p1_barred pw_FU 0 0 xx11 hL12 ?_ _ locs ls hP hD hS hl
  intro y13 ex H locs ls hP hD hS hl
  subst ex
  have h := pw_u1_e h
  refine lv_iload_n hx hb dX8_pairsThatDined_50 rfl (lv_at hl 0 rfl) ?_
  rw [hQ]
  exact W.iret (v := y13) hx hb hr (fun t ht hW => ⟨⟨y13, (), rfl, hc.trans h.symm, by rw [ht]; exact hP, va_K.moved hW.alike hK, hD⟩, hS.F ht⟩) hS.2.2 dX8_pairsThatDined_51
/-! X8_dine -/
theorem li_X8_dine_X8 : ∀ w ∈ u_ws RX8 TX8 3, w ∈ wsX8_dine := fun w h => List.mem_cons_of_mem _ (List.mem_append_left _ (List.mem_append_right _ h))
theorem lk_X8_dine_11 : Cond.fieldLink RX8 11 "NoWifeBeside$Table" "dined" "[I" ∈ wsX8_dine := by decide +kernel
theorem lk_X8_dine_17 : Cond.fieldLink RX8 17 "NoWifeBeside$Table" "seating" "I" ∈ wsX8_dine := by decide +kernel
abbrev rm_X8_dine : Room := { frames := 3, cells := 0, slots := 0, locals := 64 }
set_option maxRecDepth 100000 in
set_option maxHeartbeats 4000000 in
theorem lw_X8_dine_8 {p : Program} {l : Launch} {e : Env} {s : State} {m : MethodId} {args : Array Value} {below : List Frame} {meth : Method} {c : Code} {Q : State → Prop} {dC : Nat → ClassId} {dI : Nat → Nat → Nat} {cI cZ : ClassId} {A : Nat → Prop} (hx : p.tables.exec = Jvm.exec) (hb : c.code = cX8_dine) (hml : c.maxLocals = 5) (hown : s.vm.findClass RX8 = some m.cls) (hts : ∀ w ∈ wsX8_dine, w.before args s = true) (hA : ∀ q : Nat, s.heap.size ≤ q → A q) (hK : va_K (dC, dI) vwCl [(cI, .int), (cZ, .boolean)] s) (a_p0 : Nat) (a_p0_dined : Nat) (a_p1 : Nat) (a_p1_worths : Nat) (l2 : Int32) (l3 : Int32) (p0_seating : Int32) (p0_kept : Int32) (p1_round : Int32) (p1_byTurns : Int32) (p1_apart : Int32) (p1_people : Int32) (p1_women : Int32) (p1_couples : Int64) (p1_quarrels : Int64) (p1_togethers : Int64) (p1_barred : Int64) :
    ∀ (n : Nat) (l4 : Int32) (p0_dined_v : Nat → Int32) (xx : (Nat → Int32)), lf_X8_dine_8 l2 l3 p0_seating p1_people n l4 p0_dined_v = some xx → ((∀ (e_p0_dined_v : Nat → Int32), e_p0_dined_v = xx → ∀ (H : Heap) (locs : List Loc) (ls : Array Slot), va_P (dC, dI) vwCl [(a_p0, .inr (6, [.ref a_p0_dined, .int p0_seating, .int p0_kept])), (a_p0_dined, .inl (cI, 64, .inl e_p0_dined_v)), (a_p1, .inr (3, [.int p1_round, .int p1_byTurns, .int p1_apart, .int p1_people, .int p1_women, .long p1_couples, .long p1_quarrels, .long p1_togethers, .long p1_barred, .ref a_p1_worths]))] H → va_D A [(a_p0, .inr (6, [.ref a_p0_dined, .int p0_seating, .int p0_kept])), (a_p0_dined, .inl (cI, 64, .inl e_p0_dined_v)), (a_p1, .inr (3, [.int p1_round, .int p1_byTurns, .int p1_apart, .int p1_people, .int p1_women, .long p1_couples, .long p1_quarrels, .long p1_togethers, .long p1_barred, .ref a_p1_worths]))] → va_S A s.heap H locs → lv_has ls 5 [] → W p l e rm_X8_dine s m args below meth c H locs 0 0 Q (F0 m 46 ls []))) → ∀ (H : Heap) (locs : List Loc) (ls : Array Slot), va_P (dC, dI) vwCl [(a_p0, .inr (6, [.ref a_p0_dined, .int p0_seating, .int p0_kept])), (a_p0_dined, .inl (cI, 64, .inl p0_dined_v)), (a_p1, .inr (3, [.int p1_round, .int p1_byTurns, .int p1_apart, .int p1_people, .int p1_women, .long p1_couples, .long p1_quarrels, .long p1_togethers, .long p1_barred, .ref a_p1_worths]))] H → va_D A [(a_p0, .inr (6, [.ref a_p0_dined, .int p0_seating, .int p0_kept])), (a_p0_dined, .inl (cI, 64, .inl p0_dined_v)), (a_p1, .inr (3, [.int p1_round, .int p1_byTurns, .int p1_apart, .int p1_people, .int p1_women, .long p1_couples, .long p1_quarrels, .long p1_togethers, .long p1_barred, .ref a_p1_worths]))] → va_S A s.heap H locs → lv_has ls 5 [(0, .ref a_p0), (1, .ref a_p1), (2, .int l2), (3, .int l3), (4, .int l4)] → W p l e rm_X8_dine s m args below meth c H locs 0 0 Q (F0 m 8 ls []) := by
  intro n
  induction n with
  | zero =>
    intro l4 p0_dined_v xx h
    rw [lf_X8_dine_8] at h
    cases h
  | succ n ih =>
    intro l4 p0_dined_v xx h KK H locs ls hP hD hS hl
    rw [lf_X8_dine_8] at h
    refine lv_iload hx hb dX8_dine_8 (lv_at hl 4 rfl) ?_
    refine lv_iload_n hx hb dX8_dine_10 rfl (lv_at hl 3 rfl) ?_
    refine lv_icmp_ge (tgt := 46) hx hb dX8_dine_11 (by decide) (fun c4 => ?_) (fun c4 => ?_)
    · have h := pw_cd_p c4 h
      have hl := lv_sub (l' := []) hl [] rfl
      exact KK p0_dined_v (Option.some.inj h) _ locs ls hP hD hS hl
    · have h := pw_cd_n c4 h
      refine lv_iload hx hb dX8_dine_14 (lv_at hl 4 rfl) ?_
      refine lv_bipush (v := 7) hx hb dX8_dine_16 (by decide) ?_
      refine lv_icmp_ge (tgt := 46) hx hb dX8_dine_18 (by decide) (fun c5 => ?_) (fun c5 => ?_)
      · have h := pw_cd_p c5 h
        have hl := lv_sub (l' := []) hl [] rfl
        exact KK p0_dined_v (Option.some.inj h) _ locs ls hP hD hS hl
      · have h := pw_cd_n c5 h
        refine lv_aload_n hx hb dX8_dine_21 rfl (lv_at hl 0 rfl) ?_
        refine va_get (D := (dC, dI)) (ci := 6) (v := .ref a_p0_dined) (C := RX8) (T := TX8) (N := 3) hx hb hts li_X8_dine_X8 hown hK hP 0 rfl rfl 0 (by decide) (hts _ lk_X8_dine_11) (fun _ h9 => h9) rfl dX8_dine_22 ?_
        refine lv_aload_n hx hb dX8_dine_25 rfl (lv_at hl 1 rfl) ?_
        refine lv_aload_n hx hb dX8_dine_26 rfl (lv_at hl 0 rfl) ?_
        refine va_get (D := (dC, dI)) (ci := 6) (v := .int p0_seating) (C := RX8) (T := TX8) (N := 3) hx hb hts li_X8_dine_X8 hown hK hP 0 rfl rfl 1 (by decide) (hts _ lk_X8_dine_17) (fun _ h9 => h9) rfl dX8_dine_27 ?_
        refine lv_iload hx hb dX8_dine_30 (lv_at hl 4 rfl) ?_
        refine pw_ci (wr := [(a_p0, .inr (6, [.ref a_p0_dined, .int p0_seating, .int p0_kept])), (a_p0_dined, .inl (cI, 64, .inl p0_dined_v))]) (va_runV (As := [.int p0_seating, .int l4]) (rest := [.ref a_p0_dined]) ⟨hx, hb, hml, hown, hts⟩ (c_X4_cellOfPair l dC dI cI cZ H.size a_p1 a_p1_worths p1_round p1_byTurns p1_apart p1_people p1_women p1_couples p1_quarrels p1_togethers p1_barred p0_seating l4) (cwV 2 hts gX8_dine_X4_cellOfPair rfl rfl rfl (by decide +kernel) ⟨(Nat.le_of_ble_eq_true rfl), (Nat.le_of_ble_eq_true rfl)⟩) (pw_preV hK hP hD [2] rfl rfl (by decide) 3 rfl rfl) rfl rfl hl.1 rfl (lv_room (Nat.le_of_ble_eq_true rfl)) dX8_dine_32 ⟨(Nat.le_of_ble_eq_true rfl), (Nat.le_of_ble_eq_true rfl)⟩) hP hD hS hA [2] [0, 1] rfl rfl (by decide) (by decide) (fun r6 u H locs hw hP hD hS => ?_)
        have h := pw_lt_e hw h
        have hP : va_P (dC, dI) vwCl [(a_p0, .inr (6, [.ref a_p0_dined, .int p0_seating, .int p0_kept])), (a_p0_dined, .inl (cI, 64, .inl p0_dined_v)), (a_p1, .inr (3, [.int p1_round, .int p1_byTurns, .int p1_apart, .int p1_people, .int p1_women, .long p1_couples, .long p1_quarrels, .long p1_togethers, .long p1_barred, .ref a_p1_worths]))] H := hP
        have hD : va_D A [(a_p0, .inr (6, [.ref a_p0_dined, .int p0_seating, .int p0_kept])), (a_p0_dined, .inl (cI, 64, .inl p0_dined_v)), (a_p1, .inr (3, [.int p1_round, .int p1_byTurns, .int p1_apart, .int p1_people, .int p1_women, .long p1_couples, .long p1_quarrels, .long p1_togethers, .long p1_barred, .ref a_p1_worths]))] := hD
        refine lv_dup2_11 hx hb dX8_dine_35 rfl rfl ?_
        obtain ⟨g9, h⟩ := pw_gd_e h
        refine va_iald hx hb hK hP 1 0 rfl rfl g9 dX8_dine_36 ?_
        refine lv_iload_n hx hb dX8_dine_37 rfl (lv_at hl 2 rfl) ?_
        refine lv_iadd hx hb dX8_dine_38 ?_
        refine lv_topi (fun v10 ev10 => ?_)
        have h := pw_lt_e ev10 h
        obtain ⟨g11, h⟩ := pw_gd_e h
        refine va_iast hx hb hK hP hD hS 1 0 rfl rfl g11 dX8_dine_39 (fun H locs hP hD hS => ?_)
        obtain ⟨f12, ef12⟩ : ∃ y : Nat → Int32, y = (upd p0_dined_v (Int32.toNatClampNeg r6) v10) := ⟨_, rfl⟩
        have h := pw_lt_e ef12 h
        rw [← ef12] at hP hD
        have hP : va_P (dC, dI) vwCl [(a_p0, .inr (6, [.ref a_p0_dined, .int p0_seating, .int p0_kept])), (a_p0_dined, .inl (cI, 64, .inl f12)), (a_p1, .inr (3, [.int p1_round, .int p1_byTurns, .int p1_apart, .int p1_people, .int p1_women, .long p1_couples, .long p1_quarrels, .long p1_togethers, .long p1_barred, .ref a_p1_worths]))] H := hP
        have hD : va_D A [(a_p0, .inr (6, [.ref a_p0_dined, .int p0_seating, .int p0_kept])), (a_p0_dined, .inl (cI, 64, .inl f12)), (a_p1, .inr (3, [.int p1_round, .int p1_byTurns, .int p1_apart, .int p1_people, .int p1_women, .long p1_couples, .long p1_quarrels, .long p1_togethers, .long p1_barred, .ref a_p1_worths]))] := hD
        refine lv_iinc (v := (l4 + 1)) (lv' := [(4, .int (l4 + 1)), (0, .ref a_p0), (1, .ref a_p1), (2, .int l2), (3, .int l3)]) hx hb dX8_dine_40 hl (k := 4) rfl rfl (by decide) rfl (fun ls hl => ?_)
        refine lv_goto (tgt := 8) hx hb dX8_dine_43 (by decide) ?_
        have hl := lv_sub (l' := [(0, .ref a_p0), (1, .ref a_p1), (2, .int l2), (3, .int l3), (4, .int (l4 + 1))]) hl [1, 2, 3, 4, 0] rfl
        exact ih (l4 + 1) f12 xx h KK _ locs ls hP hD hS hl
set_option maxRecDepth 100000 in
set_option maxHeartbeats 4000000 in
theorem c_X8_dine (l : Launch) (dC : Nat → ClassId) (dI : Nat → Nat → Nat) (cI cZ : ClassId) (sz : Nat) (a_p0 : Nat) (a_p0_dined : Nat) (a_p1 : Nat) (a_p1_worths : Nat) (p0_seating : Int32) (p0_kept : Int32) (p0_dined_v : Nat → Int32) (p1_round : Int32) (p1_byTurns : Int32) (p1_apart : Int32) (p1_people : Int32) (p1_women : Int32) (p1_couples : Int64) (p1_quarrels : Int64) (p1_togethers : Int64) (p1_barred : Int64) (x2 : Int32) (xx : (Nat → Int32)) (hc : f_X8_dine x2 p0_seating p0_dined_v p1_round p1_people = some xx) : Met l yX8_dine wsX8_dine rm_X8_dine (va_Pc [.ref a_p0, .ref a_p1, .int x2] (pw_pre (dC, dI) cI cZ [(a_p0, .inr (6, [.ref a_p0_dined, .int p0_seating, .int p0_kept])), (a_p0_dined, .inl (cI, 64, .inl p0_dined_v)), (a_p1, .inr (3, [.int p1_round, .int p1_byTurns, .int p1_apart, .int p1_people, .int p1_women, .long p1_couples, .long p1_quarrels, .long p1_togethers, .long p1_barred, .ref a_p1_worths]))] sz)) (va_Qv (fun (u : (Nat → Int32)) => f_X8_dine x2 p0_seating p0_dined_v p1_round p1_people = some u) (fun u t => pw_post (dC, dI) cI cZ (va_A [(a_p0, .inr (6, [.ref a_p0_dined, .int p0_seating, .int p0_kept])), (a_p0_dined, .inl (cI, 64, .inl p0_dined_v)), (a_p1, .inr (3, [.int p1_round, .int p1_byTurns, .int p1_apart, .int p1_people, .int p1_women, .long p1_couples, .long p1_quarrels, .long p1_togethers, .long p1_barred, .ref a_p1_worths]))] sz) [(a_p0, .inr (6, [.ref a_p0_dined, .int p0_seating, .int p0_kept])), (a_p0_dined, .inl (cI, 64, .inl u)), (a_p1, .inr (3, [.int p1_round, .int p1_byTurns, .int p1_apart, .int p1_people, .int p1_women, .long p1_couples, .long p1_quarrels, .long p1_togethers, .long p1_barred, .ref a_p1_worths]))] t) (va_A [(a_p0, .inr (6, [.ref a_p0_dined, .int p0_seating, .int p0_kept])), (a_p0_dined, .inl (cI, 64, .inl p0_dined_v)), (a_p1, .inr (3, [.int p1_round, .int p1_byTurns, .int p1_apart, .int p1_people, .int p1_women, .long p1_couples, .long p1_quarrels, .long p1_togethers, .long p1_barred, .ref a_p1_worths]))] sz)) 0 0 (va_A [(a_p0, .inr (6, [.ref a_p0_dined, .int p0_seating, .int p0_kept])), (a_p0_dined, .inl (cI, 64, .inl p0_dined_v)), (a_p1, .inr (3, [.int p1_round, .int p1_byTurns, .int p1_apart, .int p1_people, .int p1_women, .long p1_couples, .long p1_quarrels, .long p1_togethers, .long p1_barred, .ref a_p1_worths]))] sz) := by
  refine Met.ofW (cc := cX8_dine) (maxL := 5) (ret := none) (by decide) rfl ?_
  intro p e s m args below meth c s₁ B hml hv
  obtain ⟨rfl, hsz, hP, hK, hD0⟩ := hv
  have hx := B.exec
  have hb := B.bytes
  have hr := B.returns
  have hts := atoms_spec (ws := wsX8_dine) B.pre
  have hown : s.vm.findClass RX8 = some m.cls := findClass_of_methodNamed B.named
  have hlocks := B.notSynchronized
  subst hsz
  have hD := hD0.self (sz := s.heap.size)
  generalize hAe : va_A [(a_p0, .inr (6, [.ref a_p0_dined, .int p0_seating, .int p0_kept])), (a_p0_dined, .inl (cI, 64, .inl p0_dined_v)), (a_p1, .inr (3, [.int p1_round, .int p1_byTurns, .int p1_apart, .int p1_people, .int p1_women, .long p1_couples, .long p1_quarrels, .long p1_togethers, .long p1_barred, .ref a_p1_worths]))] s.heap.size = A at hD ⊢
  have hA : ∀ q : Nat, s.heap.size ≤ q → A q := fun q h => by rw [← hAe]; exact Or.inr h
  have hS : va_S A s.heap s.heap [] := va_S.rf
  have hP : va_P (dC, dI) vwCl [(a_p0, .inr (6, [.ref a_p0_dined, .int p0_seating, .int p0_kept])), (a_p0_dined, .inl (cI, 64, .inl p0_dined_v)), (a_p1, .inr (3, [.int p1_round, .int p1_byTurns, .int p1_apart, .int p1_people, .int p1_women, .long p1_couples, .long p1_quarrels, .long p1_togethers, .long p1_barred, .ref a_p1_worths]))] s.heap := hP
  have hl := lv_entry ([.ref a_p0, .ref a_p1, .int x2]) (n := 5) (Nat.le_of_ble_eq_true rfl)
  rw [lg_entry_eq]
  generalize (lg_sl ([.ref a_p0, .ref a_p1, .int x2]) ++ List.replicate (5 - (lg_sl ([.ref a_p0, .ref a_p1, .int x2])).length) Slot.unset).toArray = ls at hl ⊢
  have hl : lv_has ls 5 [(0, .ref a_p0), (1, .ref a_p1), (2, .int x2)] := hl
  refine pw_Wq (R := rm_X8_dine) (fun Q hQ => ?_)
  obtain ⟨locs, elocs⟩ : ∃ y : List Loc, y = [] := ⟨_, rfl⟩
  rw [← elocs] at hS ⊢
  have h := hc
  unfold f_X8_dine at h
  refine lv_aload_n hx hb dX8_dine_0 rfl (lv_at hl 1 rfl) ?_
  refine pw_ci (wr := [(a_p0, .inr (6, [.ref a_p0_dined, .int p0_seating, .int p0_kept])), (a_p0_dined, .inl (cI, 64, .inl p0_dined_v))]) (va_runV (As := []) (rest := []) ⟨hx, hb, hml, hown, hts⟩ (c_X4_neighbourPairs l dC dI cI cZ s.heap.size a_p1 a_p1_worths p1_round p1_byTurns p1_apart p1_people p1_women p1_couples p1_quarrels p1_togethers p1_barred) (cwV 0 hts gX8_dine_X4_neighbourPairs rfl rfl rfl (by decide +kernel) ⟨(Nat.le_of_ble_eq_true rfl), (Nat.le_of_ble_eq_true rfl)⟩) (pw_preV hK hP hD [2] rfl rfl (by decide) 3 rfl rfl) rfl rfl hl.1 rfl (lv_room (Nat.le_of_ble_eq_true rfl)) dX8_dine_1 ⟨(Nat.le_of_ble_eq_true rfl), (Nat.le_of_ble_eq_true rfl)⟩) hP hD hS hA [2] [0, 1] rfl rfl (by decide) (by decide) (fun r1 u H locs hw hP hD hS => ?_)
  have h := pw_lt_e hw h
  have hP : va_P (dC, dI) vwCl [(a_p0, .inr (6, [.ref a_p0_dined, .int p0_seating, .int p0_kept])), (a_p0_dined, .inl (cI, 64, .inl p0_dined_v)), (a_p1, .inr (3, [.int p1_round, .int p1_byTurns, .int p1_apart, .int p1_people, .int p1_women, .long p1_couples, .long p1_quarrels, .long p1_togethers, .long p1_barred, .ref a_p1_worths]))] H := hP
  have hD : va_D A [(a_p0, .inr (6, [.ref a_p0_dined, .int p0_seating, .int p0_kept])), (a_p0_dined, .inl (cI, 64, .inl p0_dined_v)), (a_p1, .inr (3, [.int p1_round, .int p1_byTurns, .int p1_apart, .int p1_people, .int p1_women, .long p1_couples, .long p1_quarrels, .long p1_togethers, .long p1_barred, .ref a_p1_worths]))] := hD
  refine lv_istore_n (lv' := [(3, .int r1), (0, .ref a_p0), (1, .ref a_p1), (2, .int x2)]) hx hb dX8_dine_4 rfl hl (by decide) rfl (fun ls hl => ?_)
  refine lv_iconst (v := 0) hx hb dX8_dine_5 (by decide) ?_
  refine lv_istore (lv' := [(4, .int 0), (3, .int r1), (0, .ref a_p0), (1, .ref a_p1), (2, .int x2)]) hx hb dX8_dine_6 hl (by decide) rfl (fun ls hl => ?_)
  have hl := lv_sub (l' := [(0, .ref a_p0), (1, .ref a_p1), (2, .int x2), (3, .int r1), (4, .int 0)]) hl [2, 3, 4, 1, 0] rfl
  obtain ⟨xx13, hL14, h⟩ := pw_bd_e h
  refine lw_X8_dine_8 hx hb hml hown hts hA hK a_p0 a_p0_dined a_p1 a_p1_worths x2 r1 p0_seating p0_kept p1_round p1_byTurns p1_apart p1_people p1_women p1_couples p1_quarrels p1_togethers p1_barred pw_FU 0 p0_dined_v xx13 hL14 ?_ _ locs ls hP hD hS hl
  intro y15 ex H locs ls hP hD hS hl
  subst ex
  have h := pw_u1_e h
  rw [hQ]
  exact W.vret hx hb hr (fun t ht hW => ⟨⟨y15, rfl, hc.trans h.symm, by rw [ht]; exact hP, va_K.moved hW.alike hK, hD⟩, hS.F ht⟩) hS.2.2 dX8_dine_46
