/-! X6_begin -/
theorem li_X6_begin_X6 : ∀ w ∈ u_ws RX6 TX6 3, w ∈ wsX6_begin := fun w h => List.mem_cons_of_mem _ (List.mem_append_right _ h)
theorem lk_X6_begin_9 : Cond.fieldLink RX6 9 "NoWifeBeside$Search" "queue" "[I" ∈ wsX6_begin := by decide +kernel
theorem lk_X6_begin_15 : Cond.fieldLink RX6 15 "NoWifeBeside$Search" "swaps" "[I" ∈ wsX6_begin := by decide +kernel
theorem lk_X6_begin_18 : Cond.fieldLink RX6 18 "NoWifeBeside$Search" "queued" "I" ∈ wsX6_begin := by decide +kernel
theorem lk_X6_begin_acI : Cond.arrayClass .int ∈ wsX6_begin := by decide +kernel
abbrev rm_X6_begin : Room := { frames := 0, cells := 2, slots := 1440, locals := 0 }
set_option maxRecDepth 100000 in
set_option maxHeartbeats 4000000 in
theorem lw_X6_begin_25 {p : Program} {l : Launch} {e : Env} {s : State} {m : MethodId} {args : Array Value} {below : List Frame} {meth : Method} {c : Code} {Q : State → Prop} {dC : Nat → ClassId} {dI : Nat → Nat → Nat} {cI cZ : ClassId} {A : Nat → Prop} (hx : p.tables.exec = Jvm.exec) (hb : c.code = cX6_begin) (hml : c.maxLocals = 3) (hown : s.vm.findClass RX6 = some m.cls) (hts : ∀ w ∈ wsX6_begin, w.before args s = true) (hA : ∀ q : Nat, s.heap.size ≤ q → A q) (hK : va_K (dC, dI) vwCl [(cI, .int), (cZ, .boolean)] s) (a_p0 : Nat) (a_p0_queue : Nat) (a_p0_swaps : Nat) (p0_queued : Int32) (p0_queue_v : Nat → Int32) (p0_queue_n : Nat) (p0_swaps_n : Nat) :
    ∀ (n : Nat) (l2 : Int32) (p0_swaps_v : Nat → Int32) (xx : (Nat → Int32)), lf_X6_begin_25 p0_swaps_n n l2 p0_swaps_v = some xx → ((∀ (e_p0_swaps_v : Nat → Int32), e_p0_swaps_v = xx → ∀ (H : Heap) (locs : List Loc) (ls : Array Slot), va_P (dC, dI) vwCl [(a_p0, .inr (5, [.ref a_p0_queue, .ref a_p0_swaps, .int p0_queued])), (a_p0_queue, .inl (cI, p0_queue_n, .inl p0_queue_v)), (a_p0_swaps, .inl (cI, p0_swaps_n, .inl e_p0_swaps_v))] H → va_D A [(a_p0, .inr (5, [.ref a_p0_queue, .ref a_p0_swaps, .int p0_queued])), (a_p0_queue, .inl (cI, p0_queue_n, .inl p0_queue_v)), (a_p0_swaps, .inl (cI, p0_swaps_n, .inl e_p0_swaps_v))] → va_S A s.heap H locs → lv_has ls 3 [(0, .ref a_p0)] → W p l e rm_X6_begin s m args below meth c H locs 2 1440 Q (F0 m 47 ls []))) → ∀ (H : Heap) (locs : List Loc) (ls : Array Slot), va_P (dC, dI) vwCl [(a_p0, .inr (5, [.ref a_p0_queue, .ref a_p0_swaps, .int p0_queued])), (a_p0_queue, .inl (cI, p0_queue_n, .inl p0_queue_v)), (a_p0_swaps, .inl (cI, p0_swaps_n, .inl p0_swaps_v))] H → va_D A [(a_p0, .inr (5, [.ref a_p0_queue, .ref a_p0_swaps, .int p0_queued])), (a_p0_queue, .inl (cI, p0_queue_n, .inl p0_queue_v)), (a_p0_swaps, .inl (cI, p0_swaps_n, .inl p0_swaps_v))] → va_S A s.heap H locs → lv_has ls 3 [(0, .ref a_p0), (2, .int l2)] → W p l e rm_X6_begin s m args below meth c H locs 2 1440 Q (F0 m 25 ls []) := by
  intro n
  induction n with
  | zero =>
    intro l2 p0_swaps_v xx h
    rw [lf_X6_begin_25] at h
    cases h
  | succ n ih =>
    intro l2 p0_swaps_v xx h KK H locs ls hP hD hS hl
    rw [lf_X6_begin_25] at h
    refine lv_iload_n hx hb dX6_begin_25 rfl (lv_at hl 1 rfl) ?_
    refine lv_aload_n hx hb dX6_begin_26 rfl (lv_at hl 0 rfl) ?_
    refine va_get (D := (dC, dI)) (ci := 5) (v := .ref a_p0_swaps) (C := RX6) (T := TX6) (N := 3) hx hb hts li_X6_begin_X6 hown hK hP 0 rfl rfl 1 (by decide) (hts _ lk_X6_begin_15) (fun _ h9 => h9) rfl dX6_begin_27 ?_
    refine va_alen hx hb hK hP 2 0 rfl rfl (v := (nI p0_swaps_n)) rfl dX6_begin_30 ?_
    refine lv_topi (fun v11 ev11 => ?_)
    have h := pw_lt_e ev11 h
    refine lv_icmp_ge (tgt := 47) hx hb dX6_begin_31 (by decide) (fun c12 => ?_) (fun c12 => ?_)
    · have h := pw_cd_p c12 h
      have hl := lv_sub (l' := [(0, .ref a_p0)]) hl [0] rfl
      exact KK p0_swaps_v (Option.some.inj h) _ locs ls hP hD hS hl
    · have h := pw_cd_n c12 h
      refine lv_aload_n hx hb dX6_begin_34 rfl (lv_at hl 0 rfl) ?_
      refine va_get (D := (dC, dI)) (ci := 5) (v := .ref a_p0_swaps) (C := RX6) (T := TX6) (N := 3) hx hb hts li_X6_begin_X6 hown hK hP 0 rfl rfl 1 (by decide) (hts _ lk_X6_begin_15) (fun _ h9 => h9) rfl dX6_begin_35 ?_
      refine lv_iload_n hx hb dX6_begin_38 rfl (lv_at hl 1 rfl) ?_
      refine lv_iconst (v := 0) hx hb dX6_begin_39 (by decide) ?_
      obtain ⟨g13, h⟩ := pw_gd_e h
      refine va_iast hx hb hK hP hD hS 2 0 rfl rfl g13 dX6_begin_40 (fun H locs hP hD hS => ?_)
      obtain ⟨f14, ef14⟩ : ∃ y : Nat → Int32, y = (upd p0_swaps_v (Int32.toNatClampNeg l2) 0) := ⟨_, rfl⟩
      have h := pw_lt_e ef14 h
      rw [← ef14] at hP hD
      have hP : va_P (dC, dI) vwCl [(a_p0, .inr (5, [.ref a_p0_queue, .ref a_p0_swaps, .int p0_queued])), (a_p0_queue, .inl (cI, p0_queue_n, .inl p0_queue_v)), (a_p0_swaps, .inl (cI, p0_swaps_n, .inl f14))] H := hP
      have hD : va_D A [(a_p0, .inr (5, [.ref a_p0_queue, .ref a_p0_swaps, .int p0_queued])), (a_p0_queue, .inl (cI, p0_queue_n, .inl p0_queue_v)), (a_p0_swaps, .inl (cI, p0_swaps_n, .inl f14))] := hD
      refine lv_iinc (v := (l2 + 1)) (lv' := [(2, .int (l2 + 1)), (0, .ref a_p0)]) hx hb dX6_begin_41 hl (k := 1) rfl rfl (by decide) rfl (fun ls hl => ?_)
      refine lv_goto (tgt := 25) hx hb dX6_begin_44 (by decide) ?_
      have hl := lv_sub (l' := [(0, .ref a_p0), (2, .int (l2 + 1))]) hl [1, 0] rfl
      exact ih (l2 + 1) f14 xx h KK _ locs ls hP hD hS hl
set_option maxRecDepth 100000 in
set_option maxHeartbeats 4000000 in
theorem c_X6_begin (l : Launch) (dC : Nat → ClassId) (dI : Nat → Nat → Nat) (cI cZ : ClassId) (sz : Nat) (a_p0 : Nat) (a_p0_queue : Nat) (a_p0_swaps : Nat) (p0_queued : Int32) (p0_queue_v : Nat → Int32) (p0_queue_n : Nat) (p0_swaps_v : Nat → Int32) (p0_swaps_n : Nat) (x1 : Int32) (xx : Int32 × (Nat → Int32) × Nat × (Nat → Int32) × Nat) (hc : f_X6_begin x1 p0_queue_v p0_queue_n p0_swaps_v p0_swaps_n = some xx) : Met l yX6_begin wsX6_begin rm_X6_begin (va_Pc [.ref a_p0, .int x1] (pw_pre (dC, dI) cI cZ [(a_p0, .inr (5, [.ref a_p0_queue, .ref a_p0_swaps, .int p0_queued])), (a_p0_queue, .inl (cI, p0_queue_n, .inl p0_queue_v)), (a_p0_swaps, .inl (cI, p0_swaps_n, .inl p0_swaps_v))] sz)) (va_Qv (fun (u : Nat × Nat × Int32 × (Nat → Int32) × Nat × (Nat → Int32) × Nat) => f_X6_begin x1 p0_queue_v p0_queue_n p0_swaps_v p0_swaps_n = some (u.2.2.1, u.2.2.2.1, u.2.2.2.2.1, u.2.2.2.2.2.1, u.2.2.2.2.2.2)) (fun u t => pw_post (dC, dI) cI cZ (va_A [(a_p0, .inr (5, [.ref a_p0_queue, .ref a_p0_swaps, .int p0_queued])), (a_p0_queue, .inl (cI, p0_queue_n, .inl p0_queue_v)), (a_p0_swaps, .inl (cI, p0_swaps_n, .inl p0_swaps_v))] sz) [(a_p0, .inr (5, [.ref u.1, .ref u.2.1, .int u.2.2.1])), (u.1, .inl (cI, u.2.2.2.2.1, .inl u.2.2.2.1)), (u.2.1, .inl (cI, u.2.2.2.2.2.2, .inl u.2.2.2.2.2.1))] t) (va_A [(a_p0, .inr (5, [.ref a_p0_queue, .ref a_p0_swaps, .int p0_queued])), (a_p0_queue, .inl (cI, p0_queue_n, .inl p0_queue_v)), (a_p0_swaps, .inl (cI, p0_swaps_n, .inl p0_swaps_v))] sz)) 2 1440 (va_A [(a_p0, .inr (5, [.ref a_p0_queue, .ref a_p0_swaps, .int p0_queued])), (a_p0_queue, .inl (cI, p0_queue_n, .inl p0_queue_v)), (a_p0_swaps, .inl (cI, p0_swaps_n, .inl p0_swaps_v))] sz) := by
  refine Met.ofW (cc := cX6_begin) (maxL := 3) (ret := none) (by decide) rfl ?_
  intro p e s m args below meth c s₁ B hml hv
  obtain ⟨rfl, hsz, hP, hK, hD0⟩ := hv
  have hx := B.exec
  have hb := B.bytes
  have hr := B.returns
  have hts := atoms_spec (ws := wsX6_begin) B.pre
  have hown : s.vm.findClass RX6 = some m.cls := findClass_of_methodNamed B.named
  have hlocks := B.notSynchronized
  subst hsz
  have hD := hD0.self (sz := s.heap.size)
  generalize hAe : va_A [(a_p0, .inr (5, [.ref a_p0_queue, .ref a_p0_swaps, .int p0_queued])), (a_p0_queue, .inl (cI, p0_queue_n, .inl p0_queue_v)), (a_p0_swaps, .inl (cI, p0_swaps_n, .inl p0_swaps_v))] s.heap.size = A at hD ⊢
  have hA : ∀ q : Nat, s.heap.size ≤ q → A q := fun q h => by rw [← hAe]; exact Or.inr h
  have hS : va_S A s.heap s.heap [] := va_S.rf
  have hP : va_P (dC, dI) vwCl [(a_p0, .inr (5, [.ref a_p0_queue, .ref a_p0_swaps, .int p0_queued])), (a_p0_queue, .inl (cI, p0_queue_n, .inl p0_queue_v)), (a_p0_swaps, .inl (cI, p0_swaps_n, .inl p0_swaps_v))] s.heap := hP
  have hl := lv_entry ([.ref a_p0, .int x1]) (n := 3) (Nat.le_of_ble_eq_true rfl)
  rw [lg_entry_eq]
  generalize (lg_sl ([.ref a_p0, .int x1]) ++ List.replicate (3 - (lg_sl ([.ref a_p0, .int x1])).length) Slot.unset).toArray = ls at hl ⊢
  have hl : lv_has ls 3 [(0, .ref a_p0), (1, .int x1)] := hl
  refine pw_Wq (R := rm_X6_begin) (fun Q hQ => ?_)
  obtain ⟨locs, elocs⟩ : ∃ y : List Loc, y = [] := ⟨_, rfl⟩
  rw [← elocs] at hS ⊢
  have h := hc
  unfold f_X6_begin at h
  refine lv_iload_n hx hb dX6_begin_0 rfl (lv_at hl 1 rfl) ?_
  refine lv_aload_n hx hb dX6_begin_1 rfl (lv_at hl 0 rfl) ?_
  refine va_get (D := (dC, dI)) (ci := 5) (v := .ref a_p0_queue) (C := RX6) (T := TX6) (N := 3) hx hb hts li_X6_begin_X6 hown hK hP 0 rfl rfl 0 (by decide) (hts _ lk_X6_begin_9) (fun _ h9 => h9) rfl dX6_begin_2 ?_
  refine va_alen hx hb hK hP 1 0 rfl rfl (v := (nI p0_queue_n)) rfl dX6_begin_5 ?_
  refine lv_topi (fun v1 ev1 => ?_)
  have h := pw_lt_e ev1 h
  obtain ⟨k9, hk9, h⟩ := pw_jn_e h
  have K10 : ∀ (j3 : Nat → Int32) (j4 : Nat) (j5 : Nat → Int32) (j6 : Nat), k9 j3 j4 j5 j6 = some xx → ∀ (a7 : Nat) (a8 : Nat) (H : Heap) (locs : List Loc) (ls : Array Slot), va_P (dC, dI) vwCl [(a_p0, .inr (5, [.ref a7, .ref a8, .int p0_queued])), (a7, .inl (cI, j4, .inl j3)), (a8, .inl (cI, j6, .inl j5))] H → va_D A [(a_p0, .inr (5, [.ref a7, .ref a8, .int p0_queued])), (a7, .inl (cI, j4, .inl j3)), (a8, .inl (cI, j6, .inl j5))] → va_S A s.heap H locs → lv_has ls 3 [(0, .ref a_p0)] → W p l e rm_X6_begin s m ([.ref a_p0, .int x1] : List Value).toArray below meth c H locs 2 1440 Q (F0 m 23 ls []) := by
    intro j3 j4 j5 j6 h a7 a8 H locs ls hP hD hS hl
    have h := pw_jk4 hk9 h
    refine lv_iconst (v := 0) hx hb dX6_begin_23 (by decide) ?_
    refine lv_istore_n (lv' := [(2, .int 0), (0, .ref a_p0)]) hx hb dX6_begin_24 rfl hl (by decide) rfl (fun ls hl => ?_)
    have hl := lv_sub (l' := [(0, .ref a_p0), (2, .int 0)]) hl [1, 0] rfl
    obtain ⟨xx15, hL16, h⟩ := pw_bd_e h
    refine lw_X6_begin_25 hx hb hml hown hts hA hK a_p0 a7 a8 p0_queued j3 j4 j6 pw_FU 0 j5 xx15 hL16 ?_ _ locs ls hP hD hS hl
    intro y17 ex H locs ls hP hD hS hl
    subst ex
    have h := pw_u1_e h
    refine lv_aload_n hx hb dX6_begin_47 rfl (lv_at hl 0 rfl) ?_
    refine lv_iconst (v := 0) hx hb dX6_begin_48 (by decide) ?_
    refine va_put (D := (dC, dI)) (ci := 5) (v := .int 0) (ty := .int) (C := RX6) (T := TX6) (N := 3) hx hb hts li_X6_begin_X6 tyX6 tyX6_ok nmX6 hown hK hP hD hS 0 rfl rfl 2 (by decide) (hts _ lk_X6_begin_18) (fun _ h9 => h9) rfl (by decide +kernel) rfl rfl (Nat.le_of_ble_eq_true rfl) dX6_begin_49 (fun H locs hP hD hS => ?_)
    have hP : va_P (dC, dI) vwCl [(a_p0, .inr (5, [.ref a7, .ref a8, .int 0])), (a7, .inl (cI, j4, .inl j3)), (a8, .inl (cI, j6, .inl y17))] H := hP
    have hD : va_D A [(a_p0, .inr (5, [.ref a7, .ref a8, .int 0])), (a7, .inl (cI, j4, .inl j3)), (a8, .inl (cI, j6, .inl y17))] := hD
    rw [hQ]
    refine W.widen (k := 2) (n := 1440) (by decide) (by decide) ?_
    exact W.vret hx hb hr (fun t ht hW => ⟨⟨(a7, a8, 0, j3, j4, y17, j6), rfl, hc.trans h.symm, by rw [ht]; exact hP, va_K.moved hW.alike hK, hD⟩, hS.F ht⟩) hS.2.2 dX6_begin_52
  refine lv_icmp_le (tgt := 23) hx hb dX6_begin_6 (by decide) (fun c2 => ?_) (fun c2 => ?_)
  · have h := pw_cd_p c2 h
    have hl := lv_sub (l' := [(0, .ref a_p0)]) hl [0] rfl
    refine W.widen (k := 2) (n := 1440) (by decide) (by decide) ?_
    exact K10 p0_queue_v p0_queue_n p0_swaps_v p0_swaps_n h a_p0_queue a_p0_swaps _ locs ls hP hD hS hl
  · have h := pw_cd_n c2 h
    refine lv_aload_n hx hb dX6_begin_9 rfl (lv_at hl 0 rfl) ?_
    refine lv_iload_n hx hb dX6_begin_10 rfl (lv_at hl 1 rfl) ?_
    obtain ⟨g18, h⟩ := pw_gd_e h
    have hcap := (hts _ lk_X6_begin_acI)
    refine va_newa (atype := .int) (a0 := ((Int32.toNatClampNeg x1), .inl (fun _ => 0))) (ty := .int) (N' := (Int32.toNatClampNeg x1)) hx hb hcap rfl hK hP hD hS hA (fun cA => rfl) g18.1 rfl (by show (Int32.toNatClampNeg x1) * 4 ≤ 536870912; omega) (by show _ + 1 ≤ 2; omega) (by show _ + _ ≤ 1440; omega) dX6_begin_11 (fun a19 cA H hK1 hP hD hS => ?_)
    have hcA := (pw_tysI hK1).symm
    subst hcA
    have hP : va_P (dC, dI) vwCl [(a_p0, .inr (5, [.ref a_p0_queue, .ref a_p0_swaps, .int p0_queued])), (a_p0_queue, .inl (cI, p0_queue_n, .inl p0_queue_v)), (a_p0_swaps, .inl (cI, p0_swaps_n, .inl p0_swaps_v)), (a19, .inl (cI, (Int32.toNatClampNeg x1), .inl (fun _ => 0)))] H := hP
    have hD : va_D A [(a_p0, .inr (5, [.ref a_p0_queue, .ref a_p0_swaps, .int p0_queued])), (a_p0_queue, .inl (cI, p0_queue_n, .inl p0_queue_v)), (a_p0_swaps, .inl (cI, p0_swaps_n, .inl p0_swaps_v)), (a19, .inl (cI, (Int32.toNatClampNeg x1), .inl (fun _ => 0)))] := hD
    refine W.widen (k := 1) (n := 720) (by omega) (by omega) ?_
    refine va_put (D := (dC, dI)) (ci := 5) (v := .ref a19) (ty := (.array .int)) (C := RX6) (T := TX6) (N := 3) hx hb hts li_X6_begin_X6 tyX6 tyX6_ok nmX6 hown hK hP hD hS 0 rfl rfl 0 (by decide) (hts _ lk_X6_begin_9) (fun _ h9 => h9) rfl (by decide +kernel) rfl rfl (Nat.le_of_ble_eq_true rfl) dX6_begin_13 (fun H locs hP hD hS => ?_)
    have hP := hP.sub (ws' := [(a_p0, .inr (5, [.ref a19, .ref a_p0_swaps, .int p0_queued])), (a_p0_swaps, .inl (cI, p0_swaps_n, .inl p0_swaps_v)), (a19, .inl (cI, (Int32.toNatClampNeg x1), .inl (fun _ => 0)))]) [0, 2, 3] rfl
    have hD := hD.sub (ws' := [(a_p0, .inr (5, [.ref a19, .ref a_p0_swaps, .int p0_queued])), (a_p0_swaps, .inl (cI, p0_swaps_n, .inl p0_swaps_v)), (a19, .inl (cI, (Int32.toNatClampNeg x1), .inl (fun _ => 0)))]) [0, 2, 3] (by decide) rfl
    have hP : va_P (dC, dI) vwCl [(a_p0, .inr (5, [.ref a19, .ref a_p0_swaps, .int p0_queued])), (a_p0_swaps, .inl (cI, p0_swaps_n, .inl p0_swaps_v)), (a19, .inl (cI, (Int32.toNatClampNeg x1), .inl (fun _ => 0)))] H := hP
    have hD : va_D A [(a_p0, .inr (5, [.ref a19, .ref a_p0_swaps, .int p0_queued])), (a_p0_swaps, .inl (cI, p0_swaps_n, .inl p0_swaps_v)), (a19, .inl (cI, (Int32.toNatClampNeg x1), .inl (fun _ => 0)))] := hD
    refine lv_aload_n hx hb dX6_begin_16 rfl (lv_at hl 0 rfl) ?_
    refine lv_iload_n hx hb dX6_begin_17 rfl (lv_at hl 1 rfl) ?_
    obtain ⟨g20, h⟩ := pw_gd_e h
    have hcap := (hts _ lk_X6_begin_acI)
    refine va_newa (atype := .int) (a0 := ((Int32.toNatClampNeg x1), .inl (fun _ => 0))) (ty := .int) (N' := (Int32.toNatClampNeg x1)) hx hb hcap rfl hK hP hD hS hA (fun cA => rfl) g20.1 rfl (by show (Int32.toNatClampNeg x1) * 4 ≤ 536870912; omega) (by show _ + 1 ≤ 2; omega) (by show _ + _ ≤ 1440; omega) dX6_begin_18 (fun a21 cA H hK1 hP hD hS => ?_)
    have hcA := (pw_tysI hK1).symm
    subst hcA
    have hP : va_P (dC, dI) vwCl [(a_p0, .inr (5, [.ref a19, .ref a_p0_swaps, .int p0_queued])), (a_p0_swaps, .inl (cI, p0_swaps_n, .inl p0_swaps_v)), (a19, .inl (cI, (Int32.toNatClampNeg x1), .inl (fun _ => 0))), (a21, .inl (cI, (Int32.toNatClampNeg x1), .inl (fun _ => 0)))] H := hP
    have hD : va_D A [(a_p0, .inr (5, [.ref a19, .ref a_p0_swaps, .int p0_queued])), (a_p0_swaps, .inl (cI, p0_swaps_n, .inl p0_swaps_v)), (a19, .inl (cI, (Int32.toNatClampNeg x1), .inl (fun _ => 0))), (a21, .inl (cI, (Int32.toNatClampNeg x1), .inl (fun _ => 0)))] := hD
    refine W.widen (k := 2) (n := 1440) (by omega) (by omega) ?_
    refine va_put (D := (dC, dI)) (ci := 5) (v := .ref a21) (ty := (.array .int)) (C := RX6) (T := TX6) (N := 3) hx hb hts li_X6_begin_X6 tyX6 tyX6_ok nmX6 hown hK hP hD hS 0 rfl rfl 1 (by decide) (hts _ lk_X6_begin_15) (fun _ h9 => h9) rfl (by decide +kernel) rfl rfl (Nat.le_of_ble_eq_true rfl) dX6_begin_20 (fun H locs hP hD hS => ?_)
    have hP := hP.sub (ws' := [(a_p0, .inr (5, [.ref a19, .ref a21, .int p0_queued])), (a19, .inl (cI, (Int32.toNatClampNeg x1), .inl (fun _ => 0))), (a21, .inl (cI, (Int32.toNatClampNeg x1), .inl (fun _ => 0)))]) [0, 2, 3] rfl
    have hD := hD.sub (ws' := [(a_p0, .inr (5, [.ref a19, .ref a21, .int p0_queued])), (a19, .inl (cI, (Int32.toNatClampNeg x1), .inl (fun _ => 0))), (a21, .inl (cI, (Int32.toNatClampNeg x1), .inl (fun _ => 0)))]) [0, 2, 3] (by decide) rfl
    have hP : va_P (dC, dI) vwCl [(a_p0, .inr (5, [.ref a19, .ref a21, .int p0_queued])), (a19, .inl (cI, (Int32.toNatClampNeg x1), .inl (fun _ => 0))), (a21, .inl (cI, (Int32.toNatClampNeg x1), .inl (fun _ => 0)))] H := hP
    have hD : va_D A [(a_p0, .inr (5, [.ref a19, .ref a21, .int p0_queued])), (a19, .inl (cI, (Int32.toNatClampNeg x1), .inl (fun _ => 0))), (a21, .inl (cI, (Int32.toNatClampNeg x1), .inl (fun _ => 0)))] := hD
    have hl := lv_sub (l' := [(0, .ref a_p0)]) hl [0] rfl
    exact K10 (fun _ => 0) (Int32.toNatClampNeg x1) (fun _ => 0) (Int32.toNatClampNeg x1) h a19 a21 _ locs ls hP hD hS hl
/-! X6_swapsTo -/
theorem li_X6_swapsTo_X6 : ∀ w ∈ u_ws RX6 TX6 3, w ∈ wsX6_swapsTo := fun w h => List.mem_cons_of_mem _ (List.mem_append_right _ h)
theorem lk_X6_swapsTo_15 : Cond.fieldLink RX6 15 "NoWifeBeside$Search" "swaps" "[I" ∈ wsX6_swapsTo := by decide +kernel
abbrev rm_X6_swapsTo : Room := { frames := 0, cells := 0, slots := 0, locals := 0 }
set_option maxRecDepth 100000 in
set_option maxHeartbeats 4000000 in
theorem c_X6_swapsTo (l : Launch) (dC : Nat → ClassId) (dI : Nat → Nat → Nat) (cI cZ : ClassId) (sz : Nat) (a_p0 : Nat) (a_p0_queue : Nat) (a_p0_swaps : Nat) (p0_queued : Int32) (p0_swaps_v : Nat → Int32) (p0_swaps_n : Nat) (x1 : Int32) (xx : Int32) (hc : f_X6_swapsTo x1 p0_swaps_v p0_swaps_n = some xx) : Met l yX6_swapsTo wsX6_swapsTo rm_X6_swapsTo (va_Pc [.ref a_p0, .int x1] (pw_pre (dC, dI) cI cZ [(a_p0, .inr (5, [.ref a_p0_queue, .ref a_p0_swaps, .int p0_queued])), (a_p0_swaps, .inl (cI, p0_swaps_n, .inl p0_swaps_v))] sz)) (va_Qi (fun (r : Int32) (u : Unit) => f_X6_swapsTo x1 p0_swaps_v p0_swaps_n = some r) (fun u t => pw_post (dC, dI) cI cZ (va_A [(a_p0, .inr (5, [.ref a_p0_queue, .ref a_p0_swaps, .int p0_queued])), (a_p0_swaps, .inl (cI, p0_swaps_n, .inl p0_swaps_v))] sz) [(a_p0, .inr (5, [.ref a_p0_queue, .ref a_p0_swaps, .int p0_queued])), (a_p0_swaps, .inl (cI, p0_swaps_n, .inl p0_swaps_v))] t) (va_A [(a_p0, .inr (5, [.ref a_p0_queue, .ref a_p0_swaps, .int p0_queued])), (a_p0_swaps, .inl (cI, p0_swaps_n, .inl p0_swaps_v))] sz)) 0 0 (va_A [(a_p0, .inr (5, [.ref a_p0_queue, .ref a_p0_swaps, .int p0_queued])), (a_p0_swaps, .inl (cI, p0_swaps_n, .inl p0_swaps_v))] sz) := by
  refine Met.ofW (cc := cX6_swapsTo) (maxL := 2) (ret := (some .int)) (by decide) rfl ?_
  intro p e s m args below meth c s₁ B hml hv
  obtain ⟨rfl, hsz, hP, hK, hD0⟩ := hv
  have hx := B.exec
  have hb := B.bytes
  have hr := B.returns
  have hts := atoms_spec (ws := wsX6_swapsTo) B.pre
  have hown : s.vm.findClass RX6 = some m.cls := findClass_of_methodNamed B.named
  have hlocks := B.notSynchronized
  subst hsz
  have hD := hD0.self (sz := s.heap.size)
  generalize hAe : va_A [(a_p0, .inr (5, [.ref a_p0_queue, .ref a_p0_swaps, .int p0_queued])), (a_p0_swaps, .inl (cI, p0_swaps_n, .inl p0_swaps_v))] s.heap.size = A at hD ⊢
  have hA : ∀ q : Nat, s.heap.size ≤ q → A q := fun q h => by rw [← hAe]; exact Or.inr h
  have hS : va_S A s.heap s.heap [] := va_S.rf
  have hP : va_P (dC, dI) vwCl [(a_p0, .inr (5, [.ref a_p0_queue, .ref a_p0_swaps, .int p0_queued])), (a_p0_swaps, .inl (cI, p0_swaps_n, .inl p0_swaps_v))] s.heap := hP
  have hl := lv_entry ([.ref a_p0, .int x1]) (n := 2) (Nat.le_of_ble_eq_true rfl)
  rw [lg_entry_eq]
  generalize (lg_sl ([.ref a_p0, .int x1]) ++ List.replicate (2 - (lg_sl ([.ref a_p0, .int x1])).length) Slot.unset).toArray = ls at hl ⊢
  have hl : lv_has ls 2 [(0, .ref a_p0), (1, .int x1)] := hl
  refine pw_Wq (R := rm_X6_swapsTo) (fun Q hQ => ?_)
  obtain ⟨locs, elocs⟩ : ∃ y : List Loc, y = [] := ⟨_, rfl⟩
  rw [← elocs] at hS ⊢
  have h := hc
  unfold f_X6_swapsTo at h
  refine lv_iload_n hx hb dX6_swapsTo_0 rfl (lv_at hl 1 rfl) ?_
  refine lv_if_lt (tgt := 22) hx hb dX6_swapsTo_1 (by decide) (fun c1 => ?_) (fun c1 => ?_)
  · have h := pw_cd_p c1 h
    refine lv_iconst (v := 0) hx hb dX6_swapsTo_22 (by decide) ?_
    rw [hQ]
    exact W.iret (v := 0) hx hb hr (fun t ht hW => ⟨⟨0, (), rfl, hc.trans h.symm, by rw [ht]; exact hP, va_K.moved hW.alike hK, hD⟩, hS.F ht⟩) hS.2.2 dX6_swapsTo_23
  · have h := pw_cd_n c1 h
    refine lv_iload_n hx hb dX6_swapsTo_4 rfl (lv_at hl 1 rfl) ?_
    refine lv_aload_n hx hb dX6_swapsTo_5 rfl (lv_at hl 0 rfl) ?_
    refine va_get (D := (dC, dI)) (ci := 5) (v := .ref a_p0_swaps) (C := RX6) (T := TX6) (N := 3) hx hb hts li_X6_swapsTo_X6 hown hK hP 0 rfl rfl 1 (by decide) (hts _ lk_X6_swapsTo_15) (fun _ h9 => h9) rfl dX6_swapsTo_6 ?_
    refine va_alen hx hb hK hP 1 0 rfl rfl (v := (nI p0_swaps_n)) rfl dX6_swapsTo_9 ?_
    refine lv_topi (fun v2 ev2 => ?_)
    have h := pw_lt_e ev2 h
    refine lv_icmp_ge (tgt := 22) hx hb dX6_swapsTo_10 (by decide) (fun c3 => ?_) (fun c3 => ?_)
    · have h := pw_cd_p c3 h
      refine lv_iconst (v := 0) hx hb dX6_swapsTo_22 (by decide) ?_
      rw [hQ]
      exact W.iret (v := 0) hx hb hr (fun t ht hW => ⟨⟨0, (), rfl, hc.trans h.symm, by rw [ht]; exact hP, va_K.moved hW.alike hK, hD⟩, hS.F ht⟩) hS.2.2 dX6_swapsTo_23
    · have h := pw_cd_n c3 h
      refine lv_aload_n hx hb dX6_swapsTo_13 rfl (lv_at hl 0 rfl) ?_
      refine va_get (D := (dC, dI)) (ci := 5) (v := .ref a_p0_swaps) (C := RX6) (T := TX6) (N := 3) hx hb hts li_X6_swapsTo_X6 hown hK hP 0 rfl rfl 1 (by decide) (hts _ lk_X6_swapsTo_15) (fun _ h9 => h9) rfl dX6_swapsTo_14 ?_
      refine lv_iload_n hx hb dX6_swapsTo_17 rfl (lv_at hl 1 rfl) ?_
      obtain ⟨g4, h⟩ := pw_gd_e h
      refine va_iald hx hb hK hP 1 0 rfl rfl g4 dX6_swapsTo_18 ?_
      refine lv_goto (tgt := 23) hx hb dX6_swapsTo_19 (by decide) ?_
      rw [hQ]
      exact W.iret (v := (p0_swaps_v (Int32.toNatClampNeg x1))) hx hb hr (fun t ht hW => ⟨⟨(p0_swaps_v (Int32.toNatClampNeg x1)), (), rfl, hc.trans h.symm, by rw [ht]; exact hP, va_K.moved hW.alike hK, hD⟩, hS.F ht⟩) hS.2.2 dX6_swapsTo_23
/-! X6_enqueue -/
theorem li_X6_enqueue_X6 : ∀ w ∈ u_ws RX6 TX6 3, w ∈ wsX6_enqueue := fun w h => List.mem_cons_of_mem _ (List.mem_append_right _ h)
theorem lk_X6_enqueue_15 : Cond.fieldLink RX6 15 "NoWifeBeside$Search" "swaps" "[I" ∈ wsX6_enqueue := by decide +kernel
theorem lk_X6_enqueue_18 : Cond.fieldLink RX6 18 "NoWifeBeside$Search" "queued" "I" ∈ wsX6_enqueue := by decide +kernel
theorem lk_X6_enqueue_9 : Cond.fieldLink RX6 9 "NoWifeBeside$Search" "queue" "[I" ∈ wsX6_enqueue := by decide +kernel
abbrev rm_X6_enqueue : Room := { frames := 0, cells := 0, slots := 0, locals := 0 }
set_option maxRecDepth 100000 in
set_option maxHeartbeats 4000000 in
theorem c_X6_enqueue (l : Launch) (dC : Nat → ClassId) (dI : Nat → Nat → Nat) (cI cZ : ClassId) (sz : Nat) (a_p0 : Nat) (a_p0_queue : Nat) (a_p0_swaps : Nat) (p0_queued : Int32) (p0_queue_v : Nat → Int32) (p0_queue_n : Nat) (p0_swaps_v : Nat → Int32) (p0_swaps_n : Nat) (x1 : Int32) (x2 : Int32) (xx : Int32 × (Nat → Int32) × (Nat → Int32)) (hc : f_X6_enqueue x1 x2 p0_queued p0_queue_v p0_queue_n p0_swaps_v p0_swaps_n = some xx) : Met l yX6_enqueue wsX6_enqueue rm_X6_enqueue (va_Pc [.ref a_p0, .int x1, .int x2] (pw_pre (dC, dI) cI cZ [(a_p0, .inr (5, [.ref a_p0_queue, .ref a_p0_swaps, .int p0_queued])), (a_p0_queue, .inl (cI, p0_queue_n, .inl p0_queue_v)), (a_p0_swaps, .inl (cI, p0_swaps_n, .inl p0_swaps_v))] sz)) (va_Qv (fun (u : Int32 × (Nat → Int32) × (Nat → Int32)) => f_X6_enqueue x1 x2 p0_queued p0_queue_v p0_queue_n p0_swaps_v p0_swaps_n = some (u.1, u.2.1, u.2.2)) (fun u t => pw_post (dC, dI) cI cZ (va_A [(a_p0, .inr (5, [.ref a_p0_queue, .ref a_p0_swaps, .int p0_queued])), (a_p0_queue, .inl (cI, p0_queue_n, .inl p0_queue_v)), (a_p0_swaps, .inl (cI, p0_swaps_n, .inl p0_swaps_v))] sz) [(a_p0, .inr (5, [.ref a_p0_queue, .ref a_p0_swaps, .int u.1])), (a_p0_queue, .inl (cI, p0_queue_n, .inl u.2.1)), (a_p0_swaps, .inl (cI, p0_swaps_n, .inl u.2.2))] t) (va_A [(a_p0, .inr (5, [.ref a_p0_queue, .ref a_p0_swaps, .int p0_queued])), (a_p0_queue, .inl (cI, p0_queue_n, .inl p0_queue_v)), (a_p0_swaps, .inl (cI, p0_swaps_n, .inl p0_swaps_v))] sz)) 0 0 (va_A [(a_p0, .inr (5, [.ref a_p0_queue, .ref a_p0_swaps, .int p0_queued])), (a_p0_queue, .inl (cI, p0_queue_n, .inl p0_queue_v)), (a_p0_swaps, .inl (cI, p0_swaps_n, .inl p0_swaps_v))] sz) := by
  refine Met.ofW (cc := cX6_enqueue) (maxL := 3) (ret := none) (by decide) rfl ?_
  intro p e s m args below meth c s₁ B hml hv
  obtain ⟨rfl, hsz, hP, hK, hD0⟩ := hv
  have hx := B.exec
  have hb := B.bytes
  have hr := B.returns
  have hts := atoms_spec (ws := wsX6_enqueue) B.pre
  have hown : s.vm.findClass RX6 = some m.cls := findClass_of_methodNamed B.named
  have hlocks := B.notSynchronized
  subst hsz
  have hD := hD0.self (sz := s.heap.size)
  generalize hAe : va_A [(a_p0, .inr (5, [.ref a_p0_queue, .ref a_p0_swaps, .int p0_queued])), (a_p0_queue, .inl (cI, p0_queue_n, .inl p0_queue_v)), (a_p0_swaps, .inl (cI, p0_swaps_n, .inl p0_swaps_v))] s.heap.size = A at hD ⊢
  have hA : ∀ q : Nat, s.heap.size ≤ q → A q := fun q h => by rw [← hAe]; exact Or.inr h
  have hS : va_S A s.heap s.heap [] := va_S.rf
  have hP : va_P (dC, dI) vwCl [(a_p0, .inr (5, [.ref a_p0_queue, .ref a_p0_swaps, .int p0_queued])), (a_p0_queue, .inl (cI, p0_queue_n, .inl p0_queue_v)), (a_p0_swaps, .inl (cI, p0_swaps_n, .inl p0_swaps_v))] s.heap := hP
  have hl := lv_entry ([.ref a_p0, .int x1, .int x2]) (n := 3) (Nat.le_of_ble_eq_true rfl)
  rw [lg_entry_eq]
  generalize (lg_sl ([.ref a_p0, .int x1, .int x2]) ++ List.replicate (3 - (lg_sl ([.ref a_p0, .int x1, .int x2])).length) Slot.unset).toArray = ls at hl ⊢
  have hl : lv_has ls 3 [(0, .ref a_p0), (1, .int x1), (2, .int x2)] := hl
  refine pw_Wq (R := rm_X6_enqueue) (fun Q hQ => ?_)
  obtain ⟨locs, elocs⟩ : ∃ y : List Loc, y = [] := ⟨_, rfl⟩
  rw [← elocs] at hS ⊢
  have h := hc
  unfold f_X6_enqueue at h
  refine lv_iload_n hx hb dX6_enqueue_0 rfl (lv_at hl 1 rfl) ?_
  refine lv_if_lt (tgt := 22) hx hb dX6_enqueue_1 (by decide) (fun c1 => ?_) (fun c1 => ?_)
  · have h := pw_cd_p c1 h
    rw [hQ]
    exact W.vret hx hb hr (fun t ht hW => ⟨⟨(p0_queued, p0_queue_v, p0_swaps_v), rfl, hc.trans h.symm, by rw [ht]; exact hP, va_K.moved hW.alike hK, hD⟩, hS.F ht⟩) hS.2.2 dX6_enqueue_22
  · have h := pw_cd_n c1 h
    refine lv_iload_n hx hb dX6_enqueue_4 rfl (lv_at hl 1 rfl) ?_
    refine lv_aload_n hx hb dX6_enqueue_5 rfl (lv_at hl 0 rfl) ?_
    refine va_get (D := (dC, dI)) (ci := 5) (v := .ref a_p0_swaps) (C := RX6) (T := TX6) (N := 3) hx hb hts li_X6_enqueue_X6 hown hK hP 0 rfl rfl 1 (by decide) (hts _ lk_X6_enqueue_15) (fun _ h9 => h9) rfl dX6_enqueue_6 ?_
    refine va_alen hx hb hK hP 2 0 rfl rfl (v := (nI p0_swaps_n)) rfl dX6_enqueue_9 ?_
    refine lv_topi (fun v2 ev2 => ?_)
    have h := pw_lt_e ev2 h
    refine lv_icmp_ge (tgt := 22) hx hb dX6_enqueue_10 (by decide) (fun c3 => ?_) (fun c3 => ?_)
    · have h := pw_cd_p c3 h
      rw [hQ]
      exact W.vret hx hb hr (fun t ht hW => ⟨⟨(p0_queued, p0_queue_v, p0_swaps_v), rfl, hc.trans h.symm, by rw [ht]; exact hP, va_K.moved hW.alike hK, hD⟩, hS.F ht⟩) hS.2.2 dX6_enqueue_22
    · have h := pw_cd_n c3 h
      refine lv_aload_n hx hb dX6_enqueue_13 rfl (lv_at hl 0 rfl) ?_
      refine va_get (D := (dC, dI)) (ci := 5) (v := .ref a_p0_swaps) (C := RX6) (T := TX6) (N := 3) hx hb hts li_X6_enqueue_X6 hown hK hP 0 rfl rfl 1 (by decide) (hts _ lk_X6_enqueue_15) (fun _ h9 => h9) rfl dX6_enqueue_14 ?_
      refine lv_iload_n hx hb dX6_enqueue_17 rfl (lv_at hl 1 rfl) ?_
      obtain ⟨g4, h⟩ := pw_gd_e h
      refine va_iald hx hb hK hP 2 0 rfl rfl g4 dX6_enqueue_18 ?_
      refine lv_if_eq (tgt := 23) hx hb dX6_enqueue_19 (by decide) (fun c5 => ?_) (fun c5 => ?_)
      · have h := pw_cd_p c5 h
        refine lv_aload_n hx hb dX6_enqueue_23 rfl (lv_at hl 0 rfl) ?_
        refine va_get (D := (dC, dI)) (ci := 5) (v := .int p0_queued) (C := RX6) (T := TX6) (N := 3) hx hb hts li_X6_enqueue_X6 hown hK hP 0 rfl rfl 2 (by decide) (hts _ lk_X6_enqueue_18) (fun _ h9 => h9) rfl dX6_enqueue_24 ?_
        refine lv_if_lt (tgt := 69) hx hb dX6_enqueue_27 (by decide) (fun c6 => ?_) (fun c6 => ?_)
        · have h := pw_cd_p c6 h
          rw [hQ]
          exact W.vret hx hb hr (fun t ht hW => ⟨⟨(p0_queued, p0_queue_v, p0_swaps_v), rfl, hc.trans h.symm, by rw [ht]; exact hP, va_K.moved hW.alike hK, hD⟩, hS.F ht⟩) hS.2.2 dX6_enqueue_69
        · have h := pw_cd_n c6 h
          refine lv_aload_n hx hb dX6_enqueue_30 rfl (lv_at hl 0 rfl) ?_
          refine va_get (D := (dC, dI)) (ci := 5) (v := .int p0_queued) (C := RX6) (T := TX6) (N := 3) hx hb hts li_X6_enqueue_X6 hown hK hP 0 rfl rfl 2 (by decide) (hts _ lk_X6_enqueue_18) (fun _ h9 => h9) rfl dX6_enqueue_31 ?_
          refine lv_aload_n hx hb dX6_enqueue_34 rfl (lv_at hl 0 rfl) ?_
          refine va_get (D := (dC, dI)) (ci := 5) (v := .ref a_p0_queue) (C := RX6) (T := TX6) (N := 3) hx hb hts li_X6_enqueue_X6 hown hK hP 0 rfl rfl 0 (by decide) (hts _ lk_X6_enqueue_9) (fun _ h9 => h9) rfl dX6_enqueue_35 ?_
          refine va_alen hx hb hK hP 1 0 rfl rfl (v := (nI p0_queue_n)) rfl dX6_enqueue_38 ?_
          refine lv_topi (fun v7 ev7 => ?_)
          have h := pw_lt_e ev7 h
          refine lv_icmp_ge (tgt := 69) hx hb dX6_enqueue_39 (by decide) (fun c8 => ?_) (fun c8 => ?_)
          · have h := pw_cd_p c8 h
            rw [hQ]
            exact W.vret hx hb hr (fun t ht hW => ⟨⟨(p0_queued, p0_queue_v, p0_swaps_v), rfl, hc.trans h.symm, by rw [ht]; exact hP, va_K.moved hW.alike hK, hD⟩, hS.F ht⟩) hS.2.2 dX6_enqueue_69
          · have h := pw_cd_n c8 h
            refine lv_aload_n hx hb dX6_enqueue_42 rfl (lv_at hl 0 rfl) ?_
            refine va_get (D := (dC, dI)) (ci := 5) (v := .ref a_p0_swaps) (C := RX6) (T := TX6) (N := 3) hx hb hts li_X6_enqueue_X6 hown hK hP 0 rfl rfl 1 (by decide) (hts _ lk_X6_enqueue_15) (fun _ h9 => h9) rfl dX6_enqueue_43 ?_
            refine lv_iload_n hx hb dX6_enqueue_46 rfl (lv_at hl 1 rfl) ?_
            refine lv_iload_n hx hb dX6_enqueue_47 rfl (lv_at hl 2 rfl) ?_
            obtain ⟨g9, h⟩ := pw_gd_e h
            refine va_iast hx hb hK hP hD hS 2 0 rfl rfl g9 dX6_enqueue_48 (fun H locs hP hD hS => ?_)
            obtain ⟨f10, ef10⟩ : ∃ y : Nat → Int32, y = (upd p0_swaps_v (Int32.toNatClampNeg x1) x2) := ⟨_, rfl⟩
            have h := pw_lt_e ef10 h
            rw [← ef10] at hP hD
            have hP : va_P (dC, dI) vwCl [(a_p0, .inr (5, [.ref a_p0_queue, .ref a_p0_swaps, .int p0_queued])), (a_p0_queue, .inl (cI, p0_queue_n, .inl p0_queue_v)), (a_p0_swaps, .inl (cI, p0_swaps_n, .inl f10))] H := hP
            have hD : va_D A [(a_p0, .inr (5, [.ref a_p0_queue, .ref a_p0_swaps, .int p0_queued])), (a_p0_queue, .inl (cI, p0_queue_n, .inl p0_queue_v)), (a_p0_swaps, .inl (cI, p0_swaps_n, .inl f10))] := hD
            refine lv_aload_n hx hb dX6_enqueue_49 rfl (lv_at hl 0 rfl) ?_
            refine va_get (D := (dC, dI)) (ci := 5) (v := .ref a_p0_queue) (C := RX6) (T := TX6) (N := 3) hx hb hts li_X6_enqueue_X6 hown hK hP 0 rfl rfl 0 (by decide) (hts _ lk_X6_enqueue_9) (fun _ h9 => h9) rfl dX6_enqueue_50 ?_
            refine lv_aload_n hx hb dX6_enqueue_53 rfl (lv_at hl 0 rfl) ?_
            refine va_get (D := (dC, dI)) (ci := 5) (v := .int p0_queued) (C := RX6) (T := TX6) (N := 3) hx hb hts li_X6_enqueue_X6 hown hK hP 0 rfl rfl 2 (by decide) (hts _ lk_X6_enqueue_18) (fun _ h9 => h9) rfl dX6_enqueue_54 ?_
            refine lv_iload_n hx hb dX6_enqueue_57 rfl (lv_at hl 1 rfl) ?_
            obtain ⟨g11, h⟩ := pw_gd_e h
            refine va_iast hx hb hK hP hD hS 1 0 rfl rfl g11 dX6_enqueue_58 (fun H locs hP hD hS => ?_)
            obtain ⟨f12, ef12⟩ : ∃ y : Nat → Int32, y = (upd p0_queue_v (Int32.toNatClampNeg p0_queued) x1) := ⟨_, rfl⟩
            have h := pw_lt_e ef12 h
            rw [← ef12] at hP hD
            have hP : va_P (dC, dI) vwCl [(a_p0, .inr (5, [.ref a_p0_queue, .ref a_p0_swaps, .int p0_queued])), (a_p0_queue, .inl (cI, p0_queue_n, .inl f12)), (a_p0_swaps, .inl (cI, p0_swaps_n, .inl f10))] H := hP
            have hD : va_D A [(a_p0, .inr (5, [.ref a_p0_queue, .ref a_p0_swaps, .int p0_queued])), (a_p0_queue, .inl (cI, p0_queue_n, .inl f12)), (a_p0_swaps, .inl (cI, p0_swaps_n, .inl f10))] := hD
            refine lv_aload_n hx hb dX6_enqueue_59 rfl (lv_at hl 0 rfl) ?_
            refine lv_dup hx hb dX6_enqueue_60 rfl ?_
            refine va_get (D := (dC, dI)) (ci := 5) (v := .int p0_queued) (C := RX6) (T := TX6) (N := 3) hx hb hts li_X6_enqueue_X6 hown hK hP 0 rfl rfl 2 (by decide) (hts _ lk_X6_enqueue_18) (fun _ h9 => h9) rfl dX6_enqueue_61 ?_
            refine lv_iconst (v := 1) hx hb dX6_enqueue_64 (by decide) ?_
            refine lv_iadd hx hb dX6_enqueue_65 ?_
            refine lv_topi (fun v13 ev13 => ?_)
            have h := pw_lt_e ev13 h
            refine va_put (D := (dC, dI)) (ci := 5) (v := .int v13) (ty := .int) (C := RX6) (T := TX6) (N := 3) hx hb hts li_X6_enqueue_X6 tyX6 tyX6_ok nmX6 hown hK hP hD hS 0 rfl rfl 2 (by decide) (hts _ lk_X6_enqueue_18) (fun _ h9 => h9) rfl (by decide +kernel) rfl rfl (Nat.le_of_ble_eq_true rfl) dX6_enqueue_66 (fun H locs hP hD hS => ?_)
            have hP : va_P (dC, dI) vwCl [(a_p0, .inr (5, [.ref a_p0_queue, .ref a_p0_swaps, .int v13])), (a_p0_queue, .inl (cI, p0_queue_n, .inl f12)), (a_p0_swaps, .inl (cI, p0_swaps_n, .inl f10))] H := hP
            have hD : va_D A [(a_p0, .inr (5, [.ref a_p0_queue, .ref a_p0_swaps, .int v13])), (a_p0_queue, .inl (cI, p0_queue_n, .inl f12)), (a_p0_swaps, .inl (cI, p0_swaps_n, .inl f10))] := hD
            rw [hQ]
            exact W.vret hx hb hr (fun t ht hW => ⟨⟨(v13, f12, f10), rfl, hc.trans h.symm, by rw [ht]; exact hP, va_K.moved hW.alike hK, hD⟩, hS.F ht⟩) hS.2.2 dX6_enqueue_69
      · have h := pw_cd_n c5 h
        rw [hQ]
        exact W.vret hx hb hr (fun t ht hW => ⟨⟨(p0_queued, p0_queue_v, p0_swaps_v), rfl, hc.trans h.symm, by rw [ht]; exact hP, va_K.moved hW.alike hK, hD⟩, hS.F ht⟩) hS.2.2 dX6_enqueue_22
/-! X6_reaches -/
abbrev rm_X6_reaches : Room := { frames := 2, cells := 0, slots := 0, locals := 47 }
set_option maxRecDepth 100000 in
set_option maxHeartbeats 4000000 in
theorem lw_X6_reaches_19 {p : Program} {l : Launch} {e : Env} {s : State} {m : MethodId} {args : Array Value} {below : List Frame} {meth : Method} {c : Code} {Q : State → Prop} {dC : Nat → ClassId} {dI : Nat → Nat → Nat} {cI cZ : ClassId} {A : Nat → Prop} (hx : p.tables.exec = Jvm.exec) (hb : c.code = cX6_reaches) (hml : c.maxLocals = 9) (hown : s.vm.findClass RX6 = some m.cls) (hts : ∀ w ∈ wsX6_reaches, w.before args s = true) (hA : ∀ q : Nat, s.heap.size ≤ q → A q) (hK : va_K (dC, dI) vwCl [(cI, .int), (cZ, .boolean)] s) (a_p0 : Nat) (a_p0_queue : Nat) (a_p0_swaps : Nat) (a_p1 : Nat) (a_p1_seatings : Nat) (l2 : Int32) (l3 : Int32) (l4 : Int32) (l5 : Int32) (l6 : Int32) (p0_queue_n : Nat) (p0_swaps_n : Nat) (p1_listed : Int32) (p1_size : Int32) (p1_seatings_v : Nat → Int32) (p1_seatings_n : Nat) :
    ∀ (n : Nat) (l7 : Int32) (p0_queued : Int32) (p0_queue_v : Nat → Int32) (p0_swaps_v : Nat → Int32) (xx : (Int32 × (Nat → Int32) × (Nat → Int32)) ⊕ (Int32 × (Nat → Int32) × (Nat → Int32))), lf_X6_reaches_19 l3 l4 l5 l6 p0_queue_n p0_swaps_n p1_size p1_seatings_v p1_seatings_n n l7 p0_queued p0_queue_v p0_swaps_v = some xx → ((∀ (e_p0_queued : Int32) (e_p0_queue_v : Nat → Int32) (e_p0_swaps_v : Nat → Int32), Sum.inl (e_p0_queued, e_p0_queue_v, e_p0_swaps_v) = xx → ∀ (H : Heap) (locs : List Loc) (ls : Array Slot), va_P (dC, dI) vwCl [(a_p0, .inr (5, [.ref a_p0_queue, .ref a_p0_swaps, .int e_p0_queued])), (a_p0_queue, .inl (cI, p0_queue_n, .inl e_p0_queue_v)), (a_p0_swaps, .inl (cI, p0_swaps_n, .inl e_p0_swaps_v)), (a_p1, .inr (2, [.ref a_p1_seatings, .int p1_listed, .int p1_size])), (a_p1_seatings, .inl (cI, p1_seatings_n, .inl p1_seatings_v))] H → va_D A [(a_p0, .inr (5, [.ref a_p0_queue, .ref a_p0_swaps, .int e_p0_queued])), (a_p0_queue, .inl (cI, p0_queue_n, .inl e_p0_queue_v)), (a_p0_swaps, .inl (cI, p0_swaps_n, .inl e_p0_swaps_v)), (a_p1, .inr (2, [.ref a_p1_seatings, .int p1_listed, .int p1_size])), (a_p1_seatings, .inl (cI, p1_seatings_n, .inl p1_seatings_v))] → va_S A s.heap H locs → lv_has ls 9 [] → W p l e rm_X6_reaches s m args below meth c H locs 0 0 Q (F0 m 43 ls [])) ∧ (∀ (e_p0_queued : Int32) (e_p0_queue_v : Nat → Int32) (e_p0_swaps_v : Nat → Int32), Sum.inr (e_p0_queued, e_p0_queue_v, e_p0_swaps_v) = xx → ∀ (H : Heap) (locs : List Loc) (ls : Array Slot), va_P (dC, dI) vwCl [(a_p0, .inr (5, [.ref a_p0_queue, .ref a_p0_swaps, .int e_p0_queued])), (a_p0_queue, .inl (cI, p0_queue_n, .inl e_p0_queue_v)), (a_p0_swaps, .inl (cI, p0_swaps_n, .inl e_p0_swaps_v)), (a_p1, .inr (2, [.ref a_p1_seatings, .int p1_listed, .int p1_size])), (a_p1_seatings, .inl (cI, p1_seatings_n, .inl p1_seatings_v))] H → va_D A [(a_p0, .inr (5, [.ref a_p0_queue, .ref a_p0_swaps, .int e_p0_queued])), (a_p0_queue, .inl (cI, p0_queue_n, .inl e_p0_queue_v)), (a_p0_swaps, .inl (cI, p0_swaps_n, .inl e_p0_swaps_v)), (a_p1, .inr (2, [.ref a_p1_seatings, .int p1_listed, .int p1_size])), (a_p1_seatings, .inl (cI, p1_seatings_n, .inl p1_seatings_v))] → va_S A s.heap H locs → lv_has ls 9 [(0, .ref a_p0), (1, .ref a_p1), (2, .int l2), (3, .int l3), (4, .int l4), (5, .int l5), (6, .int l6)] → W p l e rm_X6_reaches s m args below meth c H locs 0 0 Q (F0 m 63 ls []))) → ∀ (H : Heap) (locs : List Loc) (ls : Array Slot), va_P (dC, dI) vwCl [(a_p0, .inr (5, [.ref a_p0_queue, .ref a_p0_swaps, .int p0_queued])), (a_p0_queue, .inl (cI, p0_queue_n, .inl p0_queue_v)), (a_p0_swaps, .inl (cI, p0_swaps_n, .inl p0_swaps_v)), (a_p1, .inr (2, [.ref a_p1_seatings, .int p1_listed, .int p1_size])), (a_p1_seatings, .inl (cI, p1_seatings_n, .inl p1_seatings_v))] H → va_D A [(a_p0, .inr (5, [.ref a_p0_queue, .ref a_p0_swaps, .int p0_queued])), (a_p0_queue, .inl (cI, p0_queue_n, .inl p0_queue_v)), (a_p0_swaps, .inl (cI, p0_swaps_n, .inl p0_swaps_v)), (a_p1, .inr (2, [.ref a_p1_seatings, .int p1_listed, .int p1_size])), (a_p1_seatings, .inl (cI, p1_seatings_n, .inl p1_seatings_v))] → va_S A s.heap H locs → lv_has ls 9 [(0, .ref a_p0), (1, .ref a_p1), (2, .int l2), (3, .int l3), (4, .int l4), (5, .int l5), (6, .int l6), (7, .int l7)] → W p l e rm_X6_reaches s m args below meth c H locs 0 0 Q (F0 m 19 ls []) := by
  intro n
  induction n with
  | zero =>
    intro l7 p0_queued p0_queue_v p0_swaps_v xx h
    rw [lf_X6_reaches_19] at h
    cases h
  | succ n ih =>
    intro l7 p0_queued p0_queue_v p0_swaps_v xx h KK H locs ls hP hD hS hl
    rw [lf_X6_reaches_19] at h
    refine lv_iload hx hb dX6_reaches_19 (lv_at hl 7 rfl) ?_
    refine lv_iload hx hb dX6_reaches_21 (lv_at hl 6 rfl) ?_
    refine lv_icmp_ge (tgt := 63) hx hb dX6_reaches_23 (by decide) (fun c3 => ?_) (fun c3 => ?_)
    · have h := pw_cd_p c3 h
      have hl := lv_sub (l' := [(0, .ref a_p0), (1, .ref a_p1), (2, .int l2), (3, .int l3), (4, .int l4), (5, .int l5), (6, .int l6)]) hl [0, 1, 2, 3, 4, 5, 6] rfl
      exact KK.2 p0_queued p0_queue_v p0_swaps_v (Option.some.inj h) _ locs ls hP hD hS hl
    · have h := pw_cd_n c3 h
      refine lv_iload_n hx hb dX6_reaches_26 rfl (lv_at hl 3 rfl) ?_
      refine lv_iload hx hb dX6_reaches_27 (lv_at hl 6 rfl) ?_
      refine lv_iload hx hb dX6_reaches_29 (lv_at hl 7 rfl) ?_
      refine pw_ci (wr := [(a_p0, .inr (5, [.ref a_p0_queue, .ref a_p0_swaps, .int p0_queued])), (a_p0_queue, .inl (cI, p0_queue_n, .inl p0_queue_v)), (a_p0_swaps, .inl (cI, p0_swaps_n, .inl p0_swaps_v)), (a_p1, .inr (2, [.ref a_p1_seatings, .int p1_listed, .int p1_size])), (a_p1_seatings, .inl (cI, p1_seatings_n, .inl p1_seatings_v))]) (va_runS (As := [.int l3, .int l6, .int l7]) (rest := []) ⟨hx, hb, hml, hown, hts⟩ (c_X7_exchanged l dC dI cI cZ H.size l3 l6 l7) (va_cwS 3 hts gX6_reaches_X7_exchanged rfl rfl rfl (by decide +kernel) ⟨(Nat.le_of_ble_eq_true rfl), (Nat.le_of_ble_eq_true rfl)⟩) (pw_preS hK hP hD [] rfl rfl (by decide)) rfl rfl hl.1 rfl (lv_room (Nat.le_of_ble_eq_true rfl)) dX6_reaches_31 ⟨(Nat.le_of_ble_eq_true rfl), (Nat.le_of_ble_eq_true rfl)⟩) hP hD hS hA [] [0, 1, 2, 3, 4] rfl rfl (by decide) (by decide) (fun r4 u H locs hw hP hD hS => ?_)
      have h := pw_lt_e hw h
      have hP : va_P (dC, dI) vwCl [(a_p0, .inr (5, [.ref a_p0_queue, .ref a_p0_swaps, .int p0_queued])), (a_p0_queue, .inl (cI, p0_queue_n, .inl p0_queue_v)), (a_p0_swaps, .inl (cI, p0_swaps_n, .inl p0_swaps_v)), (a_p1, .inr (2, [.ref a_p1_seatings, .int p1_listed, .int p1_size])), (a_p1_seatings, .inl (cI, p1_seatings_n, .inl p1_seatings_v))] H := hP
      have hD : va_D A [(a_p0, .inr (5, [.ref a_p0_queue, .ref a_p0_swaps, .int p0_queued])), (a_p0_queue, .inl (cI, p0_queue_n, .inl p0_queue_v)), (a_p0_swaps, .inl (cI, p0_swaps_n, .inl p0_swaps_v)), (a_p1, .inr (2, [.ref a_p1_seatings, .int p1_listed, .int p1_size])), (a_p1_seatings, .inl (cI, p1_seatings_n, .inl p1_seatings_v))] := hD
      refine lv_istore (lv' := [(8, .int r4), (0, .ref a_p0), (1, .ref a_p1), (2, .int l2), (3, .int l3), (4, .int l4), (5, .int l5), (6, .int l6), (7, .int l7)]) hx hb dX6_reaches_34 hl (by decide) rfl (fun ls hl => ?_)
      refine lv_iload hx hb dX6_reaches_36 (lv_at hl 0 rfl) ?_
      refine lv_iload hx hb dX6_reaches_38 (lv_at hl 5 rfl) ?_
      refine lv_icmp_ne (tgt := 45) hx hb dX6_reaches_40 (by decide) (fun c7 => ?_) (fun c7 => ?_)
      · have h := pw_cd_p c7 h
        refine lv_aload_n hx hb dX6_reaches_45 rfl (lv_at hl 1 rfl) ?_
        refine lv_aload_n hx hb dX6_reaches_46 rfl (lv_at hl 2 rfl) ?_
        refine lv_iload hx hb dX6_reaches_47 (lv_at hl 0 rfl) ?_
        obtain ⟨xx10, hc9, h⟩ := pw_bd_e h
        refine pw_ci (wr := [(a_p0, .inr (5, [.ref a_p0_queue, .ref a_p0_swaps, .int p0_queued])), (a_p0_queue, .inl (cI, p0_queue_n, .inl p0_queue_v)), (a_p0_swaps, .inl (cI, p0_swaps_n, .inl p0_swaps_v))]) (va_runV (As := [.int r4]) (rest := [.ref a_p0]) ⟨hx, hb, hml, hown, hts⟩ (c_X2_rankOf l dC dI cI cZ H.size a_p1 a_p1_seatings p1_listed p1_size p1_seatings_v p1_seatings_n r4 xx10 hc9) (cwV 1 hts gX6_reaches_X2_rankOf rfl rfl rfl (by decide +kernel) ⟨(Nat.le_of_ble_eq_true rfl), (Nat.le_of_ble_eq_true rfl)⟩) (pw_preV hK hP hD [3, 4] rfl rfl (by decide) 2 rfl rfl) rfl rfl hl.1 rfl (lv_room (Nat.le_of_ble_eq_true rfl)) dX6_reaches_49 ⟨(Nat.le_of_ble_eq_true rfl), (Nat.le_of_ble_eq_true rfl)⟩) hP hD hS hA [3, 4] [0, 1, 2] rfl rfl (by decide) (by decide) (fun r8 u H locs hw hP hD hS => ?_)
        have ex : r8 = xx10 := Option.some.inj (hw.symm.trans hc9)
        subst ex
        have h := pw_u1_e h
        have hP : va_P (dC, dI) vwCl [(a_p0, .inr (5, [.ref a_p0_queue, .ref a_p0_swaps, .int p0_queued])), (a_p0_queue, .inl (cI, p0_queue_n, .inl p0_queue_v)), (a_p0_swaps, .inl (cI, p0_swaps_n, .inl p0_swaps_v)), (a_p1, .inr (2, [.ref a_p1_seatings, .int p1_listed, .int p1_size])), (a_p1_seatings, .inl (cI, p1_seatings_n, .inl p1_seatings_v))] H := hP
        have hD : va_D A [(a_p0, .inr (5, [.ref a_p0_queue, .ref a_p0_swaps, .int p0_queued])), (a_p0_queue, .inl (cI, p0_queue_n, .inl p0_queue_v)), (a_p0_swaps, .inl (cI, p0_swaps_n, .inl p0_swaps_v)), (a_p1, .inr (2, [.ref a_p1_seatings, .int p1_listed, .int p1_size])), (a_p1_seatings, .inl (cI, p1_seatings_n, .inl p1_seatings_v))] := hD
        refine lv_iload hx hb dX6_reaches_52 (lv_at hl 6 rfl) ?_
        obtain ⟨xx13, hc12, h⟩ := pw_bd_e h
        refine pw_cv (wr := [(a_p1, .inr (2, [.ref a_p1_seatings, .int p1_listed, .int p1_size])), (a_p1_seatings, .inl (cI, p1_seatings_n, .inl p1_seatings_v))]) (va_runV (As := [.int r8, .int l5]) (rest := []) ⟨hx, hb, hml, hown, hts⟩ (c_X6_enqueue l dC dI cI cZ H.size a_p0 a_p0_queue a_p0_swaps p0_queued p0_queue_v p0_queue_n p0_swaps_v p0_swaps_n r8 l5 xx13 hc12) (cwV 2 hts gX6_reaches_X6_enqueue rfl rfl rfl (by decide +kernel) ⟨(Nat.le_of_ble_eq_true rfl), (Nat.le_of_ble_eq_true rfl)⟩) (pw_preV hK hP hD [0, 1, 2] rfl rfl (by decide) 5 rfl rfl) rfl rfl hl.1 rfl (lv_room (Nat.le_of_ble_eq_true rfl)) dX6_reaches_54 ⟨(Nat.le_of_ble_eq_true rfl), (Nat.le_of_ble_eq_true rfl)⟩) hP hD hS hA [0, 1, 2] [3, 4] rfl rfl (by decide) (by decide) (fun u H locs hw hP hD hS => ?_)
        obtain ⟨o14, o15, o16⟩ := u
        have ex : (o14, o15, o16) = xx13 := Option.some.inj (hw.symm.trans hc12)
        subst ex
        have h := pw_u3_e h
        have hP : va_P (dC, dI) vwCl [(a_p1, .inr (2, [.ref a_p1_seatings, .int p1_listed, .int p1_size])), (a_p1_seatings, .inl (cI, p1_seatings_n, .inl p1_seatings_v)), (a_p0, .inr (5, [.ref a_p0_queue, .ref a_p0_swaps, .int o14])), (a_p0_queue, .inl (cI, p0_queue_n, .inl o15)), (a_p0_swaps, .inl (cI, p0_swaps_n, .inl o16))] H := hP
        have hD : va_D A [(a_p1, .inr (2, [.ref a_p1_seatings, .int p1_listed, .int p1_size])), (a_p1_seatings, .inl (cI, p1_seatings_n, .inl p1_seatings_v)), (a_p0, .inr (5, [.ref a_p0_queue, .ref a_p0_swaps, .int o14])), (a_p0_queue, .inl (cI, p0_queue_n, .inl o15)), (a_p0_swaps, .inl (cI, p0_swaps_n, .inl o16))] := hD
        refine lv_iinc (v := (l7 + 1)) (lv' := [(7, .int (l7 + 1)), (8, .int r4), (0, .ref a_p0), (1, .ref a_p1), (2, .int l2), (3, .int l3), (4, .int l4), (5, .int l5), (6, .int l6)]) hx hb dX6_reaches_57 hl (k := 8) rfl rfl (by decide) rfl (fun ls hl => ?_)
        refine lv_goto (tgt := 19) hx hb dX6_reaches_60 (by decide) ?_
        have hP := hP.sub (ws' := [(a_p0, .inr (5, [.ref a_p0_queue, .ref a_p0_swaps, .int o14])), (a_p0_queue, .inl (cI, p0_queue_n, .inl o15)), (a_p0_swaps, .inl (cI, p0_swaps_n, .inl o16)), (a_p1, .inr (2, [.ref a_p1_seatings, .int p1_listed, .int p1_size])), (a_p1_seatings, .inl (cI, p1_seatings_n, .inl p1_seatings_v))]) [2, 3, 4, 0, 1] rfl
        have hD := hD.sub (ws' := [(a_p0, .inr (5, [.ref a_p0_queue, .ref a_p0_swaps, .int o14])), (a_p0_queue, .inl (cI, p0_queue_n, .inl o15)), (a_p0_swaps, .inl (cI, p0_swaps_n, .inl o16)), (a_p1, .inr (2, [.ref a_p1_seatings, .int p1_listed, .int p1_size])), (a_p1_seatings, .inl (cI, p1_seatings_n, .inl p1_seatings_v))]) [2, 3, 4, 0, 1] (by decide) rfl
        have hl := lv_sub (l' := [(0, .ref a_p0), (1, .ref a_p1), (2, .int l2), (3, .int l3), (4, .int l4), (5, .int l5), (6, .int l6), (7, .int (l7 + 1))]) hl [2, 3, 4, 5, 6, 7, 8, 0] rfl
        exact ih (l7 + 1) o14 o15 o16 xx h KK _ locs ls hP hD hS hl
      · have h := pw_cd_n (fun q => q c7) h
        have hl := lv_sub (l' := []) hl [] rfl
        exact KK.1 p0_queued p0_queue_v p0_swaps_v (Option.some.inj h) _ locs ls hP hD hS hl
set_option maxRecDepth 100000 in
set_option maxHeartbeats 4000000 in
theorem lw_X6_reaches_3 {p : Program} {l : Launch} {e : Env} {s : State} {m : MethodId} {args : Array Value} {below : List Frame} {meth : Method} {c : Code} {Q : State → Prop} {dC : Nat → ClassId} {dI : Nat → Nat → Nat} {cI cZ : ClassId} {A : Nat → Prop} (hx : p.tables.exec = Jvm.exec) (hb : c.code = cX6_reaches) (hml : c.maxLocals = 9) (hown : s.vm.findClass RX6 = some m.cls) (hts : ∀ w ∈ wsX6_reaches, w.before args s = true) (hA : ∀ q : Nat, s.heap.size ≤ q → A q) (hK : va_K (dC, dI) vwCl [(cI, .int), (cZ, .boolean)] s) (a_p0 : Nat) (a_p0_queue : Nat) (a_p0_swaps : Nat) (a_p1 : Nat) (a_p1_seatings : Nat) (l2 : Int32) (l3 : Int32) (l4 : Int32) (l5 : Int32) (p0_queue_n : Nat) (p0_swaps_n : Nat) (p1_listed : Int32) (p1_size : Int32) (p1_seatings_v : Nat → Int32) (p1_seatings_n : Nat) :
    ∀ (n : Nat) (l6 : Int32) (p0_queued : Int32) (p0_queue_v : Nat → Int32) (p0_swaps_v : Nat → Int32) (xx : (Int32 × (Nat → Int32) × (Nat → Int32)) ⊕ (Int32 × (Nat → Int32) × (Nat → Int32))), lf_X6_reaches_3 l2 l3 l4 l5 p0_queue_n p0_swaps_n p1_size p1_seatings_v p1_seatings_n n l6 p0_queued p0_queue_v p0_swaps_v = some xx → ((∀ (e_p0_queued : Int32) (e_p0_queue_v : Nat → Int32) (e_p0_swaps_v : Nat → Int32), Sum.inl (e_p0_queued, e_p0_queue_v, e_p0_swaps_v) = xx → ∀ (H : Heap) (locs : List Loc) (ls : Array Slot), va_P (dC, dI) vwCl [(a_p0, .inr (5, [.ref a_p0_queue, .ref a_p0_swaps, .int e_p0_queued])), (a_p0_queue, .inl (cI, p0_queue_n, .inl e_p0_queue_v)), (a_p0_swaps, .inl (cI, p0_swaps_n, .inl e_p0_swaps_v)), (a_p1, .inr (2, [.ref a_p1_seatings, .int p1_listed, .int p1_size])), (a_p1_seatings, .inl (cI, p1_seatings_n, .inl p1_seatings_v))] H → va_D A [(a_p0, .inr (5, [.ref a_p0_queue, .ref a_p0_swaps, .int e_p0_queued])), (a_p0_queue, .inl (cI, p0_queue_n, .inl e_p0_queue_v)), (a_p0_swaps, .inl (cI, p0_swaps_n, .inl e_p0_swaps_v)), (a_p1, .inr (2, [.ref a_p1_seatings, .int p1_listed, .int p1_size])), (a_p1_seatings, .inl (cI, p1_seatings_n, .inl p1_seatings_v))] → va_S A s.heap H locs → lv_has ls 9 [] → W p l e rm_X6_reaches s m args below meth c H locs 0 0 Q (F0 m 43 ls [])) ∧ (∀ (e_p0_queued : Int32) (e_p0_queue_v : Nat → Int32) (e_p0_swaps_v : Nat → Int32), Sum.inr (e_p0_queued, e_p0_queue_v, e_p0_swaps_v) = xx → ∀ (H : Heap) (locs : List Loc) (ls : Array Slot), va_P (dC, dI) vwCl [(a_p0, .inr (5, [.ref a_p0_queue, .ref a_p0_swaps, .int e_p0_queued])), (a_p0_queue, .inl (cI, p0_queue_n, .inl e_p0_queue_v)), (a_p0_swaps, .inl (cI, p0_swaps_n, .inl e_p0_swaps_v)), (a_p1, .inr (2, [.ref a_p1_seatings, .int p1_listed, .int p1_size])), (a_p1_seatings, .inl (cI, p1_seatings_n, .inl p1_seatings_v))] H → va_D A [(a_p0, .inr (5, [.ref a_p0_queue, .ref a_p0_swaps, .int e_p0_queued])), (a_p0_queue, .inl (cI, p0_queue_n, .inl e_p0_queue_v)), (a_p0_swaps, .inl (cI, p0_swaps_n, .inl e_p0_swaps_v)), (a_p1, .inr (2, [.ref a_p1_seatings, .int p1_listed, .int p1_size])), (a_p1_seatings, .inl (cI, p1_seatings_n, .inl p1_seatings_v))] → va_S A s.heap H locs → lv_has ls 9 [] → W p l e rm_X6_reaches s m args below meth c H locs 0 0 Q (F0 m 69 ls []))) → ∀ (H : Heap) (locs : List Loc) (ls : Array Slot), va_P (dC, dI) vwCl [(a_p0, .inr (5, [.ref a_p0_queue, .ref a_p0_swaps, .int p0_queued])), (a_p0_queue, .inl (cI, p0_queue_n, .inl p0_queue_v)), (a_p0_swaps, .inl (cI, p0_swaps_n, .inl p0_swaps_v)), (a_p1, .inr (2, [.ref a_p1_seatings, .int p1_listed, .int p1_size])), (a_p1_seatings, .inl (cI, p1_seatings_n, .inl p1_seatings_v))] H → va_D A [(a_p0, .inr (5, [.ref a_p0_queue, .ref a_p0_swaps, .int p0_queued])), (a_p0_queue, .inl (cI, p0_queue_n, .inl p0_queue_v)), (a_p0_swaps, .inl (cI, p0_swaps_n, .inl p0_swaps_v)), (a_p1, .inr (2, [.ref a_p1_seatings, .int p1_listed, .int p1_size])), (a_p1_seatings, .inl (cI, p1_seatings_n, .inl p1_seatings_v))] → va_S A s.heap H locs → lv_has ls 9 [(0, .ref a_p0), (1, .ref a_p1), (2, .int l2), (3, .int l3), (4, .int l4), (5, .int l5), (6, .int l6)] → W p l e rm_X6_reaches s m args below meth c H locs 0 0 Q (F0 m 3 ls []) := by
  intro n
  induction n with
  | zero =>
    intro l6 p0_queued p0_queue_v p0_swaps_v xx h
    rw [lf_X6_reaches_3] at h
    cases h
  | succ n ih =>
    intro l6 p0_queued p0_queue_v p0_swaps_v xx h KK H locs ls hP hD hS hl
    rw [lf_X6_reaches_3] at h
    refine lv_iload hx hb dX6_reaches_3 (lv_at hl 6 rfl) ?_
    refine lv_iload_n hx hb dX6_reaches_5 rfl (lv_at hl 2 rfl) ?_
    refine lv_icmp_ge (tgt := 69) hx hb dX6_reaches_6 (by decide) (fun c1 => ?_) (fun c1 => ?_)
    · have h := pw_cd_p c1 h
      have hl := lv_sub (l' := []) hl [] rfl
      exact KK.2 p0_queued p0_queue_v p0_swaps_v (Option.some.inj h) _ locs ls hP hD hS hl
    · have h := pw_cd_n c1 h
      refine lv_iload hx hb dX6_reaches_9 (lv_at hl 6 rfl) ?_
      refine lv_bipush (v := 7) hx hb dX6_reaches_11 (by decide) ?_
      refine lv_icmp_ge (tgt := 69) hx hb dX6_reaches_13 (by decide) (fun c2 => ?_) (fun c2 => ?_)
      · have h := pw_cd_p c2 h
        have hl := lv_sub (l' := []) hl [] rfl
        exact KK.2 p0_queued p0_queue_v p0_swaps_v (Option.some.inj h) _ locs ls hP hD hS hl
      · have h := pw_cd_n c2 h
        refine lv_iconst (v := 0) hx hb dX6_reaches_16 (by decide) ?_
        refine lv_istore (lv' := [(7, .int 0), (0, .ref a_p0), (1, .ref a_p1), (2, .int l2), (3, .int l3), (4, .int l4), (5, .int l5), (6, .int l6)]) hx hb dX6_reaches_17 hl (by decide) rfl (fun ls hl => ?_)
        have hl := lv_sub (l' := [(0, .ref a_p0), (1, .ref a_p1), (2, .int l2), (3, .int l3), (4, .int l4), (5, .int l5), (6, .int l6), (7, .int 0)]) hl [1, 2, 3, 4, 5, 6, 7, 0] rfl
        obtain ⟨xx17, hL18, h⟩ := pw_bs_e h
        refine lw_X6_reaches_19 hx hb hml hown hts hA hK a_p0 a_p0_queue a_p0_swaps a_p1 a_p1_seatings l2 l3 l4 l5 l6 p0_queue_n p0_swaps_n p1_listed p1_size p1_seatings_v p1_seatings_n pw_FU 0 p0_queued p0_queue_v p0_swaps_v xx17 hL18 ⟨?_, ?_⟩ _ locs ls hP hD hS hl
        · intro y19 y20 y21 ex H locs ls hP hD hS hl
          subst ex
          have h := pw_sl_e h
          have h := pw_u3_e h
          exact KK.1 y19 y20 y21 (Option.some.inj h) _ locs ls hP hD hS hl
        · intro y22 y23 y24 ex H locs ls hP hD hS hl
          subst ex
          have h := pw_sr_e h
          have h := pw_u3_e h
          refine lv_iinc (v := (l6 + 1)) (lv' := [(6, .int (l6 + 1)), (0, .ref a_p0), (1, .ref a_p1), (2, .int l2), (3, .int l3), (4, .int l4), (5, .int l5)]) hx hb dX6_reaches_63 hl (k := 6) rfl rfl (by decide) rfl (fun ls hl => ?_)
          refine lv_goto (tgt := 3) hx hb dX6_reaches_66 (by decide) ?_
          have hl := lv_sub (l' := [(0, .ref a_p0), (1, .ref a_p1), (2, .int l2), (3, .int l3), (4, .int l4), (5, .int l5), (6, .int (l6 + 1))]) hl [1, 2, 3, 4, 5, 6, 0] rfl
          exact ih (l6 + 1) y22 y23 y24 xx h KK _ locs ls hP hD hS hl
set_option maxRecDepth 100000 in
set_option maxHeartbeats 4000000 in
theorem c_X6_reaches (l : Launch) (dC : Nat → ClassId) (dI : Nat → Nat → Nat) (cI cZ : ClassId) (sz : Nat) (a_p0 : Nat) (a_p0_queue : Nat) (a_p0_swaps : Nat) (a_p1 : Nat) (a_p1_seatings : Nat) (p0_queued : Int32) (p0_queue_v : Nat → Int32) (p0_queue_n : Nat) (p0_swaps_v : Nat → Int32) (p0_swaps_n : Nat) (p1_listed : Int32) (p1_size : Int32) (p1_seatings_v : Nat → Int32) (p1_seatings_n : Nat) (x2 : Int32) (x3 : Int32) (x4 : Int32) (x5 : Int32) (xx : Int32 × Int32 × (Nat → Int32) × (Nat → Int32)) (hc : f_X6_reaches x2 x3 x4 x5 p0_queued p0_queue_v p0_queue_n p0_swaps_v p0_swaps_n p1_size p1_seatings_v p1_seatings_n = some xx) : Met l yX6_reaches wsX6_reaches rm_X6_reaches (va_Pc [.ref a_p0, .ref a_p1, .int x2, .int x3, .int x4, .int x5] (pw_pre (dC, dI) cI cZ [(a_p0, .inr (5, [.ref a_p0_queue, .ref a_p0_swaps, .int p0_queued])), (a_p0_queue, .inl (cI, p0_queue_n, .inl p0_queue_v)), (a_p0_swaps, .inl (cI, p0_swaps_n, .inl p0_swaps_v)), (a_p1, .inr (2, [.ref a_p1_seatings, .int p1_listed, .int p1_size])), (a_p1_seatings, .inl (cI, p1_seatings_n, .inl p1_seatings_v))] sz)) (va_Qi (fun (r : Int32) (u : Int32 × (Nat → Int32) × (Nat → Int32)) => f_X6_reaches x2 x3 x4 x5 p0_queued p0_queue_v p0_queue_n p0_swaps_v p0_swaps_n p1_size p1_seatings_v p1_seatings_n = some (r, u.1, u.2.1, u.2.2)) (fun u t => pw_post (dC, dI) cI cZ (va_A [(a_p0, .inr (5, [.ref a_p0_queue, .ref a_p0_swaps, .int p0_queued])), (a_p0_queue, .inl (cI, p0_queue_n, .inl p0_queue_v)), (a_p0_swaps, .inl (cI, p0_swaps_n, .inl p0_swaps_v)), (a_p1, .inr (2, [.ref a_p1_seatings, .int p1_listed, .int p1_size])), (a_p1_seatings, .inl (cI, p1_seatings_n, .inl p1_seatings_v))] sz) [(a_p0, .inr (5, [.ref a_p0_queue, .ref a_p0_swaps, .int u.1])), (a_p0_queue, .inl (cI, p0_queue_n, .inl u.2.1)), (a_p0_swaps, .inl (cI, p0_swaps_n, .inl u.2.2)), (a_p1, .inr (2, [.ref a_p1_seatings, .int p1_listed, .int p1_size])), (a_p1_seatings, .inl (cI, p1_seatings_n, .inl p1_seatings_v))] t) (va_A [(a_p0, .inr (5, [.ref a_p0_queue, .ref a_p0_swaps, .int p0_queued])), (a_p0_queue, .inl (cI, p0_queue_n, .inl p0_queue_v)), (a_p0_swaps, .inl (cI, p0_swaps_n, .inl p0_swaps_v)), (a_p1, .inr (2, [.ref a_p1_seatings, .int p1_listed, .int p1_size])), (a_p1_seatings, .inl (cI, p1_seatings_n, .inl p1_seatings_v))] sz)) 0 0 (va_A [(a_p0, .inr (5, [.ref a_p0_queue, .ref a_p0_swaps, .int p0_queued])), (a_p0_queue, .inl (cI, p0_queue_n, .inl p0_queue_v)), (a_p0_swaps, .inl (cI, p0_swaps_n, .inl p0_swaps_v)), (a_p1, .inr (2, [.ref a_p1_seatings, .int p1_listed, .int p1_size])), (a_p1_seatings, .inl (cI, p1_seatings_n, .inl p1_seatings_v))] sz) := by
  refine Met.ofW (cc := cX6_reaches) (maxL := 9) (ret := (some .boolean)) (by decide) rfl ?_
  intro p e s m args below meth c s₁ B hml hv
  obtain ⟨rfl, hsz, hP, hK, hD0⟩ := hv
  have hx := B.exec
  have hb := B.bytes
  have hr := B.returns
  have hts := atoms_spec (ws := wsX6_reaches) B.pre
  have hown : s.vm.findClass RX6 = some m.cls := findClass_of_methodNamed B.named
  have hlocks := B.notSynchronized
  subst hsz
  have hD := hD0.self (sz := s.heap.size)
  generalize hAe : va_A [(a_p0, .inr (5, [.ref a_p0_queue, .ref a_p0_swaps, .int p0_queued])), (a_p0_queue, .inl (cI, p0_queue_n, .inl p0_queue_v)), (a_p0_swaps, .inl (cI, p0_swaps_n, .inl p0_swaps_v)), (a_p1, .inr (2, [.ref a_p1_seatings, .int p1_listed, .int p1_size])), (a_p1_seatings, .inl (cI, p1_seatings_n, .inl p1_seatings_v))] s.heap.size = A at hD ⊢
  have hA : ∀ q : Nat, s.heap.size ≤ q → A q := fun q h => by rw [← hAe]; exact Or.inr h
  have hS : va_S A s.heap s.heap [] := va_S.rf
  have hP : va_P (dC, dI) vwCl [(a_p0, .inr (5, [.ref a_p0_queue, .ref a_p0_swaps, .int p0_queued])), (a_p0_queue, .inl (cI, p0_queue_n, .inl p0_queue_v)), (a_p0_swaps, .inl (cI, p0_swaps_n, .inl p0_swaps_v)), (a_p1, .inr (2, [.ref a_p1_seatings, .int p1_listed, .int p1_size])), (a_p1_seatings, .inl (cI, p1_seatings_n, .inl p1_seatings_v))] s.heap := hP
  have hl := lv_entry ([.ref a_p0, .ref a_p1, .int x2, .int x3, .int x4, .int x5]) (n := 9) (Nat.le_of_ble_eq_true rfl)
  rw [lg_entry_eq]
  generalize (lg_sl ([.ref a_p0, .ref a_p1, .int x2, .int x3, .int x4, .int x5]) ++ List.replicate (9 - (lg_sl ([.ref a_p0, .ref a_p1, .int x2, .int x3, .int x4, .int x5])).length) Slot.unset).toArray = ls at hl ⊢
  have hl : lv_has ls 9 [(0, .ref a_p0), (1, .ref a_p1), (2, .int x2), (3, .int x3), (4, .int x4), (5, .int x5)] := hl
  refine pw_Wq (R := rm_X6_reaches) (fun Q hQ => ?_)
  obtain ⟨locs, elocs⟩ : ∃ y : List Loc, y = [] := ⟨_, rfl⟩
  rw [← elocs] at hS ⊢
  have h := hc
  unfold f_X6_reaches at h
  refine lv_iconst (v := 1) hx hb dX6_reaches_0 (by decide) ?_
  refine lv_istore (lv' := [(6, .int 1), (0, .ref a_p0), (1, .ref a_p1), (2, .int x2), (3, .int x3), (4, .int x4), (5, .int x5)]) hx hb dX6_reaches_1 hl (by decide) rfl (fun ls hl => ?_)
  have hl := lv_sub (l' := [(0, .ref a_p0), (1, .ref a_p1), (2, .int x2), (3, .int x3), (4, .int x4), (5, .int x5), (6, .int 1)]) hl [1, 2, 3, 4, 5, 6, 0] rfl
  obtain ⟨xx25, hL26, h⟩ := pw_bs_e h
  refine lw_X6_reaches_3 hx hb hml hown hts hA hK a_p0 a_p0_queue a_p0_swaps a_p1 a_p1_seatings x2 x3 x4 x5 p0_queue_n p0_swaps_n p1_listed p1_size p1_seatings_v p1_seatings_n pw_FU 1 p0_queued p0_queue_v p0_swaps_v xx25 hL26 ⟨?_, ?_⟩ _ locs ls hP hD hS hl
  · intro y27 y28 y29 ex H locs ls hP hD hS hl
    subst ex
    have h := pw_sl_e h
    have h := pw_u3_e h
    refine lv_iconst (v := 1) hx hb dX6_reaches_43 (by decide) ?_
    rw [hQ]
    exact W.zret (v := 1) hx hb hr rfl (fun t ht hW => ⟨⟨1, (y27, y28, y29), rfl, hc.trans h.symm, by rw [ht]; exact hP, va_K.moved hW.alike hK, hD⟩, hS.F ht⟩) hS.2.2 dX6_reaches_44
  · intro y30 y31 y32 ex H locs ls hP hD hS hl
    subst ex
    have h := pw_sr_e h
    have h := pw_u3_e h
    refine lv_iconst (v := 0) hx hb dX6_reaches_69 (by decide) ?_
    rw [hQ]
    exact W.zret (v := 0) hx hb hr rfl (fun t ht hW => ⟨⟨0, (y30, y31, y32), rfl, hc.trans h.symm, by rw [ht]; exact hP, va_K.moved hW.alike hK, hD⟩, hS.F ht⟩) hS.2.2 dX6_reaches_70
/-! X6_fewestSwaps -/
theorem li_X6_fewestSwaps_X2 : ∀ w ∈ u_ws RX2 TX2 3, w ∈ wsX6_fewestSwaps := fun w h => List.mem_cons_of_mem _ (List.mem_append_left _ (List.mem_append_right _ h))
theorem lk_X6_fewestSwaps_22 : Cond.fieldLink RX6 22 "NoWifeBeside$Lawful" "size" "I" ∈ wsX6_fewestSwaps := by decide +kernel
theorem li_X6_fewestSwaps_X6 : ∀ w ∈ u_ws RX6 TX6 3, w ∈ wsX6_fewestSwaps := fun w h => List.mem_cons_of_mem _ (List.mem_append_right _ h)
theorem lk_X6_fewestSwaps_18 : Cond.fieldLink RX6 18 "NoWifeBeside$Search" "queued" "I" ∈ wsX6_fewestSwaps := by decide +kernel
theorem lk_X6_fewestSwaps_9 : Cond.fieldLink RX6 9 "NoWifeBeside$Search" "queue" "[I" ∈ wsX6_fewestSwaps := by decide +kernel
abbrev rm_X6_fewestSwaps : Room := { frames := 3, cells := 2, slots := 1440, locals := 75 }
set_option maxRecDepth 100000 in
set_option maxHeartbeats 4000000 in
theorem lw_X6_fewestSwaps_34 {p : Program} {l : Launch} {e : Env} {s : State} {m : MethodId} {args : Array Value} {below : List Frame} {meth : Method} {c : Code} {Q : State → Prop} {dC : Nat → ClassId} {dI : Nat → Nat → Nat} {cI cZ : ClassId} {A : Nat → Prop} (hx : p.tables.exec = Jvm.exec) (hb : c.code = cX6_fewestSwaps) (hml : c.maxLocals = 8) (hown : s.vm.findClass RX6 = some m.cls) (hts : ∀ w ∈ wsX6_fewestSwaps, w.before args s = true) (hA : ∀ q : Nat, s.heap.size ≤ q → A q) (hK : va_K (dC, dI) vwCl [(cI, .int), (cZ, .boolean)] s) (a_p0 : Nat) (a_p0_queue : Nat) (a_p0_swaps : Nat) (a_p1 : Nat) (a_p1_seatings : Nat) (l2 : Int32) (l4 : Int32) (p0_queue_n : Nat) (p0_swaps_n : Nat) (p1_listed : Int32) (p1_size : Int32) (p1_seatings_v : Nat → Int32) (p1_seatings_n : Nat) :
    ∀ (n : Nat) (l5 : Int32) (p0_queued : Int32) (p0_queue_v : Nat → Int32) (p0_swaps_v : Nat → Int32) (xx : (Int32 × Int32 × (Nat → Int32) × (Nat → Int32)) ⊕ (Int32 × (Nat → Int32) × (Nat → Int32))), lf_X6_fewestSwaps_34 l2 l4 p0_queue_n p0_swaps_n p1_size p1_seatings_v p1_seatings_n n l5 p0_queued p0_queue_v p0_swaps_v = some xx → ((∀ (e_l7 : Int32) (e_p0_queued : Int32) (e_p0_queue_v : Nat → Int32) (e_p0_swaps_v : Nat → Int32), Sum.inl (e_l7, e_p0_queued, e_p0_queue_v, e_p0_swaps_v) = xx → ∀ (H : Heap) (locs : List Loc) (ls : Array Slot), va_P (dC, dI) vwCl [(a_p0, .inr (5, [.ref a_p0_queue, .ref a_p0_swaps, .int e_p0_queued])), (a_p0_queue, .inl (cI, p0_queue_n, .inl e_p0_queue_v)), (a_p0_swaps, .inl (cI, p0_swaps_n, .inl e_p0_swaps_v)), (a_p1, .inr (2, [.ref a_p1_seatings, .int p1_listed, .int p1_size])), (a_p1_seatings, .inl (cI, p1_seatings_n, .inl p1_seatings_v))] H → va_D A [(a_p0, .inr (5, [.ref a_p0_queue, .ref a_p0_swaps, .int e_p0_queued])), (a_p0_queue, .inl (cI, p0_queue_n, .inl e_p0_queue_v)), (a_p0_swaps, .inl (cI, p0_swaps_n, .inl e_p0_swaps_v)), (a_p1, .inr (2, [.ref a_p1_seatings, .int p1_listed, .int p1_size])), (a_p1_seatings, .inl (cI, p1_seatings_n, .inl p1_seatings_v))] → va_S A s.heap H locs → lv_has ls 8 [(7, .int e_l7)] → W p l e rm_X6_fewestSwaps s m args below meth c H locs 2 1440 Q (F0 m 91 ls [])) ∧ (∀ (e_p0_queued : Int32) (e_p0_queue_v : Nat → Int32) (e_p0_swaps_v : Nat → Int32), Sum.inr (e_p0_queued, e_p0_queue_v, e_p0_swaps_v) = xx → ∀ (H : Heap) (locs : List Loc) (ls : Array Slot), va_P (dC, dI) vwCl [(a_p0, .inr (5, [.ref a_p0_queue, .ref a_p0_swaps, .int e_p0_queued])), (a_p0_queue, .inl (cI, p0_queue_n, .inl e_p0_queue_v)), (a_p0_swaps, .inl (cI, p0_swaps_n, .inl e_p0_swaps_v)), (a_p1, .inr (2, [.ref a_p1_seatings, .int p1_listed, .int p1_size])), (a_p1_seatings, .inl (cI, p1_seatings_n, .inl p1_seatings_v))] H → va_D A [(a_p0, .inr (5, [.ref a_p0_queue, .ref a_p0_swaps, .int e_p0_queued])), (a_p0_queue, .inl (cI, p0_queue_n, .inl e_p0_queue_v)), (a_p0_swaps, .inl (cI, p0_swaps_n, .inl e_p0_swaps_v)), (a_p1, .inr (2, [.ref a_p1_seatings, .int p1_listed, .int p1_size])), (a_p1_seatings, .inl (cI, p1_seatings_n, .inl p1_seatings_v))] → va_S A s.heap H locs → lv_has ls 8 [] → W p l e rm_X6_fewestSwaps s m args below meth c H locs 2 1440 Q (F0 m 100 ls []))) → ∀ (H : Heap) (locs : List Loc) (ls : Array Slot), va_P (dC, dI) vwCl [(a_p0, .inr (5, [.ref a_p0_queue, .ref a_p0_swaps, .int p0_queued])), (a_p0_queue, .inl (cI, p0_queue_n, .inl p0_queue_v)), (a_p0_swaps, .inl (cI, p0_swaps_n, .inl p0_swaps_v)), (a_p1, .inr (2, [.ref a_p1_seatings, .int p1_listed, .int p1_size])), (a_p1_seatings, .inl (cI, p1_seatings_n, .inl p1_seatings_v))] H → va_D A [(a_p0, .inr (5, [.ref a_p0_queue, .ref a_p0_swaps, .int p0_queued])), (a_p0_queue, .inl (cI, p0_queue_n, .inl p0_queue_v)), (a_p0_swaps, .inl (cI, p0_swaps_n, .inl p0_swaps_v)), (a_p1, .inr (2, [.ref a_p1_seatings, .int p1_listed, .int p1_size])), (a_p1_seatings, .inl (cI, p1_seatings_n, .inl p1_seatings_v))] → va_S A s.heap H locs → lv_has ls 8 [(0, .ref a_p0), (1, .ref a_p1), (2, .int l2), (4, .int l4), (5, .int l5)] → W p l e rm_X6_fewestSwaps s m args below meth c H locs 2 1440 Q (F0 m 34 ls []) := by
  intro n
  induction n with
  | zero =>
    intro l5 p0_queued p0_queue_v p0_swaps_v xx h
    rw [lf_X6_fewestSwaps_34] at h
    cases h
  | succ n ih =>
    intro l5 p0_queued p0_queue_v p0_swaps_v xx h KK H locs ls hP hD hS hl
    rw [lf_X6_fewestSwaps_34] at h
    refine lv_iload hx hb dX6_fewestSwaps_34 (lv_at hl 4 rfl) ?_
    refine lv_aload_n hx hb dX6_fewestSwaps_36 rfl (lv_at hl 0 rfl) ?_
    refine va_get (D := (dC, dI)) (ci := 5) (v := .int p0_queued) (C := RX6) (T := TX6) (N := 3) hx hb hts li_X6_fewestSwaps_X6 hown hK hP 0 rfl rfl 2 (by decide) (hts _ lk_X6_fewestSwaps_18) (fun _ h9 => h9) rfl dX6_fewestSwaps_37 ?_
    refine lv_icmp_ge (tgt := 100) hx hb dX6_fewestSwaps_40 (by decide) (fun c19 => ?_) (fun c19 => ?_)
    · have h := pw_cd_p c19 h
      have hl := lv_sub (l' := []) hl [] rfl
      exact KK.2 p0_queued p0_queue_v p0_swaps_v (Option.some.inj h) _ locs ls hP hD hS hl
    · have h := pw_cd_n c19 h
      refine lv_iload hx hb dX6_fewestSwaps_43 (lv_at hl 4 rfl) ?_
      refine lv_aload_n hx hb dX6_fewestSwaps_45 rfl (lv_at hl 0 rfl) ?_
      refine va_get (D := (dC, dI)) (ci := 5) (v := .ref a_p0_queue) (C := RX6) (T := TX6) (N := 3) hx hb hts li_X6_fewestSwaps_X6 hown hK hP 0 rfl rfl 0 (by decide) (hts _ lk_X6_fewestSwaps_9) (fun _ h9 => h9) rfl dX6_fewestSwaps_46 ?_
      refine va_alen hx hb hK hP 1 0 rfl rfl (v := (nI p0_queue_n)) rfl dX6_fewestSwaps_49 ?_
      refine lv_topi (fun v20 ev20 => ?_)
      have h := pw_lt_e ev20 h
      refine lv_icmp_ge (tgt := 100) hx hb dX6_fewestSwaps_50 (by decide) (fun c21 => ?_) (fun c21 => ?_)
      · have h := pw_cd_p c21 h
        have hl := lv_sub (l' := []) hl [] rfl
        exact KK.2 p0_queued p0_queue_v p0_swaps_v (Option.some.inj h) _ locs ls hP hD hS hl
      · have h := pw_cd_n c21 h
        refine lv_aload_n hx hb dX6_fewestSwaps_53 rfl (lv_at hl 0 rfl) ?_
        refine va_get (D := (dC, dI)) (ci := 5) (v := .ref a_p0_queue) (C := RX6) (T := TX6) (N := 3) hx hb hts li_X6_fewestSwaps_X6 hown hK hP 0 rfl rfl 0 (by decide) (hts _ lk_X6_fewestSwaps_9) (fun _ h9 => h9) rfl dX6_fewestSwaps_54 ?_
        refine lv_iload hx hb dX6_fewestSwaps_57 (lv_at hl 4 rfl) ?_
        obtain ⟨g22, h⟩ := pw_gd_e h
        refine va_iald hx hb hK hP 1 0 rfl rfl g22 dX6_fewestSwaps_59 ?_
        refine lv_topi (fun v23 ev23 => ?_)
        have h := pw_lt_e ev23 h
        refine lv_istore (lv' := [(6, .int v23), (0, .ref a_p0), (1, .ref a_p1), (2, .int l2), (4, .int l4), (5, .int l5)]) hx hb dX6_fewestSwaps_60 hl (by decide) rfl (fun ls hl => ?_)
        refine lv_iconst (v := 1) hx hb dX6_fewestSwaps_62 (by decide) ?_
        refine lv_aload_n hx hb dX6_fewestSwaps_63 rfl (lv_at hl 1 rfl) ?_
        refine lv_iload hx hb dX6_fewestSwaps_64 (lv_at hl 0 rfl) ?_
        obtain ⟨xx26, hc25, h⟩ := pw_bd_e h
        refine pw_ci (wr := [(a_p0_queue, .inl (cI, p0_queue_n, .inl p0_queue_v)), (a_p1, .inr (2, [.ref a_p1_seatings, .int p1_listed, .int p1_size])), (a_p1_seatings, .inl (cI, p1_seatings_n, .inl p1_seatings_v))]) (va_runV (As := [.int v23]) (rest := [.int 1]) ⟨hx, hb, hml, hown, hts⟩ (c_X6_swapsTo l dC dI cI cZ H.size a_p0 a_p0_queue a_p0_swaps p0_queued p0_swaps_v p0_swaps_n v23 xx26 hc25) (cwV 1 hts gX6_fewestSwaps_X6_swapsTo rfl rfl rfl (by decide +kernel) ⟨(Nat.le_of_ble_eq_true rfl), (Nat.le_of_ble_eq_true rfl)⟩) (pw_preV hK hP hD [0, 2] rfl rfl (by decide) 5 rfl rfl) rfl rfl hl.1 rfl (lv_room (Nat.le_of_ble_eq_true rfl)) dX6_fewestSwaps_66 ⟨(Nat.le_of_ble_eq_true rfl), (Nat.le_of_ble_eq_true rfl)⟩) hP hD hS hA [0, 2] [1, 3, 4] rfl rfl (by decide) (by decide) (fun r24 u H locs hw hP hD hS => ?_)
        have ex : r24 = xx26 := Option.some.inj (hw.symm.trans hc25)
        subst ex
        have h := pw_u1_e h
        have hP : va_P (dC, dI) vwCl [(a_p0_queue, .inl (cI, p0_queue_n, .inl p0_queue_v)), (a_p1, .inr (2, [.ref a_p1_seatings, .int p1_listed, .int p1_size])), (a_p1_seatings, .inl (cI, p1_seatings_n, .inl p1_seatings_v)), (a_p0, .inr (5, [.ref a_p0_queue, .ref a_p0_swaps, .int p0_queued])), (a_p0_swaps, .inl (cI, p0_swaps_n, .inl p0_swaps_v))] H := hP
        have hD : va_D A [(a_p0_queue, .inl (cI, p0_queue_n, .inl p0_queue_v)), (a_p1, .inr (2, [.ref a_p1_seatings, .int p1_listed, .int p1_size])), (a_p1_seatings, .inl (cI, p1_seatings_n, .inl p1_seatings_v)), (a_p0, .inr (5, [.ref a_p0_queue, .ref a_p0_swaps, .int p0_queued])), (a_p0_swaps, .inl (cI, p0_swaps_n, .inl p0_swaps_v))] := hD
        refine lv_iadd hx hb dX6_fewestSwaps_69 ?_
        refine lv_topi (fun v27 ev27 => ?_)
        have h := pw_lt_e ev27 h
        refine lv_istore (lv' := [(7, .int v27), (6, .int v23), (0, .ref a_p0), (1, .ref a_p1), (2, .int l2), (4, .int l4), (5, .int l5)]) hx hb dX6_fewestSwaps_70 hl (by decide) rfl (fun ls hl => ?_)
        refine lv_aload_n hx hb dX6_fewestSwaps_72 rfl (lv_at hl 2 rfl) ?_
        refine lv_aload_n hx hb dX6_fewestSwaps_73 rfl (lv_at hl 3 rfl) ?_
        refine lv_iload_n hx hb dX6_fewestSwaps_74 rfl (lv_at hl 4 rfl) ?_
        refine lv_aload_n hx hb dX6_fewestSwaps_75 rfl (lv_at hl 3 rfl) ?_
        refine lv_iload hx hb dX6_fewestSwaps_76 (lv_at hl 1 rfl) ?_
        obtain ⟨xx30, hc29, h⟩ := pw_bd_e h
        refine pw_ci (wr := [(a_p0_queue, .inl (cI, p0_queue_n, .inl p0_queue_v)), (a_p0, .inr (5, [.ref a_p0_queue, .ref a_p0_swaps, .int p0_queued])), (a_p0_swaps, .inl (cI, p0_swaps_n, .inl p0_swaps_v))]) (va_runV (As := [.int v23]) (rest := [.int l2, .ref a_p1, .ref a_p0]) ⟨hx, hb, hml, hown, hts⟩ (c_X2_seatingOf l dC dI cI cZ H.size a_p1 a_p1_seatings p1_listed p1_size p1_seatings_v p1_seatings_n v23 xx30 hc29) (cwV 1 hts gX6_fewestSwaps_X2_seatingOf rfl rfl rfl (by decide +kernel) ⟨(Nat.le_of_ble_eq_true rfl), (Nat.le_of_ble_eq_true rfl)⟩) (pw_preV hK hP hD [1, 2] rfl rfl (by decide) 2 rfl rfl) rfl rfl hl.1 rfl (lv_room (Nat.le_of_ble_eq_true rfl)) dX6_fewestSwaps_78 ⟨(Nat.le_of_ble_eq_true rfl), (Nat.le_of_ble_eq_true rfl)⟩) hP hD hS hA [1, 2] [0, 3, 4] rfl rfl (by decide) (by decide) (fun r28 u H locs hw hP hD hS => ?_)
        have ex : r28 = xx30 := Option.some.inj (hw.symm.trans hc29)
        subst ex
        have h := pw_u1_e h
        have hP : va_P (dC, dI) vwCl [(a_p0_queue, .inl (cI, p0_queue_n, .inl p0_queue_v)), (a_p0, .inr (5, [.ref a_p0_queue, .ref a_p0_swaps, .int p0_queued])), (a_p0_swaps, .inl (cI, p0_swaps_n, .inl p0_swaps_v)), (a_p1, .inr (2, [.ref a_p1_seatings, .int p1_listed, .int p1_size])), (a_p1_seatings, .inl (cI, p1_seatings_n, .inl p1_seatings_v))] H := hP
        have hD : va_D A [(a_p0_queue, .inl (cI, p0_queue_n, .inl p0_queue_v)), (a_p0, .inr (5, [.ref a_p0_queue, .ref a_p0_swaps, .int p0_queued])), (a_p0_swaps, .inl (cI, p0_swaps_n, .inl p0_swaps_v)), (a_p1, .inr (2, [.ref a_p1_seatings, .int p1_listed, .int p1_size])), (a_p1_seatings, .inl (cI, p1_seatings_n, .inl p1_seatings_v))] := hD
        refine lv_iload hx hb dX6_fewestSwaps_81 (lv_at hl 5 rfl) ?_
        refine lv_iload hx hb dX6_fewestSwaps_83 (lv_at hl 0 rfl) ?_
        obtain ⟨xx33, hc32, h⟩ := pw_bd_e h
        refine pw_ci (wr := []) (va_runV (As := [.ref a_p1, .int l2, .int r28, .int l4, .int v27]) (rest := []) ⟨hx, hb, hml, hown, hts⟩ (c_X6_reaches l dC dI cI cZ H.size a_p0 a_p0_queue a_p0_swaps a_p1 a_p1_seatings p0_queued p0_queue_v p0_queue_n p0_swaps_v p0_swaps_n p1_listed p1_size p1_seatings_v p1_seatings_n l2 r28 l4 v27 xx33 hc32) (cwV 5 hts gX6_fewestSwaps_X6_reaches rfl rfl rfl (by decide +kernel) ⟨(Nat.le_of_ble_eq_true rfl), (Nat.le_of_ble_eq_true rfl)⟩) (pw_preV hK hP hD [1, 0, 2, 3, 4] rfl rfl (by decide) 5 rfl rfl) rfl rfl hl.1 rfl (lv_room (Nat.le_of_ble_eq_true rfl)) dX6_fewestSwaps_85 ⟨(Nat.le_of_ble_eq_true rfl), (Nat.le_of_ble_eq_true rfl)⟩) hP hD hS hA [1, 0, 2, 3, 4] [] rfl rfl (by decide) (by decide) (fun r31 u H locs hw hP hD hS => ?_)
        obtain ⟨o34, o35, o36⟩ := u
        have ex : (r31, o34, o35, o36) = xx33 := Option.some.inj (hw.symm.trans hc32)
        subst ex
        have h := pw_u4_e h
        have hP : va_P (dC, dI) vwCl [(a_p0, .inr (5, [.ref a_p0_queue, .ref a_p0_swaps, .int o34])), (a_p0_queue, .inl (cI, p0_queue_n, .inl o35)), (a_p0_swaps, .inl (cI, p0_swaps_n, .inl o36)), (a_p1, .inr (2, [.ref a_p1_seatings, .int p1_listed, .int p1_size])), (a_p1_seatings, .inl (cI, p1_seatings_n, .inl p1_seatings_v))] H := hP
        have hD : va_D A [(a_p0, .inr (5, [.ref a_p0_queue, .ref a_p0_swaps, .int o34])), (a_p0_queue, .inl (cI, p0_queue_n, .inl o35)), (a_p0_swaps, .inl (cI, p0_swaps_n, .inl o36)), (a_p1, .inr (2, [.ref a_p1_seatings, .int p1_listed, .int p1_size])), (a_p1_seatings, .inl (cI, p1_seatings_n, .inl p1_seatings_v))] := hD
        refine lv_if_eq (tgt := 94) hx hb dX6_fewestSwaps_88 (by decide) (fun c37 => ?_) (fun c37 => ?_)
        · have h := pw_cd_p c37 h
          refine lv_iinc (v := (l5 + 1)) (lv' := [(5, .int (l5 + 1)), (7, .int v27), (6, .int v23), (0, .ref a_p0), (1, .ref a_p1), (2, .int l2), (4, .int l4)]) hx hb dX6_fewestSwaps_94 hl (k := 6) rfl rfl (by decide) rfl (fun ls hl => ?_)
          refine lv_goto (tgt := 34) hx hb dX6_fewestSwaps_97 (by decide) ?_
          have hl := lv_sub (l' := [(0, .ref a_p0), (1, .ref a_p1), (2, .int l2), (4, .int l4), (5, .int (l5 + 1))]) hl [3, 4, 5, 6, 0] rfl
          exact ih (l5 + 1) o34 o35 o36 xx h KK _ locs ls hP hD hS hl
        · have h := pw_cd_n c37 h
          have hl := lv_sub (l' := [(7, .int v27)]) hl [0] rfl
          exact KK.1 v27 o34 o35 o36 (Option.some.inj h) _ locs ls hP hD hS hl
set_option maxRecDepth 100000 in
set_option maxHeartbeats 4000000 in
theorem c_X6_fewestSwaps (l : Launch) (dC : Nat → ClassId) (dI : Nat → Nat → Nat) (cI cZ : ClassId) (sz : Nat) (a_p0 : Nat) (a_p0_queue : Nat) (a_p0_swaps : Nat) (a_p1 : Nat) (a_p1_seatings : Nat) (p0_queued : Int32) (p0_queue_v : Nat → Int32) (p0_queue_n : Nat) (p0_swaps_v : Nat → Int32) (p0_swaps_n : Nat) (p1_listed : Int32) (p1_size : Int32) (p1_seatings_v : Nat → Int32) (p1_seatings_n : Nat) (x2 : Int32) (x3 : Int32) (x4 : Int32) (xx : Int32 × Int32 × (Nat → Int32) × Nat × (Nat → Int32) × Nat) (hc : f_X6_fewestSwaps x2 x3 x4 p0_queued p0_queue_v p0_queue_n p0_swaps_v p0_swaps_n p1_size p1_seatings_v p1_seatings_n = some xx) : Met l yX6_fewestSwaps wsX6_fewestSwaps rm_X6_fewestSwaps (va_Pc [.ref a_p0, .ref a_p1, .int x2, .int x3, .int x4] (pw_pre (dC, dI) cI cZ [(a_p0, .inr (5, [.ref a_p0_queue, .ref a_p0_swaps, .int p0_queued])), (a_p0_queue, .inl (cI, p0_queue_n, .inl p0_queue_v)), (a_p0_swaps, .inl (cI, p0_swaps_n, .inl p0_swaps_v)), (a_p1, .inr (2, [.ref a_p1_seatings, .int p1_listed, .int p1_size])), (a_p1_seatings, .inl (cI, p1_seatings_n, .inl p1_seatings_v))] sz)) (va_Qi (fun (r : Int32) (u : Nat × Nat × Int32 × (Nat → Int32) × Nat × (Nat → Int32) × Nat) => f_X6_fewestSwaps x2 x3 x4 p0_queued p0_queue_v p0_queue_n p0_swaps_v p0_swaps_n p1_size p1_seatings_v p1_seatings_n = some (r, u.2.2.1, u.2.2.2.1, u.2.2.2.2.1, u.2.2.2.2.2.1, u.2.2.2.2.2.2)) (fun u t => pw_post (dC, dI) cI cZ (va_A [(a_p0, .inr (5, [.ref a_p0_queue, .ref a_p0_swaps, .int p0_queued])), (a_p0_queue, .inl (cI, p0_queue_n, .inl p0_queue_v)), (a_p0_swaps, .inl (cI, p0_swaps_n, .inl p0_swaps_v)), (a_p1, .inr (2, [.ref a_p1_seatings, .int p1_listed, .int p1_size])), (a_p1_seatings, .inl (cI, p1_seatings_n, .inl p1_seatings_v))] sz) [(a_p0, .inr (5, [.ref u.1, .ref u.2.1, .int u.2.2.1])), (u.1, .inl (cI, u.2.2.2.2.1, .inl u.2.2.2.1)), (u.2.1, .inl (cI, u.2.2.2.2.2.2, .inl u.2.2.2.2.2.1)), (a_p1, .inr (2, [.ref a_p1_seatings, .int p1_listed, .int p1_size])), (a_p1_seatings, .inl (cI, p1_seatings_n, .inl p1_seatings_v))] t) (va_A [(a_p0, .inr (5, [.ref a_p0_queue, .ref a_p0_swaps, .int p0_queued])), (a_p0_queue, .inl (cI, p0_queue_n, .inl p0_queue_v)), (a_p0_swaps, .inl (cI, p0_swaps_n, .inl p0_swaps_v)), (a_p1, .inr (2, [.ref a_p1_seatings, .int p1_listed, .int p1_size])), (a_p1_seatings, .inl (cI, p1_seatings_n, .inl p1_seatings_v))] sz)) 2 1440 (va_A [(a_p0, .inr (5, [.ref a_p0_queue, .ref a_p0_swaps, .int p0_queued])), (a_p0_queue, .inl (cI, p0_queue_n, .inl p0_queue_v)), (a_p0_swaps, .inl (cI, p0_swaps_n, .inl p0_swaps_v)), (a_p1, .inr (2, [.ref a_p1_seatings, .int p1_listed, .int p1_size])), (a_p1_seatings, .inl (cI, p1_seatings_n, .inl p1_seatings_v))] sz) := by
  refine Met.ofW (cc := cX6_fewestSwaps) (maxL := 8) (ret := (some .int)) (by decide) rfl ?_
  intro p e s m args below meth c s₁ B hml hv
  obtain ⟨rfl, hsz, hP, hK, hD0⟩ := hv
  have hx := B.exec
  have hb := B.bytes
  have hr := B.returns
  have hts := atoms_spec (ws := wsX6_fewestSwaps) B.pre
  have hown : s.vm.findClass RX6 = some m.cls := findClass_of_methodNamed B.named
  have hlocks := B.notSynchronized
  subst hsz
  have hD := hD0.self (sz := s.heap.size)
  generalize hAe : va_A [(a_p0, .inr (5, [.ref a_p0_queue, .ref a_p0_swaps, .int p0_queued])), (a_p0_queue, .inl (cI, p0_queue_n, .inl p0_queue_v)), (a_p0_swaps, .inl (cI, p0_swaps_n, .inl p0_swaps_v)), (a_p1, .inr (2, [.ref a_p1_seatings, .int p1_listed, .int p1_size])), (a_p1_seatings, .inl (cI, p1_seatings_n, .inl p1_seatings_v))] s.heap.size = A at hD ⊢
  have hA : ∀ q : Nat, s.heap.size ≤ q → A q := fun q h => by rw [← hAe]; exact Or.inr h
  have hS : va_S A s.heap s.heap [] := va_S.rf
  have hP : va_P (dC, dI) vwCl [(a_p0, .inr (5, [.ref a_p0_queue, .ref a_p0_swaps, .int p0_queued])), (a_p0_queue, .inl (cI, p0_queue_n, .inl p0_queue_v)), (a_p0_swaps, .inl (cI, p0_swaps_n, .inl p0_swaps_v)), (a_p1, .inr (2, [.ref a_p1_seatings, .int p1_listed, .int p1_size])), (a_p1_seatings, .inl (cI, p1_seatings_n, .inl p1_seatings_v))] s.heap := hP
  have hl := lv_entry ([.ref a_p0, .ref a_p1, .int x2, .int x3, .int x4]) (n := 8) (Nat.le_of_ble_eq_true rfl)
  rw [lg_entry_eq]
  generalize (lg_sl ([.ref a_p0, .ref a_p1, .int x2, .int x3, .int x4]) ++ List.replicate (8 - (lg_sl ([.ref a_p0, .ref a_p1, .int x2, .int x3, .int x4])).length) Slot.unset).toArray = ls at hl ⊢
  have hl : lv_has ls 8 [(0, .ref a_p0), (1, .ref a_p1), (2, .int x2), (3, .int x3), (4, .int x4)] := hl
  refine pw_Wq (R := rm_X6_fewestSwaps) (fun Q hQ => ?_)
  obtain ⟨locs, elocs⟩ : ∃ y : List Loc, y = [] := ⟨_, rfl⟩
  rw [← elocs] at hS ⊢
  have h := hc
  unfold f_X6_fewestSwaps at h
  refine lv_iload_n hx hb dX6_fewestSwaps_0 rfl (lv_at hl 3 rfl) ?_
  refine lv_iload hx hb dX6_fewestSwaps_1 (lv_at hl 4 rfl) ?_
  refine lv_icmp_ne (tgt := 8) hx hb dX6_fewestSwaps_3 (by decide) (fun c1 => ?_) (fun c1 => ?_)
  · have h := pw_cd_p c1 h
    refine lv_aload_n hx hb dX6_fewestSwaps_8 rfl (lv_at hl 0 rfl) ?_
    refine lv_aload_n hx hb dX6_fewestSwaps_9 rfl (lv_at hl 1 rfl) ?_
    refine va_get (D := (dC, dI)) (ci := 2) (v := .int p1_size) (C := RX2) (T := TX2) (N := 3) hx hb hts li_X6_fewestSwaps_X2 hown hK hP 3 rfl rfl 2 (by decide) (hts _ lk_X6_fewestSwaps_22) (fun _ h9 => h9) rfl dX6_fewestSwaps_10 ?_
    obtain ⟨xx4, hc3, h⟩ := pw_bd_e h
    refine pw_cv (wr := [(a_p1, .inr (2, [.ref a_p1_seatings, .int p1_listed, .int p1_size])), (a_p1_seatings, .inl (cI, p1_seatings_n, .inl p1_seatings_v))]) (va_runV (As := [.int p1_size]) (rest := []) ⟨hx, hb, hml, hown, hts⟩ (c_X6_begin l dC dI cI cZ s.heap.size a_p0 a_p0_queue a_p0_swaps p0_queued p0_queue_v p0_queue_n p0_swaps_v p0_swaps_n p1_size xx4 hc3) (cwV 1 hts gX6_fewestSwaps_X6_begin rfl rfl rfl (by decide +kernel) ⟨(Nat.le_of_ble_eq_true rfl), (Nat.le_of_ble_eq_true rfl)⟩) (pw_preV hK hP hD [0, 1, 2] rfl rfl (by decide) 5 rfl rfl) rfl rfl hl.1 rfl (lv_room (Nat.le_of_ble_eq_true rfl)) dX6_fewestSwaps_13 ⟨(Nat.le_of_ble_eq_true rfl), (Nat.le_of_ble_eq_true rfl)⟩) hP hD hS hA [0, 1, 2] [3, 4] rfl rfl (by decide) (by decide) (fun u H locs hw hP hD hS => ?_)
    obtain ⟨a10, a11, o5, o6, o7, o8, o9⟩ := u
    have ex : (o5, o6, o7, o8, o9) = xx4 := Option.some.inj (hw.symm.trans hc3)
    subst ex
    have h := pw_u5_e h
    have hP : va_P (dC, dI) vwCl [(a_p1, .inr (2, [.ref a_p1_seatings, .int p1_listed, .int p1_size])), (a_p1_seatings, .inl (cI, p1_seatings_n, .inl p1_seatings_v)), (a_p0, .inr (5, [.ref a10, .ref a11, .int o5])), (a10, .inl (cI, o7, .inl o6)), (a11, .inl (cI, o9, .inl o8))] H := hP
    have hD : va_D A [(a_p1, .inr (2, [.ref a_p1_seatings, .int p1_listed, .int p1_size])), (a_p1_seatings, .inl (cI, p1_seatings_n, .inl p1_seatings_v)), (a_p0, .inr (5, [.ref a10, .ref a11, .int o5])), (a10, .inl (cI, o7, .inl o6)), (a11, .inl (cI, o9, .inl o8))] := hD
    refine W.widen (k := 2) (n := 1440) (by decide) (by decide) ?_
    refine lv_aload_n hx hb dX6_fewestSwaps_16 rfl (lv_at hl 0 rfl) ?_
    refine lv_aload_n hx hb dX6_fewestSwaps_17 rfl (lv_at hl 1 rfl) ?_
    refine lv_iload_n hx hb dX6_fewestSwaps_18 rfl (lv_at hl 2 rfl) ?_
    refine lv_iload_n hx hb dX6_fewestSwaps_19 rfl (lv_at hl 3 rfl) ?_
    refine lv_iload hx hb dX6_fewestSwaps_20 (lv_at hl 4 rfl) ?_
    refine lv_iconst (v := 1) hx hb dX6_fewestSwaps_22 (by decide) ?_
    obtain ⟨xx14, hc13, h⟩ := pw_bd_e h
    refine pw_ci (wr := []) (va_runV (As := [.ref a_p1, .int x2, .int x3, .int x4, .int 1]) (rest := []) ⟨hx, hb, hml, hown, hts⟩ (c_X6_reaches l dC dI cI cZ H.size a_p0 a10 a11 a_p1 a_p1_seatings o5 o6 o7 o8 o9 p1_listed p1_size p1_seatings_v p1_seatings_n x2 x3 x4 1 xx14 hc13) (cwV 5 hts gX6_fewestSwaps_X6_reaches rfl rfl rfl (by decide +kernel) ⟨(Nat.le_of_ble_eq_true rfl), (Nat.le_of_ble_eq_true rfl)⟩) (pw_preV hK hP hD [2, 3, 4, 0, 1] rfl rfl (by decide) 5 rfl rfl) rfl rfl hl.1 rfl (lv_room (Nat.le_of_ble_eq_true rfl)) dX6_fewestSwaps_23 ⟨(Nat.le_of_ble_eq_true rfl), (Nat.le_of_ble_eq_true rfl)⟩) hP hD hS hA [2, 3, 4, 0, 1] [] rfl rfl (by decide) (by decide) (fun r12 u H locs hw hP hD hS => ?_)
    obtain ⟨o15, o16, o17⟩ := u
    have ex : (r12, o15, o16, o17) = xx14 := Option.some.inj (hw.symm.trans hc13)
    subst ex
    have h := pw_u4_e h
    have hP : va_P (dC, dI) vwCl [(a_p0, .inr (5, [.ref a10, .ref a11, .int o15])), (a10, .inl (cI, o7, .inl o16)), (a11, .inl (cI, o9, .inl o17)), (a_p1, .inr (2, [.ref a_p1_seatings, .int p1_listed, .int p1_size])), (a_p1_seatings, .inl (cI, p1_seatings_n, .inl p1_seatings_v))] H := hP
    have hD : va_D A [(a_p0, .inr (5, [.ref a10, .ref a11, .int o15])), (a10, .inl (cI, o7, .inl o16)), (a11, .inl (cI, o9, .inl o17)), (a_p1, .inr (2, [.ref a_p1_seatings, .int p1_listed, .int p1_size])), (a_p1_seatings, .inl (cI, p1_seatings_n, .inl p1_seatings_v))] := hD
    refine lv_if_eq (tgt := 31) hx hb dX6_fewestSwaps_26 (by decide) (fun c18 => ?_) (fun c18 => ?_)
    · have h := pw_cd_p c18 h
      refine lv_iconst (v := 0) hx hb dX6_fewestSwaps_31 (by decide) ?_
      refine lv_istore (lv' := [(5, .int 0), (0, .ref a_p0), (1, .ref a_p1), (2, .int x2), (3, .int x3), (4, .int x4)]) hx hb dX6_fewestSwaps_32 hl (by decide) rfl (fun ls hl => ?_)
      have hl := lv_sub (l' := [(0, .ref a_p0), (1, .ref a_p1), (2, .int x2), (4, .int x4), (5, .int 0)]) hl [1, 2, 3, 5, 0] rfl
      obtain ⟨xx38, hL39, h⟩ := pw_bs_e h
      refine lw_X6_fewestSwaps_34 hx hb hml hown hts hA hK a_p0 a10 a11 a_p1 a_p1_seatings x2 x4 o7 o9 p1_listed p1_size p1_seatings_v p1_seatings_n pw_FU 0 o15 o16 o17 xx38 hL39 ⟨?_, ?_⟩ _ locs ls hP hD hS hl
      · intro y40 y41 y42 y43 ex H locs ls hP hD hS hl
        subst ex
        have h := pw_sl_e h
        have h := pw_u4_e h
        refine lv_iload hx hb dX6_fewestSwaps_91 (lv_at hl 0 rfl) ?_
        rw [hQ]
        refine W.widen (k := 2) (n := 1440) (by decide) (by decide) ?_
        exact W.iret (v := y40) hx hb hr (fun t ht hW => ⟨⟨y40, (a10, a11, y41, y42, o7, y43, o9), rfl, hc.trans h.symm, by rw [ht]; exact hP, va_K.moved hW.alike hK, hD⟩, hS.F ht⟩) hS.2.2 dX6_fewestSwaps_93
      · intro y44 y45 y46 ex H locs ls hP hD hS hl
        subst ex
        have h := pw_sr_e h
        have h := pw_u3_e h
        refine lv_bipush (v := (-9)) hx hb dX6_fewestSwaps_100 (by decide) ?_
        rw [hQ]
        refine W.widen (k := 2) (n := 1440) (by decide) (by decide) ?_
        exact W.iret (v := (-9)) hx hb hr (fun t ht hW => ⟨⟨(-9), (a10, a11, y44, y45, o7, y46, o9), rfl, hc.trans h.symm, by rw [ht]; exact hP, va_K.moved hW.alike hK, hD⟩, hS.F ht⟩) hS.2.2 dX6_fewestSwaps_102
    · have h := pw_cd_n c18 h
      refine lv_iconst (v := 1) hx hb dX6_fewestSwaps_29 (by decide) ?_
      rw [hQ]
      refine W.widen (k := 2) (n := 1440) (by decide) (by decide) ?_
      exact W.iret (v := 1) hx hb hr (fun t ht hW => ⟨⟨1, (a10, a11, o15, o16, o7, o17, o9), rfl, hc.trans h.symm, by rw [ht]; exact hP, va_K.moved hW.alike hK, hD⟩, hS.F ht⟩) hS.2.2 dX6_fewestSwaps_30
  · have h := pw_cd_n (fun q => q c1) h
    refine lv_iconst (v := 0) hx hb dX6_fewestSwaps_6 (by decide) ?_
    rw [hQ]
    refine W.widen (k := 2) (n := 1440) (by decide) (by decide) ?_
    exact W.iret (v := 0) hx hb hr (fun t ht hW => ⟨⟨0, (a_p0_queue, a_p0_swaps, p0_queued, p0_queue_v, p0_queue_n, p0_swaps_v, p0_swaps_n), rfl, hc.trans h.symm, by rw [ht]; exact hP, va_K.moved hW.alike hK, hD⟩, hS.F ht⟩) hS.2.2 dX6_fewestSwaps_7
