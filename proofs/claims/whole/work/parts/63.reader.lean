/-! X5_freeBeside -/
theorem li_X5_freeBeside_X4 : ∀ w ∈ u_ws RX4 TX4 10, w ∈ wsX5_freeBeside := fun w h => List.mem_cons_of_mem _ (List.mem_append_left _ (List.mem_append_right _ h))
theorem lk_X5_freeBeside_76 : Cond.fieldLink RX5 76 "NoWifeBeside$Party" "people" "I" ∈ wsX5_freeBeside := by decide +kernel
theorem li_X5_freeBeside_X5 : ∀ w ∈ u_ws RX5 TX5 4, w ∈ wsX5_freeBeside := fun w h => List.mem_cons_of_mem _ (List.mem_append_right _ h)
theorem lk_X5_freeBeside_15 : Cond.fieldLink RX5 15 "NoWifeBeside$Reader" "kind" "I" ∈ wsX5_freeBeside := by decide +kernel
theorem lk_X5_freeBeside_99 : Cond.fieldLink RX5 99 "NoWifeBeside$Party" "worths" "[I" ∈ wsX5_freeBeside := by decide +kernel
theorem lk_X5_freeBeside_86 : Cond.fieldLink RX5 86 "NoWifeBeside$Party" "quarrels" "J" ∈ wsX5_freeBeside := by decide +kernel
theorem lk_X5_freeBeside_96 : Cond.fieldLink RX5 96 "NoWifeBeside$Party" "togethers" "J" ∈ wsX5_freeBeside := by decide +kernel
abbrev rm_X5_freeBeside : Room := { frames := 1, cells := 0, slots := 0, locals := 22 }
set_option maxRecDepth 100000 in
set_option maxHeartbeats 4000000 in
theorem lw_X5_freeBeside_45 {p : Program} {l : Launch} {e : Env} {s : State} {m : MethodId} {args : Array Value} {below : List Frame} {meth : Method} {c : Code} {Q : State → Prop} {dC : Nat → ClassId} {dI : Nat → Nat → Nat} {cI cZ : ClassId} {A : Nat → Prop} (hx : p.tables.exec = Jvm.exec) (hb : c.code = cX5_freeBeside) (hml : c.maxLocals = 5) (hown : s.vm.findClass RX5 = some m.cls) (hts : ∀ w ∈ wsX5_freeBeside, w.before args s = true) (hA : ∀ q : Nat, s.heap.size ≤ q → A q) (hK : va_K (dC, dI) vwCl [(cI, .int), (cZ, .boolean)] s) (a_p0 : Nat) (a_p1 : Nat) (a_p1_worths : Nat) (l2 : Int32) (p0_stage : Int32) (p0_kind : Int32) (p0_first : Int32) (p0_second : Int32) (p1_round : Int32) (p1_byTurns : Int32) (p1_apart : Int32) (p1_people : Int32) (p1_women : Int32) (p1_couples : Int64) (p1_quarrels : Int64) (p1_togethers : Int64) (p1_barred : Int64) (p1_worths_v : Nat → Int32) :
    ∀ (n : Nat) (l3 : Int32) (l4 : Int32) (xx : Int32), lf_X5_freeBeside_45 l2 p1_people p1_worths_v n l3 l4 = some xx → ((∀ (e_l3 : Int32), e_l3 = xx → ∀ (H : Heap) (locs : List Loc) (ls : Array Slot), va_P (dC, dI) vwCl [(a_p0, .inr (4, [.int p0_stage, .int p0_kind, .int p0_first, .int p0_second])), (a_p1, .inr (3, [.int p1_round, .int p1_byTurns, .int p1_apart, .int p1_people, .int p1_women, .long p1_couples, .long p1_quarrels, .long p1_togethers, .long p1_barred, .ref a_p1_worths])), (a_p1_worths, .inl (cI, 64, .inl p1_worths_v))] H → va_D A [(a_p0, .inr (4, [.int p0_stage, .int p0_kind, .int p0_first, .int p0_second])), (a_p1, .inr (3, [.int p1_round, .int p1_byTurns, .int p1_apart, .int p1_people, .int p1_women, .long p1_couples, .long p1_quarrels, .long p1_togethers, .long p1_barred, .ref a_p1_worths])), (a_p1_worths, .inl (cI, 64, .inl p1_worths_v))] → va_S A s.heap H locs → lv_has ls 5 [(3, .int e_l3)] → W p l e rm_X5_freeBeside s m args below meth c H locs 0 0 Q (F0 m 90 ls []))) → ∀ (H : Heap) (locs : List Loc) (ls : Array Slot), va_P (dC, dI) vwCl [(a_p0, .inr (4, [.int p0_stage, .int p0_kind, .int p0_first, .int p0_second])), (a_p1, .inr (3, [.int p1_round, .int p1_byTurns, .int p1_apart, .int p1_people, .int p1_women, .long p1_couples, .long p1_quarrels, .long p1_togethers, .long p1_barred, .ref a_p1_worths])), (a_p1_worths, .inl (cI, 64, .inl p1_worths_v))] H → va_D A [(a_p0, .inr (4, [.int p0_stage, .int p0_kind, .int p0_first, .int p0_second])), (a_p1, .inr (3, [.int p1_round, .int p1_byTurns, .int p1_apart, .int p1_people, .int p1_women, .long p1_couples, .long p1_quarrels, .long p1_togethers, .long p1_barred, .ref a_p1_worths])), (a_p1_worths, .inl (cI, 64, .inl p1_worths_v))] → va_S A s.heap H locs → lv_has ls 5 [(1, .ref a_p1), (2, .int l2), (3, .int l3), (4, .int l4)] → W p l e rm_X5_freeBeside s m args below meth c H locs 0 0 Q (F0 m 45 ls []) := by
  intro n
  induction n with
  | zero =>
    intro l3 l4 xx h
    rw [lf_X5_freeBeside_45] at h
    cases h
  | succ n ih =>
    intro l3 l4 xx h KK H locs ls hP hD hS hl
    rw [lf_X5_freeBeside_45] at h
    refine lv_iload hx hb dX5_freeBeside_45 (lv_at hl 3 rfl) ?_
    refine lv_aload_n hx hb dX5_freeBeside_47 rfl (lv_at hl 0 rfl) ?_
    refine va_get (D := (dC, dI)) (ci := 3) (v := .int p1_people) (C := RX4) (T := TX4) (N := 10) hx hb hts li_X5_freeBeside_X4 hown hK hP 1 rfl rfl 3 (by decide) (hts _ lk_X5_freeBeside_76) (fun _ h9 => h9) rfl dX5_freeBeside_48 ?_
    refine lv_icmp_ge (tgt := 90) hx hb dX5_freeBeside_51 (by decide) (fun c3 => ?_) (fun c3 => ?_)
    · have h := pw_cd_p c3 h
      have hl := lv_sub (l' := [(3, .int l3)]) hl [2] rfl
      exact KK l3 (Option.some.inj h) _ locs ls hP hD hS hl
    · have h := pw_cd_n c3 h
      refine lv_iload hx hb dX5_freeBeside_54 (lv_at hl 3 rfl) ?_
      refine lv_bipush (v := 7) hx hb dX5_freeBeside_56 (by decide) ?_
      refine lv_icmp_ge (tgt := 90) hx hb dX5_freeBeside_58 (by decide) (fun c4 => ?_) (fun c4 => ?_)
      · have h := pw_cd_p c4 h
        have hl := lv_sub (l' := [(3, .int l3)]) hl [2] rfl
        exact KK l3 (Option.some.inj h) _ locs ls hP hD hS hl
      · have h := pw_cd_n c4 h
        refine lv_aload_n hx hb dX5_freeBeside_61 rfl (lv_at hl 0 rfl) ?_
        refine va_get (D := (dC, dI)) (ci := 3) (v := .ref a_p1_worths) (C := RX4) (T := TX4) (N := 10) hx hb hts li_X5_freeBeside_X4 hown hK hP 1 rfl rfl 9 (by decide) (hts _ lk_X5_freeBeside_99) (fun _ h9 => h9) rfl dX5_freeBeside_62 ?_
        refine lv_iload_n hx hb dX5_freeBeside_65 rfl (lv_at hl 1 rfl) ?_
        refine lv_iload hx hb dX5_freeBeside_66 (lv_at hl 3 rfl) ?_
        refine pw_ci (wr := [(a_p0, .inr (4, [.int p0_stage, .int p0_kind, .int p0_first, .int p0_second])), (a_p1, .inr (3, [.int p1_round, .int p1_byTurns, .int p1_apart, .int p1_people, .int p1_women, .long p1_couples, .long p1_quarrels, .long p1_togethers, .long p1_barred, .ref a_p1_worths])), (a_p1_worths, .inl (cI, 64, .inl p1_worths_v))]) (va_runS (As := [.int l2, .int l4]) (rest := [.ref a_p1_worths]) ⟨hx, hb, hml, hown, hts⟩ (c_X3_cell l dC dI cI cZ H.size l2 l4) (va_cwS 2 hts gX5_freeBeside_X3_cell rfl rfl rfl (by decide +kernel) ⟨(Nat.le_of_ble_eq_true rfl), (Nat.le_of_ble_eq_true rfl)⟩) (pw_preS hK hP hD [] rfl rfl (by decide)) rfl rfl hl.1 rfl (lv_room (Nat.le_of_ble_eq_true rfl)) dX5_freeBeside_68 ⟨(Nat.le_of_ble_eq_true rfl), (Nat.le_of_ble_eq_true rfl)⟩) hP hD hS hA [] [0, 1, 2] rfl rfl (by decide) (by decide) (fun r5 u H locs hw hP hD hS => ?_)
        have h := pw_lt_e hw h
        have hP : va_P (dC, dI) vwCl [(a_p0, .inr (4, [.int p0_stage, .int p0_kind, .int p0_first, .int p0_second])), (a_p1, .inr (3, [.int p1_round, .int p1_byTurns, .int p1_apart, .int p1_people, .int p1_women, .long p1_couples, .long p1_quarrels, .long p1_togethers, .long p1_barred, .ref a_p1_worths])), (a_p1_worths, .inl (cI, 64, .inl p1_worths_v))] H := hP
        have hD : va_D A [(a_p0, .inr (4, [.int p0_stage, .int p0_kind, .int p0_first, .int p0_second])), (a_p1, .inr (3, [.int p1_round, .int p1_byTurns, .int p1_apart, .int p1_people, .int p1_women, .long p1_couples, .long p1_quarrels, .long p1_togethers, .long p1_barred, .ref a_p1_worths])), (a_p1_worths, .inl (cI, 64, .inl p1_worths_v))] := hD
        obtain ⟨g8, h⟩ := pw_gd_e h
        refine va_iald hx hb hK hP 2 0 rfl rfl g8 dX5_freeBeside_71 ?_
        refine lv_if_eq (tgt := 84) hx hb dX5_freeBeside_72 (by decide) (fun c9 => ?_) (fun c9 => ?_)
        · have h := pw_cd_p c9 h
          refine lv_iinc (v := (l4 + 1)) (lv' := [(4, .int (l4 + 1)), (1, .ref a_p1), (2, .int l2), (3, .int l3)]) hx hb dX5_freeBeside_84 hl (k := 3) rfl rfl (by decide) rfl (fun ls hl => ?_)
          refine lv_goto (tgt := 45) hx hb dX5_freeBeside_87 (by decide) ?_
          have hl := lv_sub (l' := [(1, .ref a_p1), (2, .int l2), (3, .int l3), (4, .int (l4 + 1))]) hl [1, 2, 3, 0] rfl
          exact ih l3 (l4 + 1) xx h KK _ locs ls hP hD hS hl
        · have h := pw_cd_n c9 h
          refine lv_iload_n hx hb dX5_freeBeside_75 rfl (lv_at hl 2 rfl) ?_
          refine lv_iconst (v := 1) hx hb dX5_freeBeside_76 (by decide) ?_
          refine lv_iload hx hb dX5_freeBeside_77 (lv_at hl 3 rfl) ?_
          refine lv_ishl hx hb dX5_freeBeside_79 ?_
          refine lv_iconst (v := (-1)) hx hb dX5_freeBeside_80 (by decide) ?_
          refine lv_ixor hx hb dX5_freeBeside_81 ?_
          refine lv_iand hx hb dX5_freeBeside_82 ?_
          refine lv_topi (fun v10 ev10 => ?_)
          have h := pw_lt_e ev10 h
          refine lv_istore_n (lv' := [(3, .int v10), (1, .ref a_p1), (2, .int l2), (4, .int l4)]) hx hb dX5_freeBeside_83 rfl hl (by decide) rfl (fun ls hl => ?_)
          refine lv_iinc (v := (l4 + 1)) (lv' := [(4, .int (l4 + 1)), (3, .int v10), (1, .ref a_p1), (2, .int l2)]) hx hb dX5_freeBeside_84 hl (k := 3) rfl rfl (by decide) rfl (fun ls hl => ?_)
          refine lv_goto (tgt := 45) hx hb dX5_freeBeside_87 (by decide) ?_
          have hl := lv_sub (l' := [(1, .ref a_p1), (2, .int l2), (3, .int v10), (4, .int (l4 + 1))]) hl [2, 3, 1, 0] rfl
          exact ih v10 (l4 + 1) xx h KK _ locs ls hP hD hS hl
set_option maxRecDepth 100000 in
set_option maxHeartbeats 4000000 in
theorem c_X5_freeBeside (l : Launch) (dC : Nat → ClassId) (dI : Nat → Nat → Nat) (cI cZ : ClassId) (sz : Nat) (a_p0 : Nat) (a_p1 : Nat) (a_p1_worths : Nat) (p0_stage : Int32) (p0_kind : Int32) (p0_first : Int32) (p0_second : Int32) (p1_round : Int32) (p1_byTurns : Int32) (p1_apart : Int32) (p1_people : Int32) (p1_women : Int32) (p1_couples : Int64) (p1_quarrels : Int64) (p1_togethers : Int64) (p1_barred : Int64) (p1_worths_v : Nat → Int32) (x2 : Int32) (xx : Int32) (hc : f_X5_freeBeside x2 p0_kind p1_people p1_quarrels p1_togethers p1_worths_v = some xx) : Met l yX5_freeBeside wsX5_freeBeside rm_X5_freeBeside (va_Pc [.ref a_p0, .ref a_p1, .int x2] (pw_pre (dC, dI) cI cZ [(a_p0, .inr (4, [.int p0_stage, .int p0_kind, .int p0_first, .int p0_second])), (a_p1, .inr (3, [.int p1_round, .int p1_byTurns, .int p1_apart, .int p1_people, .int p1_women, .long p1_couples, .long p1_quarrels, .long p1_togethers, .long p1_barred, .ref a_p1_worths])), (a_p1_worths, .inl (cI, 64, .inl p1_worths_v))] sz)) (va_Qi (fun (r : Int32) (u : Unit) => f_X5_freeBeside x2 p0_kind p1_people p1_quarrels p1_togethers p1_worths_v = some r) (fun u t => pw_post (dC, dI) cI cZ (va_A [(a_p0, .inr (4, [.int p0_stage, .int p0_kind, .int p0_first, .int p0_second])), (a_p1, .inr (3, [.int p1_round, .int p1_byTurns, .int p1_apart, .int p1_people, .int p1_women, .long p1_couples, .long p1_quarrels, .long p1_togethers, .long p1_barred, .ref a_p1_worths])), (a_p1_worths, .inl (cI, 64, .inl p1_worths_v))] sz) [(a_p0, .inr (4, [.int p0_stage, .int p0_kind, .int p0_first, .int p0_second])), (a_p1, .inr (3, [.int p1_round, .int p1_byTurns, .int p1_apart, .int p1_people, .int p1_women, .long p1_couples, .long p1_quarrels, .long p1_togethers, .long p1_barred, .ref a_p1_worths])), (a_p1_worths, .inl (cI, 64, .inl p1_worths_v))] t) (va_A [(a_p0, .inr (4, [.int p0_stage, .int p0_kind, .int p0_first, .int p0_second])), (a_p1, .inr (3, [.int p1_round, .int p1_byTurns, .int p1_apart, .int p1_people, .int p1_women, .long p1_couples, .long p1_quarrels, .long p1_togethers, .long p1_barred, .ref a_p1_worths])), (a_p1_worths, .inl (cI, 64, .inl p1_worths_v))] sz)) 0 0 (va_A [(a_p0, .inr (4, [.int p0_stage, .int p0_kind, .int p0_first, .int p0_second])), (a_p1, .inr (3, [.int p1_round, .int p1_byTurns, .int p1_apart, .int p1_people, .int p1_women, .long p1_couples, .long p1_quarrels, .long p1_togethers, .long p1_barred, .ref a_p1_worths])), (a_p1_worths, .inl (cI, 64, .inl p1_worths_v))] sz) := by
  refine Met.ofW (cc := cX5_freeBeside) (maxL := 5) (ret := (some .int)) (by decide) rfl ?_
  intro p e s m args below meth c s₁ B hml hv
  obtain ⟨rfl, hsz, hP, hK, hD0⟩ := hv
  have hx := B.exec
  have hb := B.bytes
  have hr := B.returns
  have hts := atoms_spec (ws := wsX5_freeBeside) B.pre
  have hown : s.vm.findClass RX5 = some m.cls := findClass_of_methodNamed B.named
  have hlocks := B.notSynchronized
  subst hsz
  have hD := hD0.self (sz := s.heap.size)
  generalize hAe : va_A [(a_p0, .inr (4, [.int p0_stage, .int p0_kind, .int p0_first, .int p0_second])), (a_p1, .inr (3, [.int p1_round, .int p1_byTurns, .int p1_apart, .int p1_people, .int p1_women, .long p1_couples, .long p1_quarrels, .long p1_togethers, .long p1_barred, .ref a_p1_worths])), (a_p1_worths, .inl (cI, 64, .inl p1_worths_v))] s.heap.size = A at hD ⊢
  have hA : ∀ q : Nat, s.heap.size ≤ q → A q := fun q h => by rw [← hAe]; exact Or.inr h
  have hS : va_S A s.heap s.heap [] := va_S.rf
  have hP : va_P (dC, dI) vwCl [(a_p0, .inr (4, [.int p0_stage, .int p0_kind, .int p0_first, .int p0_second])), (a_p1, .inr (3, [.int p1_round, .int p1_byTurns, .int p1_apart, .int p1_people, .int p1_women, .long p1_couples, .long p1_quarrels, .long p1_togethers, .long p1_barred, .ref a_p1_worths])), (a_p1_worths, .inl (cI, 64, .inl p1_worths_v))] s.heap := hP
  have hl := lv_entry ([.ref a_p0, .ref a_p1, .int x2]) (n := 5) (Nat.le_of_ble_eq_true rfl)
  rw [lg_entry_eq]
  generalize (lg_sl ([.ref a_p0, .ref a_p1, .int x2]) ++ List.replicate (5 - (lg_sl ([.ref a_p0, .ref a_p1, .int x2])).length) Slot.unset).toArray = ls at hl ⊢
  have hl : lv_has ls 5 [(0, .ref a_p0), (1, .ref a_p1), (2, .int x2)] := hl
  refine pw_Wq (R := rm_X5_freeBeside) (fun Q hQ => ?_)
  obtain ⟨locs, elocs⟩ : ∃ y : List Loc, y = [] := ⟨_, rfl⟩
  rw [← elocs] at hS ⊢
  have h := hc
  unfold f_X5_freeBeside at h
  refine lv_iconst (v := 1) hx hb dX5_freeBeside_0 (by decide) ?_
  refine lv_aload_n hx hb dX5_freeBeside_1 rfl (lv_at hl 1 rfl) ?_
  refine va_get (D := (dC, dI)) (ci := 3) (v := .int p1_people) (C := RX4) (T := TX4) (N := 10) hx hb hts li_X5_freeBeside_X4 hown hK hP 1 rfl rfl 3 (by decide) (hts _ lk_X5_freeBeside_76) (fun _ h9 => h9) rfl dX5_freeBeside_2 ?_
  refine lv_ishl hx hb dX5_freeBeside_5 ?_
  refine lv_iconst (v := 1) hx hb dX5_freeBeside_6 (by decide) ?_
  refine lv_isub hx hb dX5_freeBeside_7 ?_
  refine lv_iconst (v := 1) hx hb dX5_freeBeside_8 (by decide) ?_
  refine lv_iload_n hx hb dX5_freeBeside_9 rfl (lv_at hl 2 rfl) ?_
  refine lv_ishl hx hb dX5_freeBeside_10 ?_
  refine lv_iconst (v := (-1)) hx hb dX5_freeBeside_11 (by decide) ?_
  refine lv_ixor hx hb dX5_freeBeside_12 ?_
  refine lv_iand hx hb dX5_freeBeside_13 ?_
  refine lv_topi (fun v1 ev1 => ?_)
  have h := pw_lt_e ev1 h
  refine lv_istore_n (lv' := [(3, .int v1), (0, .ref a_p0), (1, .ref a_p1), (2, .int x2)]) hx hb dX5_freeBeside_14 rfl hl (by decide) rfl (fun ls hl => ?_)
  refine lv_aload_n hx hb dX5_freeBeside_15 rfl (lv_at hl 1 rfl) ?_
  refine va_get (D := (dC, dI)) (ci := 4) (v := .int p0_kind) (C := RX5) (T := TX5) (N := 4) hx hb hts li_X5_freeBeside_X5 hown hK hP 0 rfl rfl 1 (by decide) (hts _ lk_X5_freeBeside_15) (fun _ h9 => h9) rfl dX5_freeBeside_16 ?_
  refine lv_bipush (v := 87) hx hb dX5_freeBeside_19 (by decide) ?_
  refine lv_icmp_eq (tgt := 42) hx hb dX5_freeBeside_21 (by decide) (fun c2 => ?_) (fun c2 => ?_)
  · have h := pw_cd_p c2 h
    refine lv_iconst (v := 0) hx hb dX5_freeBeside_42 (by decide) ?_
    refine lv_istore (lv' := [(4, .int 0), (3, .int v1), (0, .ref a_p0), (1, .ref a_p1), (2, .int x2)]) hx hb dX5_freeBeside_43 hl (by decide) rfl (fun ls hl => ?_)
    have hl := lv_sub (l' := [(1, .ref a_p1), (2, .int x2), (3, .int v1), (4, .int 0)]) hl [3, 4, 1, 0] rfl
    obtain ⟨xx11, hL12, h⟩ := pw_bd_e h
    refine lw_X5_freeBeside_45 hx hb hml hown hts hA hK a_p0 a_p1 a_p1_worths x2 p0_stage p0_kind p0_first p0_second p1_round p1_byTurns p1_apart p1_people p1_women p1_couples p1_quarrels p1_togethers p1_barred p1_worths_v pw_FU v1 0 xx11 hL12 ?_ _ locs ls hP hD hS hl
    intro y13 ex H locs ls hP hD hS hl
    subst ex
    have h := pw_u1_e h
    refine lv_iload_n hx hb dX5_freeBeside_90 rfl (lv_at hl 0 rfl) ?_
    rw [hQ]
    exact W.iret (v := y13) hx hb hr (fun t ht hW => ⟨⟨y13, (), rfl, hc.trans h.symm, by rw [ht]; exact hP, va_K.moved hW.alike hK, hD⟩, hS.F ht⟩) hS.2.2 dX5_freeBeside_91
  · have h := pw_cd_n c2 h
    refine lv_iload_n hx hb dX5_freeBeside_24 rfl (lv_at hl 0 rfl) ?_
    refine lv_aload_n hx hb dX5_freeBeside_25 rfl (lv_at hl 2 rfl) ?_
    refine va_get (D := (dC, dI)) (ci := 3) (v := .long p1_quarrels) (C := RX4) (T := TX4) (N := 10) hx hb hts li_X5_freeBeside_X4 hown hK hP 1 rfl rfl 6 (by decide) (hts _ lk_X5_freeBeside_86) (fun _ h9 => h9) rfl dX5_freeBeside_26 ?_
    refine lv_aload_n hx hb dX5_freeBeside_29 rfl (lv_at hl 2 rfl) ?_
    refine va_get (D := (dC, dI)) (ci := 3) (v := .long p1_togethers) (C := RX4) (T := TX4) (N := 10) hx hb hts li_X5_freeBeside_X4 hown hK hP 1 rfl rfl 7 (by decide) (hts _ lk_X5_freeBeside_96) (fun _ h9 => h9) rfl dX5_freeBeside_30 ?_
    refine lv_lor hx hb dX5_freeBeside_33 ?_
    refine lv_iload_n hx hb dX5_freeBeside_34 rfl (lv_at hl 3 rfl) ?_
    refine pw_ci (wr := [(a_p0, .inr (4, [.int p0_stage, .int p0_kind, .int p0_first, .int p0_second])), (a_p1, .inr (3, [.int p1_round, .int p1_byTurns, .int p1_apart, .int p1_people, .int p1_women, .long p1_couples, .long p1_quarrels, .long p1_togethers, .long p1_barred, .ref a_p1_worths])), (a_p1_worths, .inl (cI, 64, .inl p1_worths_v))]) (va_runS (As := [.long (p1_quarrels ||| p1_togethers), .int x2]) (rest := [.int v1]) ⟨hx, hb, hml, hown, hts⟩ (c_X3_rowOf l dC dI cI cZ s.heap.size (p1_quarrels ||| p1_togethers) x2) (va_cwS 2 hts gX5_freeBeside_X3_rowOf rfl rfl rfl (by decide +kernel) ⟨(Nat.le_of_ble_eq_true rfl), (Nat.le_of_ble_eq_true rfl)⟩) (pw_preS hK hP hD [] rfl rfl (by decide)) rfl rfl hl.1 rfl (lv_room (Nat.le_of_ble_eq_true rfl)) dX5_freeBeside_35 ⟨(Nat.le_of_ble_eq_true rfl), (Nat.le_of_ble_eq_true rfl)⟩) hP hD hS hA [] [0, 1, 2] rfl rfl (by decide) (by decide) (fun r14 u H locs hw hP hD hS => ?_)
    have h := pw_lt_e hw h
    have hP : va_P (dC, dI) vwCl [(a_p0, .inr (4, [.int p0_stage, .int p0_kind, .int p0_first, .int p0_second])), (a_p1, .inr (3, [.int p1_round, .int p1_byTurns, .int p1_apart, .int p1_people, .int p1_women, .long p1_couples, .long p1_quarrels, .long p1_togethers, .long p1_barred, .ref a_p1_worths])), (a_p1_worths, .inl (cI, 64, .inl p1_worths_v))] H := hP
    have hD : va_D A [(a_p0, .inr (4, [.int p0_stage, .int p0_kind, .int p0_first, .int p0_second])), (a_p1, .inr (3, [.int p1_round, .int p1_byTurns, .int p1_apart, .int p1_people, .int p1_women, .long p1_couples, .long p1_quarrels, .long p1_togethers, .long p1_barred, .ref a_p1_worths])), (a_p1_worths, .inl (cI, 64, .inl p1_worths_v))] := hD
    refine lv_iconst (v := (-1)) hx hb dX5_freeBeside_38 (by decide) ?_
    refine lv_ixor hx hb dX5_freeBeside_39 ?_
    refine lv_iand hx hb dX5_freeBeside_40 ?_
    rw [hQ]
    exact W.iret (v := (v1 &&& (r14 ^^^ (-1)))) hx hb hr (fun t ht hW => ⟨⟨(v1 &&& (r14 ^^^ (-1))), (), rfl, hc.trans h.symm, by rw [ht]; exact hP, va_K.moved hW.alike hK, hD⟩, hS.F ht⟩) hS.2.2 dX5_freeBeside_41
/-! X5_someAreFree -/
theorem li_X5_someAreFree_X4 : ∀ w ∈ u_ws RX4 TX4 10, w ∈ wsX5_someAreFree := fun w h => List.mem_cons_of_mem _ (List.mem_append_left _ (List.mem_append_right _ h))
theorem lk_X5_someAreFree_76 : Cond.fieldLink RX5 76 "NoWifeBeside$Party" "people" "I" ∈ wsX5_someAreFree := by decide +kernel
abbrev rm_X5_someAreFree : Room := { frames := 2, cells := 0, slots := 0, locals := 46 }
set_option maxRecDepth 100000 in
set_option maxHeartbeats 4000000 in
theorem lw_X5_someAreFree_2 {p : Program} {l : Launch} {e : Env} {s : State} {m : MethodId} {args : Array Value} {below : List Frame} {meth : Method} {c : Code} {Q : State → Prop} {dC : Nat → ClassId} {dI : Nat → Nat → Nat} {cI cZ : ClassId} {A : Nat → Prop} (hx : p.tables.exec = Jvm.exec) (hb : c.code = cX5_someAreFree) (hml : c.maxLocals = 3) (hown : s.vm.findClass RX5 = some m.cls) (hts : ∀ w ∈ wsX5_someAreFree, w.before args s = true) (hA : ∀ q : Nat, s.heap.size ≤ q → A q) (hK : va_K (dC, dI) vwCl [(cI, .int), (cZ, .boolean)] s) (a_p0 : Nat) (a_p1 : Nat) (a_p1_worths : Nat) (p0_stage : Int32) (p0_kind : Int32) (p0_first : Int32) (p0_second : Int32) (p1_round : Int32) (p1_byTurns : Int32) (p1_apart : Int32) (p1_people : Int32) (p1_women : Int32) (p1_couples : Int64) (p1_quarrels : Int64) (p1_togethers : Int64) (p1_barred : Int64) (p1_worths_v : Nat → Int32) :
    ∀ (n : Nat) (l2 : Int32) (xx : (Unit) ⊕ (Unit)), lf_X5_someAreFree_2 p0_kind p1_people p1_quarrels p1_togethers p1_worths_v n l2 = some xx → ((Sum.inl () = xx → ∀ (H : Heap) (locs : List Loc) (ls : Array Slot), va_P (dC, dI) vwCl [(a_p0, .inr (4, [.int p0_stage, .int p0_kind, .int p0_first, .int p0_second])), (a_p1, .inr (3, [.int p1_round, .int p1_byTurns, .int p1_apart, .int p1_people, .int p1_women, .long p1_couples, .long p1_quarrels, .long p1_togethers, .long p1_barred, .ref a_p1_worths])), (a_p1_worths, .inl (cI, 64, .inl p1_worths_v))] H → va_D A [(a_p0, .inr (4, [.int p0_stage, .int p0_kind, .int p0_first, .int p0_second])), (a_p1, .inr (3, [.int p1_round, .int p1_byTurns, .int p1_apart, .int p1_people, .int p1_women, .long p1_couples, .long p1_quarrels, .long p1_togethers, .long p1_barred, .ref a_p1_worths])), (a_p1_worths, .inl (cI, 64, .inl p1_worths_v))] → va_S A s.heap H locs → lv_has ls 3 [] → W p l e rm_X5_someAreFree s m args below meth c H locs 0 0 Q (F0 m 25 ls [])) ∧ (Sum.inr () = xx → ∀ (H : Heap) (locs : List Loc) (ls : Array Slot), va_P (dC, dI) vwCl [(a_p0, .inr (4, [.int p0_stage, .int p0_kind, .int p0_first, .int p0_second])), (a_p1, .inr (3, [.int p1_round, .int p1_byTurns, .int p1_apart, .int p1_people, .int p1_women, .long p1_couples, .long p1_quarrels, .long p1_togethers, .long p1_barred, .ref a_p1_worths])), (a_p1_worths, .inl (cI, 64, .inl p1_worths_v))] H → va_D A [(a_p0, .inr (4, [.int p0_stage, .int p0_kind, .int p0_first, .int p0_second])), (a_p1, .inr (3, [.int p1_round, .int p1_byTurns, .int p1_apart, .int p1_people, .int p1_women, .long p1_couples, .long p1_quarrels, .long p1_togethers, .long p1_barred, .ref a_p1_worths])), (a_p1_worths, .inl (cI, 64, .inl p1_worths_v))] → va_S A s.heap H locs → lv_has ls 3 [] → W p l e rm_X5_someAreFree s m args below meth c H locs 0 0 Q (F0 m 33 ls []))) → ∀ (H : Heap) (locs : List Loc) (ls : Array Slot), va_P (dC, dI) vwCl [(a_p0, .inr (4, [.int p0_stage, .int p0_kind, .int p0_first, .int p0_second])), (a_p1, .inr (3, [.int p1_round, .int p1_byTurns, .int p1_apart, .int p1_people, .int p1_women, .long p1_couples, .long p1_quarrels, .long p1_togethers, .long p1_barred, .ref a_p1_worths])), (a_p1_worths, .inl (cI, 64, .inl p1_worths_v))] H → va_D A [(a_p0, .inr (4, [.int p0_stage, .int p0_kind, .int p0_first, .int p0_second])), (a_p1, .inr (3, [.int p1_round, .int p1_byTurns, .int p1_apart, .int p1_people, .int p1_women, .long p1_couples, .long p1_quarrels, .long p1_togethers, .long p1_barred, .ref a_p1_worths])), (a_p1_worths, .inl (cI, 64, .inl p1_worths_v))] → va_S A s.heap H locs → lv_has ls 3 [(0, .ref a_p0), (1, .ref a_p1), (2, .int l2)] → W p l e rm_X5_someAreFree s m args below meth c H locs 0 0 Q (F0 m 2 ls []) := by
  intro n
  induction n with
  | zero =>
    intro l2 xx h
    rw [lf_X5_someAreFree_2] at h
    cases h
  | succ n ih =>
    intro l2 xx h KK H locs ls hP hD hS hl
    rw [lf_X5_someAreFree_2] at h
    refine lv_iload_n hx hb dX5_someAreFree_2 rfl (lv_at hl 2 rfl) ?_
    refine lv_aload_n hx hb dX5_someAreFree_3 rfl (lv_at hl 1 rfl) ?_
    refine va_get (D := (dC, dI)) (ci := 3) (v := .int p1_people) (C := RX4) (T := TX4) (N := 10) hx hb hts li_X5_someAreFree_X4 hown hK hP 1 rfl rfl 3 (by decide) (hts _ lk_X5_someAreFree_76) (fun _ h9 => h9) rfl dX5_someAreFree_4 ?_
    refine lv_icmp_ge (tgt := 33) hx hb dX5_someAreFree_7 (by decide) (fun c1 => ?_) (fun c1 => ?_)
    · have h := pw_cd_p c1 h
      have hl := lv_sub (l' := []) hl [] rfl
      exact KK.2 (Option.some.inj h) _ locs ls hP hD hS hl
    · have h := pw_cd_n c1 h
      refine lv_iload_n hx hb dX5_someAreFree_10 rfl (lv_at hl 2 rfl) ?_
      refine lv_bipush (v := 7) hx hb dX5_someAreFree_11 (by decide) ?_
      refine lv_icmp_ge (tgt := 33) hx hb dX5_someAreFree_13 (by decide) (fun c2 => ?_) (fun c2 => ?_)
      · have h := pw_cd_p c2 h
        have hl := lv_sub (l' := []) hl [] rfl
        exact KK.2 (Option.some.inj h) _ locs ls hP hD hS hl
      · have h := pw_cd_n c2 h
        refine lv_aload_n hx hb dX5_someAreFree_16 rfl (lv_at hl 0 rfl) ?_
        refine lv_aload_n hx hb dX5_someAreFree_17 rfl (lv_at hl 1 rfl) ?_
        refine lv_iload_n hx hb dX5_someAreFree_18 rfl (lv_at hl 2 rfl) ?_
        obtain ⟨xx5, hc4, h⟩ := pw_bd_e h
        refine pw_ci (wr := []) (va_runV (As := [.ref a_p1, .int l2]) (rest := []) ⟨hx, hb, hml, hown, hts⟩ (c_X5_freeBeside l dC dI cI cZ H.size a_p0 a_p1 a_p1_worths p0_stage p0_kind p0_first p0_second p1_round p1_byTurns p1_apart p1_people p1_women p1_couples p1_quarrels p1_togethers p1_barred p1_worths_v l2 xx5 hc4) (cwV 2 hts gX5_someAreFree_X5_freeBeside rfl rfl rfl (by decide +kernel) ⟨(Nat.le_of_ble_eq_true rfl), (Nat.le_of_ble_eq_true rfl)⟩) (pw_preV hK hP hD [0, 1, 2] rfl rfl (by decide) 4 rfl rfl) rfl rfl hl.1 rfl (lv_room (Nat.le_of_ble_eq_true rfl)) dX5_someAreFree_19 ⟨(Nat.le_of_ble_eq_true rfl), (Nat.le_of_ble_eq_true rfl)⟩) hP hD hS hA [0, 1, 2] [] rfl rfl (by decide) (by decide) (fun r3 u H locs hw hP hD hS => ?_)
        have ex : r3 = xx5 := Option.some.inj (hw.symm.trans hc4)
        subst ex
        have h := pw_u1_e h
        have hP : va_P (dC, dI) vwCl [(a_p0, .inr (4, [.int p0_stage, .int p0_kind, .int p0_first, .int p0_second])), (a_p1, .inr (3, [.int p1_round, .int p1_byTurns, .int p1_apart, .int p1_people, .int p1_women, .long p1_couples, .long p1_quarrels, .long p1_togethers, .long p1_barred, .ref a_p1_worths])), (a_p1_worths, .inl (cI, 64, .inl p1_worths_v))] H := hP
        have hD : va_D A [(a_p0, .inr (4, [.int p0_stage, .int p0_kind, .int p0_first, .int p0_second])), (a_p1, .inr (3, [.int p1_round, .int p1_byTurns, .int p1_apart, .int p1_people, .int p1_women, .long p1_couples, .long p1_quarrels, .long p1_togethers, .long p1_barred, .ref a_p1_worths])), (a_p1_worths, .inl (cI, 64, .inl p1_worths_v))] := hD
        refine lv_if_eq (tgt := 27) hx hb dX5_someAreFree_22 (by decide) (fun c6 => ?_) (fun c6 => ?_)
        · have h := pw_cd_p c6 h
          refine lv_iinc (v := (l2 + 1)) (lv' := [(2, .int (l2 + 1)), (0, .ref a_p0), (1, .ref a_p1)]) hx hb dX5_someAreFree_27 hl (k := 2) rfl rfl (by decide) rfl (fun ls hl => ?_)
          refine lv_goto (tgt := 2) hx hb dX5_someAreFree_30 (by decide) ?_
          have hl := lv_sub (l' := [(0, .ref a_p0), (1, .ref a_p1), (2, .int (l2 + 1))]) hl [1, 2, 0] rfl
          exact ih (l2 + 1) xx h KK _ locs ls hP hD hS hl
        · have h := pw_cd_n c6 h
          have hl := lv_sub (l' := []) hl [] rfl
          exact KK.1 (Option.some.inj h) _ locs ls hP hD hS hl
set_option maxRecDepth 100000 in
set_option maxHeartbeats 4000000 in
theorem c_X5_someAreFree (l : Launch) (dC : Nat → ClassId) (dI : Nat → Nat → Nat) (cI cZ : ClassId) (sz : Nat) (a_p0 : Nat) (a_p1 : Nat) (a_p1_worths : Nat) (p0_stage : Int32) (p0_kind : Int32) (p0_first : Int32) (p0_second : Int32) (p1_round : Int32) (p1_byTurns : Int32) (p1_apart : Int32) (p1_people : Int32) (p1_women : Int32) (p1_couples : Int64) (p1_quarrels : Int64) (p1_togethers : Int64) (p1_barred : Int64) (p1_worths_v : Nat → Int32) (xx : Int32) (hc : f_X5_someAreFree p0_kind p1_people p1_quarrels p1_togethers p1_worths_v = some xx) : Met l yX5_someAreFree wsX5_someAreFree rm_X5_someAreFree (va_Pc [.ref a_p0, .ref a_p1] (pw_pre (dC, dI) cI cZ [(a_p0, .inr (4, [.int p0_stage, .int p0_kind, .int p0_first, .int p0_second])), (a_p1, .inr (3, [.int p1_round, .int p1_byTurns, .int p1_apart, .int p1_people, .int p1_women, .long p1_couples, .long p1_quarrels, .long p1_togethers, .long p1_barred, .ref a_p1_worths])), (a_p1_worths, .inl (cI, 64, .inl p1_worths_v))] sz)) (va_Qi (fun (r : Int32) (u : Unit) => f_X5_someAreFree p0_kind p1_people p1_quarrels p1_togethers p1_worths_v = some r) (fun u t => pw_post (dC, dI) cI cZ (va_A [(a_p0, .inr (4, [.int p0_stage, .int p0_kind, .int p0_first, .int p0_second])), (a_p1, .inr (3, [.int p1_round, .int p1_byTurns, .int p1_apart, .int p1_people, .int p1_women, .long p1_couples, .long p1_quarrels, .long p1_togethers, .long p1_barred, .ref a_p1_worths])), (a_p1_worths, .inl (cI, 64, .inl p1_worths_v))] sz) [(a_p0, .inr (4, [.int p0_stage, .int p0_kind, .int p0_first, .int p0_second])), (a_p1, .inr (3, [.int p1_round, .int p1_byTurns, .int p1_apart, .int p1_people, .int p1_women, .long p1_couples, .long p1_quarrels, .long p1_togethers, .long p1_barred, .ref a_p1_worths])), (a_p1_worths, .inl (cI, 64, .inl p1_worths_v))] t) (va_A [(a_p0, .inr (4, [.int p0_stage, .int p0_kind, .int p0_first, .int p0_second])), (a_p1, .inr (3, [.int p1_round, .int p1_byTurns, .int p1_apart, .int p1_people, .int p1_women, .long p1_couples, .long p1_quarrels, .long p1_togethers, .long p1_barred, .ref a_p1_worths])), (a_p1_worths, .inl (cI, 64, .inl p1_worths_v))] sz)) 0 0 (va_A [(a_p0, .inr (4, [.int p0_stage, .int p0_kind, .int p0_first, .int p0_second])), (a_p1, .inr (3, [.int p1_round, .int p1_byTurns, .int p1_apart, .int p1_people, .int p1_women, .long p1_couples, .long p1_quarrels, .long p1_togethers, .long p1_barred, .ref a_p1_worths])), (a_p1_worths, .inl (cI, 64, .inl p1_worths_v))] sz) := by
  refine Met.ofW (cc := cX5_someAreFree) (maxL := 3) (ret := (some .boolean)) (by decide) rfl ?_
  intro p e s m args below meth c s₁ B hml hv
  obtain ⟨rfl, hsz, hP, hK, hD0⟩ := hv
  have hx := B.exec
  have hb := B.bytes
  have hr := B.returns
  have hts := atoms_spec (ws := wsX5_someAreFree) B.pre
  have hown : s.vm.findClass RX5 = some m.cls := findClass_of_methodNamed B.named
  have hlocks := B.notSynchronized
  subst hsz
  have hD := hD0.self (sz := s.heap.size)
  generalize hAe : va_A [(a_p0, .inr (4, [.int p0_stage, .int p0_kind, .int p0_first, .int p0_second])), (a_p1, .inr (3, [.int p1_round, .int p1_byTurns, .int p1_apart, .int p1_people, .int p1_women, .long p1_couples, .long p1_quarrels, .long p1_togethers, .long p1_barred, .ref a_p1_worths])), (a_p1_worths, .inl (cI, 64, .inl p1_worths_v))] s.heap.size = A at hD ⊢
  have hA : ∀ q : Nat, s.heap.size ≤ q → A q := fun q h => by rw [← hAe]; exact Or.inr h
  have hS : va_S A s.heap s.heap [] := va_S.rf
  have hP : va_P (dC, dI) vwCl [(a_p0, .inr (4, [.int p0_stage, .int p0_kind, .int p0_first, .int p0_second])), (a_p1, .inr (3, [.int p1_round, .int p1_byTurns, .int p1_apart, .int p1_people, .int p1_women, .long p1_couples, .long p1_quarrels, .long p1_togethers, .long p1_barred, .ref a_p1_worths])), (a_p1_worths, .inl (cI, 64, .inl p1_worths_v))] s.heap := hP
  have hl := lv_entry ([.ref a_p0, .ref a_p1]) (n := 3) (Nat.le_of_ble_eq_true rfl)
  rw [lg_entry_eq]
  generalize (lg_sl ([.ref a_p0, .ref a_p1]) ++ List.replicate (3 - (lg_sl ([.ref a_p0, .ref a_p1])).length) Slot.unset).toArray = ls at hl ⊢
  have hl : lv_has ls 3 [(0, .ref a_p0), (1, .ref a_p1)] := hl
  refine pw_Wq (R := rm_X5_someAreFree) (fun Q hQ => ?_)
  obtain ⟨locs, elocs⟩ : ∃ y : List Loc, y = [] := ⟨_, rfl⟩
  rw [← elocs] at hS ⊢
  have h := hc
  unfold f_X5_someAreFree at h
  refine lv_iconst (v := 0) hx hb dX5_someAreFree_0 (by decide) ?_
  refine lv_istore_n (lv' := [(2, .int 0), (0, .ref a_p0), (1, .ref a_p1)]) hx hb dX5_someAreFree_1 rfl hl (by decide) rfl (fun ls hl => ?_)
  have hl := lv_sub (l' := [(0, .ref a_p0), (1, .ref a_p1), (2, .int 0)]) hl [1, 2, 0] rfl
  obtain ⟨xx7, hL8, h⟩ := pw_bs_e h
  refine lw_X5_someAreFree_2 hx hb hml hown hts hA hK a_p0 a_p1 a_p1_worths p0_stage p0_kind p0_first p0_second p1_round p1_byTurns p1_apart p1_people p1_women p1_couples p1_quarrels p1_togethers p1_barred p1_worths_v pw_FU 0 xx7 hL8 ⟨?_, ?_⟩ _ locs ls hP hD hS hl
  · intro ex H locs ls hP hD hS hl
    subst ex
    have h := pw_sl_e h
    have h := pw_u1_e h
    refine lv_iconst (v := 1) hx hb dX5_someAreFree_25 (by decide) ?_
    rw [hQ]
    exact W.zret (v := 1) hx hb hr rfl (fun t ht hW => ⟨⟨1, (), rfl, hc.trans h.symm, by rw [ht]; exact hP, va_K.moved hW.alike hK, hD⟩, hS.F ht⟩) hS.2.2 dX5_someAreFree_26
  · intro ex H locs ls hP hD hS hl
    subst ex
    have h := pw_sr_e h
    have h := pw_u1_e h
    refine lv_iconst (v := 0) hx hb dX5_someAreFree_33 (by decide) ?_
    rw [hQ]
    exact W.zret (v := 0) hx hb hr rfl (fun t ht hW => ⟨⟨0, (), rfl, hc.trans h.symm, by rw [ht]; exact hP, va_K.moved hW.alike hK, hD⟩, hS.F ht⟩) hS.2.2 dX5_someAreFree_34
/-! X5_acceptsValue -/
theorem li_X5_acceptsValue_X4 : ∀ w ∈ u_ws RX4 TX4 10, w ∈ wsX5_acceptsValue := fun w h => List.mem_cons_of_mem _ (List.mem_append_left _ (List.mem_append_right _ h))
theorem lk_X5_acceptsValue_99 : Cond.fieldLink RX5 99 "NoWifeBeside$Party" "worths" "[I" ∈ wsX5_acceptsValue := by decide +kernel
theorem li_X5_acceptsValue_X5 : ∀ w ∈ u_ws RX5 TX5 4, w ∈ wsX5_acceptsValue := fun w h => List.mem_cons_of_mem _ (List.mem_append_right _ h)
theorem lk_X5_acceptsValue_18 : Cond.fieldLink RX5 18 "NoWifeBeside$Reader" "first" "I" ∈ wsX5_acceptsValue := by decide +kernel
theorem lk_X5_acceptsValue_21 : Cond.fieldLink RX5 21 "NoWifeBeside$Reader" "second" "I" ∈ wsX5_acceptsValue := by decide +kernel
theorem lk_X5_acceptsValue_11 : Cond.fieldLink RX5 11 "NoWifeBeside$Reader" "stage" "I" ∈ wsX5_acceptsValue := by decide +kernel
abbrev rm_X5_acceptsValue : Room := { frames := 1, cells := 0, slots := 0, locals := 21 }
set_option maxRecDepth 100000 in
set_option maxHeartbeats 4000000 in
theorem c_X5_acceptsValue (l : Launch) (dC : Nat → ClassId) (dI : Nat → Nat → Nat) (cI cZ : ClassId) (sz : Nat) (a_p0 : Nat) (a_p1 : Nat) (a_p1_worths : Nat) (p0_stage : Int32) (p0_kind : Int32) (p0_first : Int32) (p0_second : Int32) (p1_round : Int32) (p1_byTurns : Int32) (p1_apart : Int32) (p1_people : Int32) (p1_women : Int32) (p1_couples : Int64) (p1_quarrels : Int64) (p1_togethers : Int64) (p1_barred : Int64) (p1_worths_v : Nat → Int32) (x2 : Int32) (xx : Int32 × Int32 × (Nat → Int32)) (hc : f_X5_acceptsValue x2 p0_stage p0_first p0_second p1_worths_v = some xx) : Met l yX5_acceptsValue wsX5_acceptsValue rm_X5_acceptsValue (va_Pc [.ref a_p0, .ref a_p1, .int x2] (pw_pre (dC, dI) cI cZ [(a_p0, .inr (4, [.int p0_stage, .int p0_kind, .int p0_first, .int p0_second])), (a_p1, .inr (3, [.int p1_round, .int p1_byTurns, .int p1_apart, .int p1_people, .int p1_women, .long p1_couples, .long p1_quarrels, .long p1_togethers, .long p1_barred, .ref a_p1_worths])), (a_p1_worths, .inl (cI, 64, .inl p1_worths_v))] sz)) (va_Qi (fun (r : Int32) (u : Int32 × (Nat → Int32)) => f_X5_acceptsValue x2 p0_stage p0_first p0_second p1_worths_v = some (r, u.1, u.2)) (fun u t => pw_post (dC, dI) cI cZ (va_A [(a_p0, .inr (4, [.int p0_stage, .int p0_kind, .int p0_first, .int p0_second])), (a_p1, .inr (3, [.int p1_round, .int p1_byTurns, .int p1_apart, .int p1_people, .int p1_women, .long p1_couples, .long p1_quarrels, .long p1_togethers, .long p1_barred, .ref a_p1_worths])), (a_p1_worths, .inl (cI, 64, .inl p1_worths_v))] sz) [(a_p0, .inr (4, [.int u.1, .int p0_kind, .int p0_first, .int p0_second])), (a_p1, .inr (3, [.int p1_round, .int p1_byTurns, .int p1_apart, .int p1_people, .int p1_women, .long p1_couples, .long p1_quarrels, .long p1_togethers, .long p1_barred, .ref a_p1_worths])), (a_p1_worths, .inl (cI, 64, .inl u.2))] t) (va_A [(a_p0, .inr (4, [.int p0_stage, .int p0_kind, .int p0_first, .int p0_second])), (a_p1, .inr (3, [.int p1_round, .int p1_byTurns, .int p1_apart, .int p1_people, .int p1_women, .long p1_couples, .long p1_quarrels, .long p1_togethers, .long p1_barred, .ref a_p1_worths])), (a_p1_worths, .inl (cI, 64, .inl p1_worths_v))] sz)) 0 0 (va_A [(a_p0, .inr (4, [.int p0_stage, .int p0_kind, .int p0_first, .int p0_second])), (a_p1, .inr (3, [.int p1_round, .int p1_byTurns, .int p1_apart, .int p1_people, .int p1_women, .long p1_couples, .long p1_quarrels, .long p1_togethers, .long p1_barred, .ref a_p1_worths])), (a_p1_worths, .inl (cI, 64, .inl p1_worths_v))] sz) := by
  refine Met.ofW (cc := cX5_acceptsValue) (maxL := 3) (ret := (some .boolean)) (by decide) rfl ?_
  intro p e s m args below meth c s₁ B hml hv
  obtain ⟨rfl, hsz, hP, hK, hD0⟩ := hv
  have hx := B.exec
  have hb := B.bytes
  have hr := B.returns
  have hts := atoms_spec (ws := wsX5_acceptsValue) B.pre
  have hown : s.vm.findClass RX5 = some m.cls := findClass_of_methodNamed B.named
  have hlocks := B.notSynchronized
  subst hsz
  have hD := hD0.self (sz := s.heap.size)
  generalize hAe : va_A [(a_p0, .inr (4, [.int p0_stage, .int p0_kind, .int p0_first, .int p0_second])), (a_p1, .inr (3, [.int p1_round, .int p1_byTurns, .int p1_apart, .int p1_people, .int p1_women, .long p1_couples, .long p1_quarrels, .long p1_togethers, .long p1_barred, .ref a_p1_worths])), (a_p1_worths, .inl (cI, 64, .inl p1_worths_v))] s.heap.size = A at hD ⊢
  have hA : ∀ q : Nat, s.heap.size ≤ q → A q := fun q h => by rw [← hAe]; exact Or.inr h
  have hS : va_S A s.heap s.heap [] := va_S.rf
  have hP : va_P (dC, dI) vwCl [(a_p0, .inr (4, [.int p0_stage, .int p0_kind, .int p0_first, .int p0_second])), (a_p1, .inr (3, [.int p1_round, .int p1_byTurns, .int p1_apart, .int p1_people, .int p1_women, .long p1_couples, .long p1_quarrels, .long p1_togethers, .long p1_barred, .ref a_p1_worths])), (a_p1_worths, .inl (cI, 64, .inl p1_worths_v))] s.heap := hP
  have hl := lv_entry ([.ref a_p0, .ref a_p1, .int x2]) (n := 3) (Nat.le_of_ble_eq_true rfl)
  rw [lg_entry_eq]
  generalize (lg_sl ([.ref a_p0, .ref a_p1, .int x2]) ++ List.replicate (3 - (lg_sl ([.ref a_p0, .ref a_p1, .int x2])).length) Slot.unset).toArray = ls at hl ⊢
  have hl : lv_has ls 3 [(0, .ref a_p0), (1, .ref a_p1), (2, .int x2)] := hl
  refine pw_Wq (R := rm_X5_acceptsValue) (fun Q hQ => ?_)
  obtain ⟨locs, elocs⟩ : ∃ y : List Loc, y = [] := ⟨_, rfl⟩
  rw [← elocs] at hS ⊢
  have h := hc
  unfold f_X5_acceptsValue at h
  refine lv_iload_n hx hb dX5_acceptsValue_0 rfl (lv_at hl 2 rfl) ?_
  refine lv_iconst (v := 1) hx hb dX5_acceptsValue_1 (by decide) ?_
  refine lv_icmp_lt (tgt := 11) hx hb dX5_acceptsValue_2 (by decide) (fun c1 => ?_) (fun c1 => ?_)
  · have h := pw_cd_p c1 h
    refine lv_iconst (v := 0) hx hb dX5_acceptsValue_11 (by decide) ?_
    rw [hQ]
    exact W.zret (v := 0) hx hb hr rfl (fun t ht hW => ⟨⟨0, (p0_stage, p1_worths_v), rfl, hc.trans h.symm, by rw [ht]; exact hP, va_K.moved hW.alike hK, hD⟩, hS.F ht⟩) hS.2.2 dX5_acceptsValue_12
  · have h := pw_cd_n c1 h
    refine lv_iload_n hx hb dX5_acceptsValue_5 rfl (lv_at hl 2 rfl) ?_
    refine lv_bipush (v := 9) hx hb dX5_acceptsValue_6 (by decide) ?_
    refine lv_icmp_le (tgt := 13) hx hb dX5_acceptsValue_8 (by decide) (fun c2 => ?_) (fun c2 => ?_)
    · have h := pw_cd_p c2 h
      refine lv_aload_n hx hb dX5_acceptsValue_13 rfl (lv_at hl 1 rfl) ?_
      refine va_get (D := (dC, dI)) (ci := 3) (v := .ref a_p1_worths) (C := RX4) (T := TX4) (N := 10) hx hb hts li_X5_acceptsValue_X4 hown hK hP 1 rfl rfl 9 (by decide) (hts _ lk_X5_acceptsValue_99) (fun _ h9 => h9) rfl dX5_acceptsValue_14 ?_
      refine lv_aload_n hx hb dX5_acceptsValue_17 rfl (lv_at hl 0 rfl) ?_
      refine va_get (D := (dC, dI)) (ci := 4) (v := .int p0_first) (C := RX5) (T := TX5) (N := 4) hx hb hts li_X5_acceptsValue_X5 hown hK hP 0 rfl rfl 2 (by decide) (hts _ lk_X5_acceptsValue_18) (fun _ h9 => h9) rfl dX5_acceptsValue_18 ?_
      refine lv_aload_n hx hb dX5_acceptsValue_21 rfl (lv_at hl 0 rfl) ?_
      refine va_get (D := (dC, dI)) (ci := 4) (v := .int p0_second) (C := RX5) (T := TX5) (N := 4) hx hb hts li_X5_acceptsValue_X5 hown hK hP 0 rfl rfl 3 (by decide) (hts _ lk_X5_acceptsValue_21) (fun _ h9 => h9) rfl dX5_acceptsValue_22 ?_
      refine pw_ci (wr := [(a_p0, .inr (4, [.int p0_stage, .int p0_kind, .int p0_first, .int p0_second])), (a_p1, .inr (3, [.int p1_round, .int p1_byTurns, .int p1_apart, .int p1_people, .int p1_women, .long p1_couples, .long p1_quarrels, .long p1_togethers, .long p1_barred, .ref a_p1_worths])), (a_p1_worths, .inl (cI, 64, .inl p1_worths_v))]) (va_runS (As := [.int p0_first, .int p0_second]) (rest := [.ref a_p1_worths]) ⟨hx, hb, hml, hown, hts⟩ (c_X3_cell l dC dI cI cZ s.heap.size p0_first p0_second) (va_cwS 2 hts gX5_acceptsValue_X3_cell rfl rfl rfl (by decide +kernel) ⟨(Nat.le_of_ble_eq_true rfl), (Nat.le_of_ble_eq_true rfl)⟩) (pw_preS hK hP hD [] rfl rfl (by decide)) rfl rfl hl.1 rfl (lv_room (Nat.le_of_ble_eq_true rfl)) dX5_acceptsValue_25 ⟨(Nat.le_of_ble_eq_true rfl), (Nat.le_of_ble_eq_true rfl)⟩) hP hD hS hA [] [0, 1, 2] rfl rfl (by decide) (by decide) (fun r3 u H locs hw hP hD hS => ?_)
      have h := pw_lt_e hw h
      have hP : va_P (dC, dI) vwCl [(a_p0, .inr (4, [.int p0_stage, .int p0_kind, .int p0_first, .int p0_second])), (a_p1, .inr (3, [.int p1_round, .int p1_byTurns, .int p1_apart, .int p1_people, .int p1_women, .long p1_couples, .long p1_quarrels, .long p1_togethers, .long p1_barred, .ref a_p1_worths])), (a_p1_worths, .inl (cI, 64, .inl p1_worths_v))] H := hP
      have hD : va_D A [(a_p0, .inr (4, [.int p0_stage, .int p0_kind, .int p0_first, .int p0_second])), (a_p1, .inr (3, [.int p1_round, .int p1_byTurns, .int p1_apart, .int p1_people, .int p1_women, .long p1_couples, .long p1_quarrels, .long p1_togethers, .long p1_barred, .ref a_p1_worths])), (a_p1_worths, .inl (cI, 64, .inl p1_worths_v))] := hD
      refine lv_iload_n hx hb dX5_acceptsValue_28 rfl (lv_at hl 2 rfl) ?_
      obtain ⟨g6, h⟩ := pw_gd_e h
      refine va_iast hx hb hK hP hD hS 2 0 rfl rfl g6 dX5_acceptsValue_29 (fun H locs hP hD hS => ?_)
      obtain ⟨f7, ef7⟩ : ∃ y : Nat → Int32, y = (upd p1_worths_v (Int32.toNatClampNeg r3) x2) := ⟨_, rfl⟩
      have h := pw_lt_e ef7 h
      rw [← ef7] at hP hD
      have hP : va_P (dC, dI) vwCl [(a_p0, .inr (4, [.int p0_stage, .int p0_kind, .int p0_first, .int p0_second])), (a_p1, .inr (3, [.int p1_round, .int p1_byTurns, .int p1_apart, .int p1_people, .int p1_women, .long p1_couples, .long p1_quarrels, .long p1_togethers, .long p1_barred, .ref a_p1_worths])), (a_p1_worths, .inl (cI, 64, .inl f7))] H := hP
      have hD : va_D A [(a_p0, .inr (4, [.int p0_stage, .int p0_kind, .int p0_first, .int p0_second])), (a_p1, .inr (3, [.int p1_round, .int p1_byTurns, .int p1_apart, .int p1_people, .int p1_women, .long p1_couples, .long p1_quarrels, .long p1_togethers, .long p1_barred, .ref a_p1_worths])), (a_p1_worths, .inl (cI, 64, .inl f7))] := hD
      refine lv_aload_n hx hb dX5_acceptsValue_30 rfl (lv_at hl 0 rfl) ?_
      refine lv_iconst (v := 4) hx hb dX5_acceptsValue_31 (by decide) ?_
      refine va_put (D := (dC, dI)) (ci := 4) (v := .int 4) (ty := .int) (C := RX5) (T := TX5) (N := 4) hx hb hts li_X5_acceptsValue_X5 tyX5 tyX5_ok nmX5 hown hK hP hD hS 0 rfl rfl 0 (by decide) (hts _ lk_X5_acceptsValue_11) (fun _ h9 => h9) rfl (by decide +kernel) rfl rfl (Nat.le_of_ble_eq_true rfl) dX5_acceptsValue_32 (fun H locs hP hD hS => ?_)
      have hP : va_P (dC, dI) vwCl [(a_p0, .inr (4, [.int 4, .int p0_kind, .int p0_first, .int p0_second])), (a_p1, .inr (3, [.int p1_round, .int p1_byTurns, .int p1_apart, .int p1_people, .int p1_women, .long p1_couples, .long p1_quarrels, .long p1_togethers, .long p1_barred, .ref a_p1_worths])), (a_p1_worths, .inl (cI, 64, .inl f7))] H := hP
      have hD : va_D A [(a_p0, .inr (4, [.int 4, .int p0_kind, .int p0_first, .int p0_second])), (a_p1, .inr (3, [.int p1_round, .int p1_byTurns, .int p1_apart, .int p1_people, .int p1_women, .long p1_couples, .long p1_quarrels, .long p1_togethers, .long p1_barred, .ref a_p1_worths])), (a_p1_worths, .inl (cI, 64, .inl f7))] := hD
      refine lv_iconst (v := 1) hx hb dX5_acceptsValue_35 (by decide) ?_
      rw [hQ]
      exact W.zret (v := 1) hx hb hr rfl (fun t ht hW => ⟨⟨1, (4, f7), rfl, hc.trans h.symm, by rw [ht]; exact hP, va_K.moved hW.alike hK, hD⟩, hS.F ht⟩) hS.2.2 dX5_acceptsValue_36
    · have h := pw_cd_n c2 h
      refine lv_iconst (v := 0) hx hb dX5_acceptsValue_11 (by decide) ?_
      rw [hQ]
      exact W.zret (v := 0) hx hb hr rfl (fun t ht hW => ⟨⟨0, (p0_stage, p1_worths_v), rfl, hc.trans h.symm, by rw [ht]; exact hP, va_K.moved hW.alike hK, hD⟩, hS.F ht⟩) hS.2.2 dX5_acceptsValue_12
/-! X5_acceptsSecond -/
theorem li_X5_acceptsSecond_X5 : ∀ w ∈ u_ws RX5 TX5 4, w ∈ wsX5_acceptsSecond := fun w h => List.mem_cons_of_mem _ (List.mem_append_left _ (List.mem_append_right _ h))
theorem lk_X5_acceptsSecond_18 : Cond.fieldLink RX5 18 "NoWifeBeside$Reader" "first" "I" ∈ wsX5_acceptsSecond := by decide +kernel
theorem lk_X5_acceptsSecond_21 : Cond.fieldLink RX5 21 "NoWifeBeside$Reader" "second" "I" ∈ wsX5_acceptsSecond := by decide +kernel
theorem lk_X5_acceptsSecond_11 : Cond.fieldLink RX5 11 "NoWifeBeside$Reader" "stage" "I" ∈ wsX5_acceptsSecond := by decide +kernel
theorem lk_X5_acceptsSecond_15 : Cond.fieldLink RX5 15 "NoWifeBeside$Reader" "kind" "I" ∈ wsX5_acceptsSecond := by decide +kernel
theorem li_X5_acceptsSecond_X4 : ∀ w ∈ u_ws RX4 TX4 10, w ∈ wsX5_acceptsSecond := fun w h => List.mem_cons_of_mem _ (List.mem_append_right _ h)
theorem lk_X5_acceptsSecond_96 : Cond.fieldLink RX5 96 "NoWifeBeside$Party" "togethers" "J" ∈ wsX5_acceptsSecond := by decide +kernel
theorem lk_X5_acceptsSecond_86 : Cond.fieldLink RX5 86 "NoWifeBeside$Party" "quarrels" "J" ∈ wsX5_acceptsSecond := by decide +kernel
abbrev rm_X5_acceptsSecond : Room := { frames := 2, cells := 0, slots := 0, locals := 46 }
set_option maxRecDepth 100000 in
set_option maxHeartbeats 4000000 in
theorem c_X5_acceptsSecond (l : Launch) (dC : Nat → ClassId) (dI : Nat → Nat → Nat) (cI cZ : ClassId) (sz : Nat) (a_p0 : Nat) (a_p1 : Nat) (a_p1_worths : Nat) (p0_stage : Int32) (p0_kind : Int32) (p0_first : Int32) (p0_second : Int32) (p1_round : Int32) (p1_byTurns : Int32) (p1_apart : Int32) (p1_people : Int32) (p1_women : Int32) (p1_couples : Int64) (p1_quarrels : Int64) (p1_togethers : Int64) (p1_barred : Int64) (p1_worths_v : Nat → Int32) (x2 : Int32) (xx : Int32 × Int32 × Int32 × Int64 × Int64) (hc : f_X5_acceptsSecond x2 p0_stage p0_kind p0_first p0_second p1_people p1_quarrels p1_togethers p1_worths_v = some xx) : Met l yX5_acceptsSecond wsX5_acceptsSecond rm_X5_acceptsSecond (va_Pc [.ref a_p0, .ref a_p1, .int x2] (pw_pre (dC, dI) cI cZ [(a_p0, .inr (4, [.int p0_stage, .int p0_kind, .int p0_first, .int p0_second])), (a_p1, .inr (3, [.int p1_round, .int p1_byTurns, .int p1_apart, .int p1_people, .int p1_women, .long p1_couples, .long p1_quarrels, .long p1_togethers, .long p1_barred, .ref a_p1_worths])), (a_p1_worths, .inl (cI, 64, .inl p1_worths_v))] sz)) (va_Qi (fun (r : Int32) (u : Int32 × Int32 × Int64 × Int64) => f_X5_acceptsSecond x2 p0_stage p0_kind p0_first p0_second p1_people p1_quarrels p1_togethers p1_worths_v = some (r, u.1, u.2.1, u.2.2.1, u.2.2.2)) (fun u t => pw_post (dC, dI) cI cZ (va_A [(a_p0, .inr (4, [.int p0_stage, .int p0_kind, .int p0_first, .int p0_second])), (a_p1, .inr (3, [.int p1_round, .int p1_byTurns, .int p1_apart, .int p1_people, .int p1_women, .long p1_couples, .long p1_quarrels, .long p1_togethers, .long p1_barred, .ref a_p1_worths])), (a_p1_worths, .inl (cI, 64, .inl p1_worths_v))] sz) [(a_p0, .inr (4, [.int u.1, .int p0_kind, .int p0_first, .int u.2.1])), (a_p1, .inr (3, [.int p1_round, .int p1_byTurns, .int p1_apart, .int p1_people, .int p1_women, .long p1_couples, .long u.2.2.1, .long u.2.2.2, .long p1_barred, .ref a_p1_worths])), (a_p1_worths, .inl (cI, 64, .inl p1_worths_v))] t) (va_A [(a_p0, .inr (4, [.int p0_stage, .int p0_kind, .int p0_first, .int p0_second])), (a_p1, .inr (3, [.int p1_round, .int p1_byTurns, .int p1_apart, .int p1_people, .int p1_women, .long p1_couples, .long p1_quarrels, .long p1_togethers, .long p1_barred, .ref a_p1_worths])), (a_p1_worths, .inl (cI, 64, .inl p1_worths_v))] sz)) 0 0 (va_A [(a_p0, .inr (4, [.int p0_stage, .int p0_kind, .int p0_first, .int p0_second])), (a_p1, .inr (3, [.int p1_round, .int p1_byTurns, .int p1_apart, .int p1_people, .int p1_women, .long p1_couples, .long p1_quarrels, .long p1_togethers, .long p1_barred, .ref a_p1_worths])), (a_p1_worths, .inl (cI, 64, .inl p1_worths_v))] sz) := by
  refine Met.ofW (cc := cX5_acceptsSecond) (maxL := 3) (ret := (some .boolean)) (by decide) rfl ?_
  intro p e s m args below meth c s₁ B hml hv
  obtain ⟨rfl, hsz, hP, hK, hD0⟩ := hv
  have hx := B.exec
  have hb := B.bytes
  have hr := B.returns
  have hts := atoms_spec (ws := wsX5_acceptsSecond) B.pre
  have hown : s.vm.findClass RX5 = some m.cls := findClass_of_methodNamed B.named
  have hlocks := B.notSynchronized
  subst hsz
  have hD := hD0.self (sz := s.heap.size)
  generalize hAe : va_A [(a_p0, .inr (4, [.int p0_stage, .int p0_kind, .int p0_first, .int p0_second])), (a_p1, .inr (3, [.int p1_round, .int p1_byTurns, .int p1_apart, .int p1_people, .int p1_women, .long p1_couples, .long p1_quarrels, .long p1_togethers, .long p1_barred, .ref a_p1_worths])), (a_p1_worths, .inl (cI, 64, .inl p1_worths_v))] s.heap.size = A at hD ⊢
  have hA : ∀ q : Nat, s.heap.size ≤ q → A q := fun q h => by rw [← hAe]; exact Or.inr h
  have hS : va_S A s.heap s.heap [] := va_S.rf
  have hP : va_P (dC, dI) vwCl [(a_p0, .inr (4, [.int p0_stage, .int p0_kind, .int p0_first, .int p0_second])), (a_p1, .inr (3, [.int p1_round, .int p1_byTurns, .int p1_apart, .int p1_people, .int p1_women, .long p1_couples, .long p1_quarrels, .long p1_togethers, .long p1_barred, .ref a_p1_worths])), (a_p1_worths, .inl (cI, 64, .inl p1_worths_v))] s.heap := hP
  have hl := lv_entry ([.ref a_p0, .ref a_p1, .int x2]) (n := 3) (Nat.le_of_ble_eq_true rfl)
  rw [lg_entry_eq]
  generalize (lg_sl ([.ref a_p0, .ref a_p1, .int x2]) ++ List.replicate (3 - (lg_sl ([.ref a_p0, .ref a_p1, .int x2])).length) Slot.unset).toArray = ls at hl ⊢
  have hl : lv_has ls 3 [(0, .ref a_p0), (1, .ref a_p1), (2, .int x2)] := hl
  refine pw_Wq (R := rm_X5_acceptsSecond) (fun Q hQ => ?_)
  obtain ⟨locs, elocs⟩ : ∃ y : List Loc, y = [] := ⟨_, rfl⟩
  rw [← elocs] at hS ⊢
  have h := hc
  unfold f_X5_acceptsSecond at h
  refine lv_aload_n hx hb dX5_acceptsSecond_0 rfl (lv_at hl 1 rfl) ?_
  refine lv_iload_n hx hb dX5_acceptsSecond_1 rfl (lv_at hl 2 rfl) ?_
  refine pw_ci (wr := [(a_p0, .inr (4, [.int p0_stage, .int p0_kind, .int p0_first, .int p0_second])), (a_p1_worths, .inl (cI, 64, .inl p1_worths_v))]) (va_runV (As := [.int x2]) (rest := []) ⟨hx, hb, hml, hown, hts⟩ (c_X4_hasPerson l dC dI cI cZ s.heap.size a_p1 a_p1_worths p1_round p1_byTurns p1_apart p1_people p1_women p1_couples p1_quarrels p1_togethers p1_barred x2) (cwV 1 hts gX5_acceptsSecond_X4_hasPerson rfl rfl rfl (by decide +kernel) ⟨(Nat.le_of_ble_eq_true rfl), (Nat.le_of_ble_eq_true rfl)⟩) (pw_preV hK hP hD [1] rfl rfl (by decide) 3 rfl rfl) rfl rfl hl.1 rfl (lv_room (Nat.le_of_ble_eq_true rfl)) dX5_acceptsSecond_2 ⟨(Nat.le_of_ble_eq_true rfl), (Nat.le_of_ble_eq_true rfl)⟩) hP hD hS hA [1] [0, 2] rfl rfl (by decide) (by decide) (fun r1 u H locs hw hP hD hS => ?_)
  have h := pw_lt_e hw h
  have hP : va_P (dC, dI) vwCl [(a_p0, .inr (4, [.int p0_stage, .int p0_kind, .int p0_first, .int p0_second])), (a_p1_worths, .inl (cI, 64, .inl p1_worths_v)), (a_p1, .inr (3, [.int p1_round, .int p1_byTurns, .int p1_apart, .int p1_people, .int p1_women, .long p1_couples, .long p1_quarrels, .long p1_togethers, .long p1_barred, .ref a_p1_worths]))] H := hP
  have hD : va_D A [(a_p0, .inr (4, [.int p0_stage, .int p0_kind, .int p0_first, .int p0_second])), (a_p1_worths, .inl (cI, 64, .inl p1_worths_v)), (a_p1, .inr (3, [.int p1_round, .int p1_byTurns, .int p1_apart, .int p1_people, .int p1_women, .long p1_couples, .long p1_quarrels, .long p1_togethers, .long p1_barred, .ref a_p1_worths]))] := hD
  refine lv_if_eq (tgt := 24) hx hb dX5_acceptsSecond_5 (by decide) (fun c4 => ?_) (fun c4 => ?_)
  · have h := pw_cd_p c4 h
    refine lv_iconst (v := 0) hx hb dX5_acceptsSecond_24 (by decide) ?_
    have hP := hP.sub (ws' := [(a_p0, .inr (4, [.int p0_stage, .int p0_kind, .int p0_first, .int p0_second])), (a_p1, .inr (3, [.int p1_round, .int p1_byTurns, .int p1_apart, .int p1_people, .int p1_women, .long p1_couples, .long p1_quarrels, .long p1_togethers, .long p1_barred, .ref a_p1_worths])), (a_p1_worths, .inl (cI, 64, .inl p1_worths_v))]) [0, 2, 1] rfl
    have hD := hD.sub (ws' := [(a_p0, .inr (4, [.int p0_stage, .int p0_kind, .int p0_first, .int p0_second])), (a_p1, .inr (3, [.int p1_round, .int p1_byTurns, .int p1_apart, .int p1_people, .int p1_women, .long p1_couples, .long p1_quarrels, .long p1_togethers, .long p1_barred, .ref a_p1_worths])), (a_p1_worths, .inl (cI, 64, .inl p1_worths_v))]) [0, 2, 1] (by decide) rfl
    rw [hQ]
    exact W.zret (v := 0) hx hb hr rfl (fun t ht hW => ⟨⟨0, (p0_stage, p0_second, p1_quarrels, p1_togethers), rfl, hc.trans h.symm, by rw [ht]; exact hP, va_K.moved hW.alike hK, hD⟩, hS.F ht⟩) hS.2.2 dX5_acceptsSecond_25
  · have h := pw_cd_n c4 h
    refine lv_aload_n hx hb dX5_acceptsSecond_8 rfl (lv_at hl 0 rfl) ?_
    refine lv_aload_n hx hb dX5_acceptsSecond_9 rfl (lv_at hl 1 rfl) ?_
    refine lv_aload_n hx hb dX5_acceptsSecond_10 rfl (lv_at hl 0 rfl) ?_
    refine va_get (D := (dC, dI)) (ci := 4) (v := .int p0_first) (C := RX5) (T := TX5) (N := 4) hx hb hts li_X5_acceptsSecond_X5 hown hK hP 0 rfl rfl 2 (by decide) (hts _ lk_X5_acceptsSecond_18) (fun _ h9 => h9) rfl dX5_acceptsSecond_11 ?_
    obtain ⟨xx7, hc6, h⟩ := pw_bd_e h
    refine pw_ci (wr := []) (va_runV (As := [.ref a_p1, .int p0_first]) (rest := []) ⟨hx, hb, hml, hown, hts⟩ (c_X5_freeBeside l dC dI cI cZ H.size a_p0 a_p1 a_p1_worths p0_stage p0_kind p0_first p0_second p1_round p1_byTurns p1_apart p1_people p1_women p1_couples p1_quarrels p1_togethers p1_barred p1_worths_v p0_first xx7 hc6) (cwV 2 hts gX5_acceptsSecond_X5_freeBeside rfl rfl rfl (by decide +kernel) ⟨(Nat.le_of_ble_eq_true rfl), (Nat.le_of_ble_eq_true rfl)⟩) (pw_preV hK hP hD [0, 2, 1] rfl rfl (by decide) 4 rfl rfl) rfl rfl hl.1 rfl (lv_room (Nat.le_of_ble_eq_true rfl)) dX5_acceptsSecond_14 ⟨(Nat.le_of_ble_eq_true rfl), (Nat.le_of_ble_eq_true rfl)⟩) hP hD hS hA [0, 2, 1] [] rfl rfl (by decide) (by decide) (fun r5 u H locs hw hP hD hS => ?_)
    have ex : r5 = xx7 := Option.some.inj (hw.symm.trans hc6)
    subst ex
    have h := pw_u1_e h
    have hP : va_P (dC, dI) vwCl [(a_p0, .inr (4, [.int p0_stage, .int p0_kind, .int p0_first, .int p0_second])), (a_p1, .inr (3, [.int p1_round, .int p1_byTurns, .int p1_apart, .int p1_people, .int p1_women, .long p1_couples, .long p1_quarrels, .long p1_togethers, .long p1_barred, .ref a_p1_worths])), (a_p1_worths, .inl (cI, 64, .inl p1_worths_v))] H := hP
    have hD : va_D A [(a_p0, .inr (4, [.int p0_stage, .int p0_kind, .int p0_first, .int p0_second])), (a_p1, .inr (3, [.int p1_round, .int p1_byTurns, .int p1_apart, .int p1_people, .int p1_women, .long p1_couples, .long p1_quarrels, .long p1_togethers, .long p1_barred, .ref a_p1_worths])), (a_p1_worths, .inl (cI, 64, .inl p1_worths_v))] := hD
    refine lv_iload_n hx hb dX5_acceptsSecond_17 rfl (lv_at hl 2 rfl) ?_
    refine lv_ishr hx hb dX5_acceptsSecond_18 ?_
    refine lv_iconst (v := 1) hx hb dX5_acceptsSecond_19 (by decide) ?_
    refine lv_iand hx hb dX5_acceptsSecond_20 ?_
    refine lv_if_ne (tgt := 26) hx hb dX5_acceptsSecond_21 (by decide) (fun c8 => ?_) (fun c8 => ?_)
    · have h := pw_cd_p c8 h
      refine lv_aload_n hx hb dX5_acceptsSecond_26 rfl (lv_at hl 0 rfl) ?_
      refine lv_iload_n hx hb dX5_acceptsSecond_27 rfl (lv_at hl 2 rfl) ?_
      refine va_put (D := (dC, dI)) (ci := 4) (v := .int x2) (ty := .int) (C := RX5) (T := TX5) (N := 4) hx hb hts li_X5_acceptsSecond_X5 tyX5 tyX5_ok nmX5 hown hK hP hD hS 0 rfl rfl 3 (by decide) (hts _ lk_X5_acceptsSecond_21) (fun _ h9 => h9) rfl (by decide +kernel) rfl rfl (Nat.le_of_ble_eq_true rfl) dX5_acceptsSecond_28 (fun H locs hP hD hS => ?_)
      have hP : va_P (dC, dI) vwCl [(a_p0, .inr (4, [.int p0_stage, .int p0_kind, .int p0_first, .int x2])), (a_p1, .inr (3, [.int p1_round, .int p1_byTurns, .int p1_apart, .int p1_people, .int p1_women, .long p1_couples, .long p1_quarrels, .long p1_togethers, .long p1_barred, .ref a_p1_worths])), (a_p1_worths, .inl (cI, 64, .inl p1_worths_v))] H := hP
      have hD : va_D A [(a_p0, .inr (4, [.int p0_stage, .int p0_kind, .int p0_first, .int x2])), (a_p1, .inr (3, [.int p1_round, .int p1_byTurns, .int p1_apart, .int p1_people, .int p1_women, .long p1_couples, .long p1_quarrels, .long p1_togethers, .long p1_barred, .ref a_p1_worths])), (a_p1_worths, .inl (cI, 64, .inl p1_worths_v))] := hD
      refine lv_aload_n hx hb dX5_acceptsSecond_31 rfl (lv_at hl 0 rfl) ?_
      refine lv_iconst (v := 4) hx hb dX5_acceptsSecond_32 (by decide) ?_
      refine va_put (D := (dC, dI)) (ci := 4) (v := .int 4) (ty := .int) (C := RX5) (T := TX5) (N := 4) hx hb hts li_X5_acceptsSecond_X5 tyX5 tyX5_ok nmX5 hown hK hP hD hS 0 rfl rfl 0 (by decide) (hts _ lk_X5_acceptsSecond_11) (fun _ h9 => h9) rfl (by decide +kernel) rfl rfl (Nat.le_of_ble_eq_true rfl) dX5_acceptsSecond_33 (fun H locs hP hD hS => ?_)
      have hP : va_P (dC, dI) vwCl [(a_p0, .inr (4, [.int 4, .int p0_kind, .int p0_first, .int x2])), (a_p1, .inr (3, [.int p1_round, .int p1_byTurns, .int p1_apart, .int p1_people, .int p1_women, .long p1_couples, .long p1_quarrels, .long p1_togethers, .long p1_barred, .ref a_p1_worths])), (a_p1_worths, .inl (cI, 64, .inl p1_worths_v))] H := hP
      have hD : va_D A [(a_p0, .inr (4, [.int 4, .int p0_kind, .int p0_first, .int x2])), (a_p1, .inr (3, [.int p1_round, .int p1_byTurns, .int p1_apart, .int p1_people, .int p1_women, .long p1_couples, .long p1_quarrels, .long p1_togethers, .long p1_barred, .ref a_p1_worths])), (a_p1_worths, .inl (cI, 64, .inl p1_worths_v))] := hD
      refine lv_aload_n hx hb dX5_acceptsSecond_36 rfl (lv_at hl 0 rfl) ?_
      refine va_get (D := (dC, dI)) (ci := 4) (v := .int p0_kind) (C := RX5) (T := TX5) (N := 4) hx hb hts li_X5_acceptsSecond_X5 hown hK hP 0 rfl rfl 1 (by decide) (hts _ lk_X5_acceptsSecond_15) (fun _ h9 => h9) rfl dX5_acceptsSecond_37 ?_
      refine lv_bipush (v := 81) hx hb dX5_acceptsSecond_40 (by decide) ?_
      refine lv_icmp_ne (tgt := 65) hx hb dX5_acceptsSecond_42 (by decide) (fun c9 => ?_) (fun c9 => ?_)
      · have h := pw_cd_p c9 h
        refine lv_aload_n hx hb dX5_acceptsSecond_65 rfl (lv_at hl 0 rfl) ?_
        refine va_get (D := (dC, dI)) (ci := 4) (v := .int p0_kind) (C := RX5) (T := TX5) (N := 4) hx hb hts li_X5_acceptsSecond_X5 hown hK hP 0 rfl rfl 1 (by decide) (hts _ lk_X5_acceptsSecond_15) (fun _ h9 => h9) rfl dX5_acceptsSecond_66 ?_
        refine lv_bipush (v := 84) hx hb dX5_acceptsSecond_69 (by decide) ?_
        refine lv_icmp_ne (tgt := 94) hx hb dX5_acceptsSecond_71 (by decide) (fun c10 => ?_) (fun c10 => ?_)
        · have h := pw_cd_p c10 h
          refine lv_aload_n hx hb dX5_acceptsSecond_94 rfl (lv_at hl 0 rfl) ?_
          refine lv_bipush (v := 8) hx hb dX5_acceptsSecond_95 (by decide) ?_
          refine va_put (D := (dC, dI)) (ci := 4) (v := .int 8) (ty := .int) (C := RX5) (T := TX5) (N := 4) hx hb hts li_X5_acceptsSecond_X5 tyX5 tyX5_ok nmX5 hown hK hP hD hS 0 rfl rfl 0 (by decide) (hts _ lk_X5_acceptsSecond_11) (fun _ h9 => h9) rfl (by decide +kernel) rfl rfl (Nat.le_of_ble_eq_true rfl) dX5_acceptsSecond_97 (fun H locs hP hD hS => ?_)
          have hP : va_P (dC, dI) vwCl [(a_p0, .inr (4, [.int 8, .int p0_kind, .int p0_first, .int x2])), (a_p1, .inr (3, [.int p1_round, .int p1_byTurns, .int p1_apart, .int p1_people, .int p1_women, .long p1_couples, .long p1_quarrels, .long p1_togethers, .long p1_barred, .ref a_p1_worths])), (a_p1_worths, .inl (cI, 64, .inl p1_worths_v))] H := hP
          have hD : va_D A [(a_p0, .inr (4, [.int 8, .int p0_kind, .int p0_first, .int x2])), (a_p1, .inr (3, [.int p1_round, .int p1_byTurns, .int p1_apart, .int p1_people, .int p1_women, .long p1_couples, .long p1_quarrels, .long p1_togethers, .long p1_barred, .ref a_p1_worths])), (a_p1_worths, .inl (cI, 64, .inl p1_worths_v))] := hD
          refine lv_iconst (v := 1) hx hb dX5_acceptsSecond_100 (by decide) ?_
          rw [hQ]
          exact W.zret (v := 1) hx hb hr rfl (fun t ht hW => ⟨⟨1, (8, x2, p1_quarrels, p1_togethers), rfl, hc.trans h.symm, by rw [ht]; exact hP, va_K.moved hW.alike hK, hD⟩, hS.F ht⟩) hS.2.2 dX5_acceptsSecond_101
        · have h := pw_cd_n (fun q => q c10) h
          refine lv_aload_n hx hb dX5_acceptsSecond_74 rfl (lv_at hl 1 rfl) ?_
          refine lv_dup hx hb dX5_acceptsSecond_75 rfl ?_
          refine va_get (D := (dC, dI)) (ci := 3) (v := .long p1_togethers) (C := RX4) (T := TX4) (N := 10) hx hb hts li_X5_acceptsSecond_X4 hown hK hP 1 rfl rfl 7 (by decide) (hts _ lk_X5_acceptsSecond_96) (fun _ h9 => h9) rfl dX5_acceptsSecond_76 ?_
          refine lv_aload_n hx hb dX5_acceptsSecond_79 rfl (lv_at hl 0 rfl) ?_
          refine va_get (D := (dC, dI)) (ci := 4) (v := .int p0_first) (C := RX5) (T := TX5) (N := 4) hx hb hts li_X5_acceptsSecond_X5 hown hK hP 0 rfl rfl 2 (by decide) (hts _ lk_X5_acceptsSecond_18) (fun _ h9 => h9) rfl dX5_acceptsSecond_80 ?_
          refine lv_iload_n hx hb dX5_acceptsSecond_83 rfl (lv_at hl 2 rfl) ?_
          refine pw_cl (wr := [(a_p0, .inr (4, [.int 4, .int p0_kind, .int p0_first, .int x2])), (a_p1, .inr (3, [.int p1_round, .int p1_byTurns, .int p1_apart, .int p1_people, .int p1_women, .long p1_couples, .long p1_quarrels, .long p1_togethers, .long p1_barred, .ref a_p1_worths])), (a_p1_worths, .inl (cI, 64, .inl p1_worths_v))]) (va_runS (As := [.int p0_first, .int x2]) (rest := [.long p1_togethers, .ref a_p1]) ⟨hx, hb, hml, hown, hts⟩ (c_X3_bothWays l dC dI cI cZ H.size p0_first x2) (va_cwS 2 hts gX5_acceptsSecond_X3_bothWays rfl rfl rfl (by decide +kernel) ⟨(Nat.le_of_ble_eq_true rfl), (Nat.le_of_ble_eq_true rfl)⟩) (pw_preS hK hP hD [] rfl rfl (by decide)) rfl rfl hl.1 rfl (lv_room (Nat.le_of_ble_eq_true rfl)) dX5_acceptsSecond_84 ⟨(Nat.le_of_ble_eq_true rfl), (Nat.le_of_ble_eq_true rfl)⟩) hP hD hS hA [] [0, 1, 2] rfl rfl (by decide) (by decide) (fun r11 u H locs hw hP hD hS => ?_)
          have h := pw_lt_e hw h
          have hP : va_P (dC, dI) vwCl [(a_p0, .inr (4, [.int 4, .int p0_kind, .int p0_first, .int x2])), (a_p1, .inr (3, [.int p1_round, .int p1_byTurns, .int p1_apart, .int p1_people, .int p1_women, .long p1_couples, .long p1_quarrels, .long p1_togethers, .long p1_barred, .ref a_p1_worths])), (a_p1_worths, .inl (cI, 64, .inl p1_worths_v))] H := hP
          have hD : va_D A [(a_p0, .inr (4, [.int 4, .int p0_kind, .int p0_first, .int x2])), (a_p1, .inr (3, [.int p1_round, .int p1_byTurns, .int p1_apart, .int p1_people, .int p1_women, .long p1_couples, .long p1_quarrels, .long p1_togethers, .long p1_barred, .ref a_p1_worths])), (a_p1_worths, .inl (cI, 64, .inl p1_worths_v))] := hD
          refine lv_lor hx hb dX5_acceptsSecond_87 ?_
          refine lv_topl (fun v14 ev14 => ?_)
          have h := pw_lt_e ev14 h
          refine va_put (D := (dC, dI)) (ci := 3) (v := .long v14) (ty := .long) (C := RX4) (T := TX4) (N := 10) hx hb hts li_X5_acceptsSecond_X4 tyX4 tyX4_ok nmX4 hown hK hP hD hS 1 rfl rfl 7 (by decide) (hts _ lk_X5_acceptsSecond_96) (fun _ h9 => h9) rfl (by decide +kernel) rfl rfl (Nat.le_of_ble_eq_true rfl) dX5_acceptsSecond_88 (fun H locs hP hD hS => ?_)
          have hP : va_P (dC, dI) vwCl [(a_p0, .inr (4, [.int 4, .int p0_kind, .int p0_first, .int x2])), (a_p1, .inr (3, [.int p1_round, .int p1_byTurns, .int p1_apart, .int p1_people, .int p1_women, .long p1_couples, .long p1_quarrels, .long v14, .long p1_barred, .ref a_p1_worths])), (a_p1_worths, .inl (cI, 64, .inl p1_worths_v))] H := hP
          have hD : va_D A [(a_p0, .inr (4, [.int 4, .int p0_kind, .int p0_first, .int x2])), (a_p1, .inr (3, [.int p1_round, .int p1_byTurns, .int p1_apart, .int p1_people, .int p1_women, .long p1_couples, .long p1_quarrels, .long v14, .long p1_barred, .ref a_p1_worths])), (a_p1_worths, .inl (cI, 64, .inl p1_worths_v))] := hD
          refine lv_goto (tgt := 100) hx hb dX5_acceptsSecond_91 (by decide) ?_
          refine lv_iconst (v := 1) hx hb dX5_acceptsSecond_100 (by decide) ?_
          rw [hQ]
          exact W.zret (v := 1) hx hb hr rfl (fun t ht hW => ⟨⟨1, (4, x2, p1_quarrels, v14), rfl, hc.trans h.symm, by rw [ht]; exact hP, va_K.moved hW.alike hK, hD⟩, hS.F ht⟩) hS.2.2 dX5_acceptsSecond_101
      · have h := pw_cd_n (fun q => q c9) h
        refine lv_aload_n hx hb dX5_acceptsSecond_45 rfl (lv_at hl 1 rfl) ?_
        refine lv_dup hx hb dX5_acceptsSecond_46 rfl ?_
        refine va_get (D := (dC, dI)) (ci := 3) (v := .long p1_quarrels) (C := RX4) (T := TX4) (N := 10) hx hb hts li_X5_acceptsSecond_X4 hown hK hP 1 rfl rfl 6 (by decide) (hts _ lk_X5_acceptsSecond_86) (fun _ h9 => h9) rfl dX5_acceptsSecond_47 ?_
        refine lv_aload_n hx hb dX5_acceptsSecond_50 rfl (lv_at hl 0 rfl) ?_
        refine va_get (D := (dC, dI)) (ci := 4) (v := .int p0_first) (C := RX5) (T := TX5) (N := 4) hx hb hts li_X5_acceptsSecond_X5 hown hK hP 0 rfl rfl 2 (by decide) (hts _ lk_X5_acceptsSecond_18) (fun _ h9 => h9) rfl dX5_acceptsSecond_51 ?_
        refine lv_iload_n hx hb dX5_acceptsSecond_54 rfl (lv_at hl 2 rfl) ?_
        refine pw_cl (wr := [(a_p0, .inr (4, [.int 4, .int p0_kind, .int p0_first, .int x2])), (a_p1, .inr (3, [.int p1_round, .int p1_byTurns, .int p1_apart, .int p1_people, .int p1_women, .long p1_couples, .long p1_quarrels, .long p1_togethers, .long p1_barred, .ref a_p1_worths])), (a_p1_worths, .inl (cI, 64, .inl p1_worths_v))]) (va_runS (As := [.int p0_first, .int x2]) (rest := [.long p1_quarrels, .ref a_p1]) ⟨hx, hb, hml, hown, hts⟩ (c_X3_bothWays l dC dI cI cZ H.size p0_first x2) (va_cwS 2 hts gX5_acceptsSecond_X3_bothWays rfl rfl rfl (by decide +kernel) ⟨(Nat.le_of_ble_eq_true rfl), (Nat.le_of_ble_eq_true rfl)⟩) (pw_preS hK hP hD [] rfl rfl (by decide)) rfl rfl hl.1 rfl (lv_room (Nat.le_of_ble_eq_true rfl)) dX5_acceptsSecond_55 ⟨(Nat.le_of_ble_eq_true rfl), (Nat.le_of_ble_eq_true rfl)⟩) hP hD hS hA [] [0, 1, 2] rfl rfl (by decide) (by decide) (fun r15 u H locs hw hP hD hS => ?_)
        have h := pw_lt_e hw h
        have hP : va_P (dC, dI) vwCl [(a_p0, .inr (4, [.int 4, .int p0_kind, .int p0_first, .int x2])), (a_p1, .inr (3, [.int p1_round, .int p1_byTurns, .int p1_apart, .int p1_people, .int p1_women, .long p1_couples, .long p1_quarrels, .long p1_togethers, .long p1_barred, .ref a_p1_worths])), (a_p1_worths, .inl (cI, 64, .inl p1_worths_v))] H := hP
        have hD : va_D A [(a_p0, .inr (4, [.int 4, .int p0_kind, .int p0_first, .int x2])), (a_p1, .inr (3, [.int p1_round, .int p1_byTurns, .int p1_apart, .int p1_people, .int p1_women, .long p1_couples, .long p1_quarrels, .long p1_togethers, .long p1_barred, .ref a_p1_worths])), (a_p1_worths, .inl (cI, 64, .inl p1_worths_v))] := hD
        refine lv_lor hx hb dX5_acceptsSecond_58 ?_
        refine lv_topl (fun v18 ev18 => ?_)
        have h := pw_lt_e ev18 h
        refine va_put (D := (dC, dI)) (ci := 3) (v := .long v18) (ty := .long) (C := RX4) (T := TX4) (N := 10) hx hb hts li_X5_acceptsSecond_X4 tyX4 tyX4_ok nmX4 hown hK hP hD hS 1 rfl rfl 6 (by decide) (hts _ lk_X5_acceptsSecond_86) (fun _ h9 => h9) rfl (by decide +kernel) rfl rfl (Nat.le_of_ble_eq_true rfl) dX5_acceptsSecond_59 (fun H locs hP hD hS => ?_)
        have hP : va_P (dC, dI) vwCl [(a_p0, .inr (4, [.int 4, .int p0_kind, .int p0_first, .int x2])), (a_p1, .inr (3, [.int p1_round, .int p1_byTurns, .int p1_apart, .int p1_people, .int p1_women, .long p1_couples, .long v18, .long p1_togethers, .long p1_barred, .ref a_p1_worths])), (a_p1_worths, .inl (cI, 64, .inl p1_worths_v))] H := hP
        have hD : va_D A [(a_p0, .inr (4, [.int 4, .int p0_kind, .int p0_first, .int x2])), (a_p1, .inr (3, [.int p1_round, .int p1_byTurns, .int p1_apart, .int p1_people, .int p1_women, .long p1_couples, .long v18, .long p1_togethers, .long p1_barred, .ref a_p1_worths])), (a_p1_worths, .inl (cI, 64, .inl p1_worths_v))] := hD
        refine lv_goto (tgt := 100) hx hb dX5_acceptsSecond_62 (by decide) ?_
        refine lv_iconst (v := 1) hx hb dX5_acceptsSecond_100 (by decide) ?_
        rw [hQ]
        exact W.zret (v := 1) hx hb hr rfl (fun t ht hW => ⟨⟨1, (4, x2, v18, p1_togethers), rfl, hc.trans h.symm, by rw [ht]; exact hP, va_K.moved hW.alike hK, hD⟩, hS.F ht⟩) hS.2.2 dX5_acceptsSecond_101
    · have h := pw_cd_n (fun q => q c8) h
      refine lv_iconst (v := 0) hx hb dX5_acceptsSecond_24 (by decide) ?_
      rw [hQ]
      exact W.zret (v := 0) hx hb hr rfl (fun t ht hW => ⟨⟨0, (p0_stage, p0_second, p1_quarrels, p1_togethers), rfl, hc.trans h.symm, by rw [ht]; exact hP, va_K.moved hW.alike hK, hD⟩, hS.F ht⟩) hS.2.2 dX5_acceptsSecond_25
/-! X5_acceptsPart -/
theorem li_X5_acceptsPart_X5 : ∀ w ∈ u_ws RX5 TX5 4, w ∈ wsX5_acceptsPart := fun w h => List.mem_cons_of_mem _ (List.mem_append_left _ (List.mem_append_right _ h))
theorem lk_X5_acceptsPart_15 : Cond.fieldLink RX5 15 "NoWifeBeside$Reader" "kind" "I" ∈ wsX5_acceptsPart := by decide +kernel
theorem li_X5_acceptsPart_X4 : ∀ w ∈ u_ws RX4 TX4 10, w ∈ wsX5_acceptsPart := fun w h => List.mem_cons_of_mem _ (List.mem_append_right _ h)
theorem lk_X5_acceptsPart_76 : Cond.fieldLink RX5 76 "NoWifeBeside$Party" "people" "I" ∈ wsX5_acceptsPart := by decide +kernel
theorem lk_X5_acceptsPart_11 : Cond.fieldLink RX5 11 "NoWifeBeside$Reader" "stage" "I" ∈ wsX5_acceptsPart := by decide +kernel
abbrev rm_X5_acceptsPart : Room := { frames := 3, cells := 0, slots := 0, locals := 68 }
set_option maxRecDepth 100000 in
set_option maxHeartbeats 4000000 in
theorem c_X5_acceptsPart (l : Launch) (dC : Nat → ClassId) (dI : Nat → Nat → Nat) (cI cZ : ClassId) (sz : Nat) (a_p0 : Nat) (a_p1 : Nat) (a_p1_worths : Nat) (p0_stage : Int32) (p0_kind : Int32) (p0_first : Int32) (p0_second : Int32) (p1_round : Int32) (p1_byTurns : Int32) (p1_apart : Int32) (p1_people : Int32) (p1_women : Int32) (p1_couples : Int64) (p1_quarrels : Int64) (p1_togethers : Int64) (p1_barred : Int64) (p1_worths_v : Nat → Int32) (x2 : Int32) (xx : Int32 × Int32 × Int32 × Int32 × Int32 × Int64) (hc : f_X5_acceptsPart x2 p0_stage p1_people p1_women p1_couples p1_quarrels p1_togethers p1_worths_v = some xx) : Met l yX5_acceptsPart wsX5_acceptsPart rm_X5_acceptsPart (va_Pc [.ref a_p0, .ref a_p1, .int x2] (pw_pre (dC, dI) cI cZ [(a_p0, .inr (4, [.int p0_stage, .int p0_kind, .int p0_first, .int p0_second])), (a_p1, .inr (3, [.int p1_round, .int p1_byTurns, .int p1_apart, .int p1_people, .int p1_women, .long p1_couples, .long p1_quarrels, .long p1_togethers, .long p1_barred, .ref a_p1_worths])), (a_p1_worths, .inl (cI, 64, .inl p1_worths_v))] sz)) (va_Qi (fun (r : Int32) (u : Int32 × Int32 × Int32 × Int32 × Int64) => f_X5_acceptsPart x2 p0_stage p1_people p1_women p1_couples p1_quarrels p1_togethers p1_worths_v = some (r, u.1, u.2.1, u.2.2.1, u.2.2.2.1, u.2.2.2.2)) (fun u t => pw_post (dC, dI) cI cZ (va_A [(a_p0, .inr (4, [.int p0_stage, .int p0_kind, .int p0_first, .int p0_second])), (a_p1, .inr (3, [.int p1_round, .int p1_byTurns, .int p1_apart, .int p1_people, .int p1_women, .long p1_couples, .long p1_quarrels, .long p1_togethers, .long p1_barred, .ref a_p1_worths])), (a_p1_worths, .inl (cI, 64, .inl p1_worths_v))] sz) [(a_p0, .inr (4, [.int u.1, .int u.2.1, .int p0_first, .int p0_second])), (a_p1, .inr (3, [.int p1_round, .int p1_byTurns, .int p1_apart, .int u.2.2.1, .int u.2.2.2.1, .long u.2.2.2.2, .long p1_quarrels, .long p1_togethers, .long p1_barred, .ref a_p1_worths])), (a_p1_worths, .inl (cI, 64, .inl p1_worths_v))] t) (va_A [(a_p0, .inr (4, [.int p0_stage, .int p0_kind, .int p0_first, .int p0_second])), (a_p1, .inr (3, [.int p1_round, .int p1_byTurns, .int p1_apart, .int p1_people, .int p1_women, .long p1_couples, .long p1_quarrels, .long p1_togethers, .long p1_barred, .ref a_p1_worths])), (a_p1_worths, .inl (cI, 64, .inl p1_worths_v))] sz)) 0 0 (va_A [(a_p0, .inr (4, [.int p0_stage, .int p0_kind, .int p0_first, .int p0_second])), (a_p1, .inr (3, [.int p1_round, .int p1_byTurns, .int p1_apart, .int p1_people, .int p1_women, .long p1_couples, .long p1_quarrels, .long p1_togethers, .long p1_barred, .ref a_p1_worths])), (a_p1_worths, .inl (cI, 64, .inl p1_worths_v))] sz) := by
  refine Met.ofW (cc := cX5_acceptsPart) (maxL := 3) (ret := (some .boolean)) (by decide) rfl ?_
  intro p e s m args below meth c s₁ B hml hv
  obtain ⟨rfl, hsz, hP, hK, hD0⟩ := hv
  have hx := B.exec
  have hb := B.bytes
  have hr := B.returns
  have hts := atoms_spec (ws := wsX5_acceptsPart) B.pre
  have hown : s.vm.findClass RX5 = some m.cls := findClass_of_methodNamed B.named
  have hlocks := B.notSynchronized
  subst hsz
  have hD := hD0.self (sz := s.heap.size)
  generalize hAe : va_A [(a_p0, .inr (4, [.int p0_stage, .int p0_kind, .int p0_first, .int p0_second])), (a_p1, .inr (3, [.int p1_round, .int p1_byTurns, .int p1_apart, .int p1_people, .int p1_women, .long p1_couples, .long p1_quarrels, .long p1_togethers, .long p1_barred, .ref a_p1_worths])), (a_p1_worths, .inl (cI, 64, .inl p1_worths_v))] s.heap.size = A at hD ⊢
  have hA : ∀ q : Nat, s.heap.size ≤ q → A q := fun q h => by rw [← hAe]; exact Or.inr h
  have hS : va_S A s.heap s.heap [] := va_S.rf
  have hP : va_P (dC, dI) vwCl [(a_p0, .inr (4, [.int p0_stage, .int p0_kind, .int p0_first, .int p0_second])), (a_p1, .inr (3, [.int p1_round, .int p1_byTurns, .int p1_apart, .int p1_people, .int p1_women, .long p1_couples, .long p1_quarrels, .long p1_togethers, .long p1_barred, .ref a_p1_worths])), (a_p1_worths, .inl (cI, 64, .inl p1_worths_v))] s.heap := hP
  have hl := lv_entry ([.ref a_p0, .ref a_p1, .int x2]) (n := 3) (Nat.le_of_ble_eq_true rfl)
  rw [lg_entry_eq]
  generalize (lg_sl ([.ref a_p0, .ref a_p1, .int x2]) ++ List.replicate (3 - (lg_sl ([.ref a_p0, .ref a_p1, .int x2])).length) Slot.unset).toArray = ls at hl ⊢
  have hl : lv_has ls 3 [(0, .ref a_p0), (1, .ref a_p1), (2, .int x2)] := hl
  refine pw_Wq (R := rm_X5_acceptsPart) (fun Q hQ => ?_)
  obtain ⟨locs, elocs⟩ : ∃ y : List Loc, y = [] := ⟨_, rfl⟩
  rw [← elocs] at hS ⊢
  have h := hc
  unfold f_X5_acceptsPart at h
  refine lv_aload_n hx hb dX5_acceptsPart_0 rfl (lv_at hl 0 rfl) ?_
  refine lv_iload_n hx hb dX5_acceptsPart_1 rfl (lv_at hl 2 rfl) ?_
  refine va_put (D := (dC, dI)) (ci := 4) (v := .int x2) (ty := .int) (C := RX5) (T := TX5) (N := 4) hx hb hts li_X5_acceptsPart_X5 tyX5 tyX5_ok nmX5 hown hK hP hD hS 0 rfl rfl 1 (by decide) (hts _ lk_X5_acceptsPart_15) (fun _ h9 => h9) rfl (by decide +kernel) rfl rfl (Nat.le_of_ble_eq_true rfl) dX5_acceptsPart_2 (fun H locs hP hD hS => ?_)
  have hP : va_P (dC, dI) vwCl [(a_p0, .inr (4, [.int p0_stage, .int x2, .int p0_first, .int p0_second])), (a_p1, .inr (3, [.int p1_round, .int p1_byTurns, .int p1_apart, .int p1_people, .int p1_women, .long p1_couples, .long p1_quarrels, .long p1_togethers, .long p1_barred, .ref a_p1_worths])), (a_p1_worths, .inl (cI, 64, .inl p1_worths_v))] H := hP
  have hD : va_D A [(a_p0, .inr (4, [.int p0_stage, .int x2, .int p0_first, .int p0_second])), (a_p1, .inr (3, [.int p1_round, .int p1_byTurns, .int p1_apart, .int p1_people, .int p1_women, .long p1_couples, .long p1_quarrels, .long p1_togethers, .long p1_barred, .ref a_p1_worths])), (a_p1_worths, .inl (cI, 64, .inl p1_worths_v))] := hD
  refine lv_iload_n hx hb dX5_acceptsPart_5 rfl (lv_at hl 2 rfl) ?_
  by_cases c1 : x2 = 67
  · have h := pw_cd_p c1 h
    refine lv_lookup (off := 50) (tgt := 56) hx hb dX5_acceptsPart_6 (by decide) (by rw [c1]; decide) (by decide) ?_
    refine lv_aload_n hx hb dX5_acceptsPart_56 rfl (lv_at hl 1 rfl) ?_
    refine va_get (D := (dC, dI)) (ci := 3) (v := .int p1_people) (C := RX4) (T := TX4) (N := 10) hx hb hts li_X5_acceptsPart_X4 hown hK hP 1 rfl rfl 3 (by decide) (hts _ lk_X5_acceptsPart_76) (fun _ h9 => h9) rfl dX5_acceptsPart_57 ?_
    refine lv_iconst (v := 2) hx hb dX5_acceptsPart_60 (by decide) ?_
    refine lv_iadd hx hb dX5_acceptsPart_61 ?_
    refine lv_bipush (v := 7) hx hb dX5_acceptsPart_62 (by decide) ?_
    refine lv_icmp_le (tgt := 69) hx hb dX5_acceptsPart_64 (by decide) (fun c2 => ?_) (fun c2 => ?_)
    · have h := pw_cd_p c2 h
      refine lv_aload_n hx hb dX5_acceptsPart_69 rfl (lv_at hl 1 rfl) ?_
      obtain ⟨xx5, hc4, h⟩ := pw_bd_e h
      refine pw_cv (wr := [(a_p0, .inr (4, [.int p0_stage, .int x2, .int p0_first, .int p0_second])), (a_p1_worths, .inl (cI, 64, .inl p1_worths_v))]) (va_runV (As := []) (rest := []) ⟨hx, hb, hml, hown, hts⟩ (c_X4_admitCouple l dC dI cI cZ H.size a_p1 a_p1_worths p1_round p1_byTurns p1_apart p1_people p1_women p1_couples p1_quarrels p1_togethers p1_barred xx5 hc4) (cwV 0 hts gX5_acceptsPart_X4_admitCouple rfl rfl rfl (by decide +kernel) ⟨(Nat.le_of_ble_eq_true rfl), (Nat.le_of_ble_eq_true rfl)⟩) (pw_preV hK hP hD [1] rfl rfl (by decide) 3 rfl rfl) rfl rfl hl.1 rfl (lv_room (Nat.le_of_ble_eq_true rfl)) dX5_acceptsPart_70 ⟨(Nat.le_of_ble_eq_true rfl), (Nat.le_of_ble_eq_true rfl)⟩) hP hD hS hA [1] [0, 2] rfl rfl (by decide) (by decide) (fun u H locs hw hP hD hS => ?_)
      obtain ⟨o6, o7, o8⟩ := u
      have ex : (o6, o7, o8) = xx5 := Option.some.inj (hw.symm.trans hc4)
      subst ex
      have h := pw_u3_e h
      have hP : va_P (dC, dI) vwCl [(a_p0, .inr (4, [.int p0_stage, .int x2, .int p0_first, .int p0_second])), (a_p1_worths, .inl (cI, 64, .inl p1_worths_v)), (a_p1, .inr (3, [.int p1_round, .int p1_byTurns, .int p1_apart, .int o6, .int o7, .long o8, .long p1_quarrels, .long p1_togethers, .long p1_barred, .ref a_p1_worths]))] H := hP
      have hD : va_D A [(a_p0, .inr (4, [.int p0_stage, .int x2, .int p0_first, .int p0_second])), (a_p1_worths, .inl (cI, 64, .inl p1_worths_v)), (a_p1, .inr (3, [.int p1_round, .int p1_byTurns, .int p1_apart, .int o6, .int o7, .long o8, .long p1_quarrels, .long p1_togethers, .long p1_barred, .ref a_p1_worths]))] := hD
      refine lv_iconst (v := 1) hx hb dX5_acceptsPart_73 (by decide) ?_
      have hP := hP.sub (ws' := [(a_p0, .inr (4, [.int p0_stage, .int x2, .int p0_first, .int p0_second])), (a_p1, .inr (3, [.int p1_round, .int p1_byTurns, .int p1_apart, .int o6, .int o7, .long o8, .long p1_quarrels, .long p1_togethers, .long p1_barred, .ref a_p1_worths])), (a_p1_worths, .inl (cI, 64, .inl p1_worths_v))]) [0, 2, 1] rfl
      have hD := hD.sub (ws' := [(a_p0, .inr (4, [.int p0_stage, .int x2, .int p0_first, .int p0_second])), (a_p1, .inr (3, [.int p1_round, .int p1_byTurns, .int p1_apart, .int o6, .int o7, .long o8, .long p1_quarrels, .long p1_togethers, .long p1_barred, .ref a_p1_worths])), (a_p1_worths, .inl (cI, 64, .inl p1_worths_v))]) [0, 2, 1] (by decide) rfl
      rw [hQ]
      exact W.zret (v := 1) hx hb hr rfl (fun t ht hW => ⟨⟨1, (p0_stage, x2, o6, o7, o8), rfl, hc.trans h.symm, by rw [ht]; exact hP, va_K.moved hW.alike hK, hD⟩, hS.F ht⟩) hS.2.2 dX5_acceptsPart_74
    · have h := pw_cd_n c2 h
      refine lv_iconst (v := 0) hx hb dX5_acceptsPart_67 (by decide) ?_
      rw [hQ]
      exact W.zret (v := 0) hx hb hr rfl (fun t ht hW => ⟨⟨0, (p0_stage, x2, p1_people, p1_women, p1_couples), rfl, hc.trans h.symm, by rw [ht]; exact hP, va_K.moved hW.alike hK, hD⟩, hS.F ht⟩) hS.2.2 dX5_acceptsPart_68
  have h := pw_cd_n c1 h
  by_cases c9 : x2 = 81
  · have h := pw_cd_p c9 h
    refine lv_lookup (off := 89) (tgt := 95) hx hb dX5_acceptsPart_6 (by decide) (by rw [c9]; decide) (by decide) ?_
    refine lv_aload_n hx hb dX5_acceptsPart_95 rfl (lv_at hl 0 rfl) ?_
    refine lv_bipush (v := 6) hx hb dX5_acceptsPart_96 (by decide) ?_
    refine va_put (D := (dC, dI)) (ci := 4) (v := .int 6) (ty := .int) (C := RX5) (T := TX5) (N := 4) hx hb hts li_X5_acceptsPart_X5 tyX5 tyX5_ok nmX5 hown hK hP hD hS 0 rfl rfl 0 (by decide) (hts _ lk_X5_acceptsPart_11) (fun _ h9 => h9) rfl (by decide +kernel) rfl rfl (Nat.le_of_ble_eq_true rfl) dX5_acceptsPart_98 (fun H locs hP hD hS => ?_)
    have hP : va_P (dC, dI) vwCl [(a_p0, .inr (4, [.int 6, .int x2, .int p0_first, .int p0_second])), (a_p1, .inr (3, [.int p1_round, .int p1_byTurns, .int p1_apart, .int p1_people, .int p1_women, .long p1_couples, .long p1_quarrels, .long p1_togethers, .long p1_barred, .ref a_p1_worths])), (a_p1_worths, .inl (cI, 64, .inl p1_worths_v))] H := hP
    have hD : va_D A [(a_p0, .inr (4, [.int 6, .int x2, .int p0_first, .int p0_second])), (a_p1, .inr (3, [.int p1_round, .int p1_byTurns, .int p1_apart, .int p1_people, .int p1_women, .long p1_couples, .long p1_quarrels, .long p1_togethers, .long p1_barred, .ref a_p1_worths])), (a_p1_worths, .inl (cI, 64, .inl p1_worths_v))] := hD
    refine lv_aload_n hx hb dX5_acceptsPart_101 rfl (lv_at hl 0 rfl) ?_
    refine lv_aload_n hx hb dX5_acceptsPart_102 rfl (lv_at hl 1 rfl) ?_
    obtain ⟨xx12, hc11, h⟩ := pw_bd_e h
    refine pw_ci (wr := []) (va_runV (As := [.ref a_p1]) (rest := []) ⟨hx, hb, hml, hown, hts⟩ (c_X5_someAreFree l dC dI cI cZ H.size a_p0 a_p1 a_p1_worths 6 x2 p0_first p0_second p1_round p1_byTurns p1_apart p1_people p1_women p1_couples p1_quarrels p1_togethers p1_barred p1_worths_v xx12 hc11) (cwV 1 hts gX5_acceptsPart_X5_someAreFree rfl rfl rfl (by decide +kernel) ⟨(Nat.le_of_ble_eq_true rfl), (Nat.le_of_ble_eq_true rfl)⟩) (pw_preV hK hP hD [0, 1, 2] rfl rfl (by decide) 4 rfl rfl) rfl rfl hl.1 rfl (lv_room (Nat.le_of_ble_eq_true rfl)) dX5_acceptsPart_103 ⟨(Nat.le_of_ble_eq_true rfl), (Nat.le_of_ble_eq_true rfl)⟩) hP hD hS hA [0, 1, 2] [] rfl rfl (by decide) (by decide) (fun r10 u H locs hw hP hD hS => ?_)
    have ex : r10 = xx12 := Option.some.inj (hw.symm.trans hc11)
    subst ex
    have h := pw_u1_e h
    have hP : va_P (dC, dI) vwCl [(a_p0, .inr (4, [.int 6, .int x2, .int p0_first, .int p0_second])), (a_p1, .inr (3, [.int p1_round, .int p1_byTurns, .int p1_apart, .int p1_people, .int p1_women, .long p1_couples, .long p1_quarrels, .long p1_togethers, .long p1_barred, .ref a_p1_worths])), (a_p1_worths, .inl (cI, 64, .inl p1_worths_v))] H := hP
    have hD : va_D A [(a_p0, .inr (4, [.int 6, .int x2, .int p0_first, .int p0_second])), (a_p1, .inr (3, [.int p1_round, .int p1_byTurns, .int p1_apart, .int p1_people, .int p1_women, .long p1_couples, .long p1_quarrels, .long p1_togethers, .long p1_barred, .ref a_p1_worths])), (a_p1_worths, .inl (cI, 64, .inl p1_worths_v))] := hD
    obtain ⟨g13, h⟩ := pw_gd_e h
    rw [hQ]
    exact W.zret (v := r10) hx hb hr (pw_bz_n g13) (fun t ht hW => ⟨⟨r10, (6, x2, p1_people, p1_women, p1_couples), rfl, hc.trans h.symm, by rw [ht]; exact hP, va_K.moved hW.alike hK, hD⟩, hS.F ht⟩) hS.2.2 dX5_acceptsPart_106
  have h := pw_cd_n c9 h
  by_cases c14 : x2 = 83
  · have h := pw_cd_p c14 h
    refine lv_lookup (off := 69) (tgt := 75) hx hb dX5_acceptsPart_6 (by decide) (by rw [c14]; decide) (by decide) ?_
    refine lv_aload_n hx hb dX5_acceptsPart_75 rfl (lv_at hl 0 rfl) ?_
    refine lv_iconst (v := 5) hx hb dX5_acceptsPart_76 (by decide) ?_
    refine va_put (D := (dC, dI)) (ci := 4) (v := .int 5) (ty := .int) (C := RX5) (T := TX5) (N := 4) hx hb hts li_X5_acceptsPart_X5 tyX5 tyX5_ok nmX5 hown hK hP hD hS 0 rfl rfl 0 (by decide) (hts _ lk_X5_acceptsPart_11) (fun _ h9 => h9) rfl (by decide +kernel) rfl rfl (Nat.le_of_ble_eq_true rfl) dX5_acceptsPart_77 (fun H locs hP hD hS => ?_)
    have hP : va_P (dC, dI) vwCl [(a_p0, .inr (4, [.int 5, .int x2, .int p0_first, .int p0_second])), (a_p1, .inr (3, [.int p1_round, .int p1_byTurns, .int p1_apart, .int p1_people, .int p1_women, .long p1_couples, .long p1_quarrels, .long p1_togethers, .long p1_barred, .ref a_p1_worths])), (a_p1_worths, .inl (cI, 64, .inl p1_worths_v))] H := hP
    have hD : va_D A [(a_p0, .inr (4, [.int 5, .int x2, .int p0_first, .int p0_second])), (a_p1, .inr (3, [.int p1_round, .int p1_byTurns, .int p1_apart, .int p1_people, .int p1_women, .long p1_couples, .long p1_quarrels, .long p1_togethers, .long p1_barred, .ref a_p1_worths])), (a_p1_worths, .inl (cI, 64, .inl p1_worths_v))] := hD
    refine lv_aload_n hx hb dX5_acceptsPart_80 rfl (lv_at hl 1 rfl) ?_
    refine va_get (D := (dC, dI)) (ci := 3) (v := .int p1_people) (C := RX4) (T := TX4) (N := 10) hx hb hts li_X5_acceptsPart_X4 hown hK hP 1 rfl rfl 3 (by decide) (hts _ lk_X5_acceptsPart_76) (fun _ h9 => h9) rfl dX5_acceptsPart_81 ?_
    refine lv_bipush (v := 7) hx hb dX5_acceptsPart_84 (by decide) ?_
    refine lv_icmp_ge (tgt := 93) hx hb dX5_acceptsPart_86 (by decide) (fun c15 => ?_) (fun c15 => ?_)
    · have h := pw_cd_p c15 h
      refine lv_iconst (v := 0) hx hb dX5_acceptsPart_93 (by decide) ?_
      rw [hQ]
      exact W.zret (v := 0) hx hb hr rfl (fun t ht hW => ⟨⟨0, (5, x2, p1_people, p1_women, p1_couples), rfl, hc.trans h.symm, by rw [ht]; exact hP, va_K.moved hW.alike hK, hD⟩, hS.F ht⟩) hS.2.2 dX5_acceptsPart_94
    · have h := pw_cd_n c15 h
      refine lv_iconst (v := 1) hx hb dX5_acceptsPart_89 (by decide) ?_
      refine lv_goto (tgt := 94) hx hb dX5_acceptsPart_90 (by decide) ?_
      rw [hQ]
      exact W.zret (v := 1) hx hb hr rfl (fun t ht hW => ⟨⟨1, (5, x2, p1_people, p1_women, p1_couples), rfl, hc.trans h.symm, by rw [ht]; exact hP, va_K.moved hW.alike hK, hD⟩, hS.F ht⟩) hS.2.2 dX5_acceptsPart_94
  have h := pw_cd_n c14 h
  by_cases c16 : x2 = 84
  · have h := pw_cd_p c16 h
    refine lv_lookup (off := 89) (tgt := 95) hx hb dX5_acceptsPart_6 (by decide) (by rw [c16]; decide) (by decide) ?_
    refine lv_aload_n hx hb dX5_acceptsPart_95 rfl (lv_at hl 0 rfl) ?_
    refine lv_bipush (v := 6) hx hb dX5_acceptsPart_96 (by decide) ?_
    refine va_put (D := (dC, dI)) (ci := 4) (v := .int 6) (ty := .int) (C := RX5) (T := TX5) (N := 4) hx hb hts li_X5_acceptsPart_X5 tyX5 tyX5_ok nmX5 hown hK hP hD hS 0 rfl rfl 0 (by decide) (hts _ lk_X5_acceptsPart_11) (fun _ h9 => h9) rfl (by decide +kernel) rfl rfl (Nat.le_of_ble_eq_true rfl) dX5_acceptsPart_98 (fun H locs hP hD hS => ?_)
    have hP : va_P (dC, dI) vwCl [(a_p0, .inr (4, [.int 6, .int x2, .int p0_first, .int p0_second])), (a_p1, .inr (3, [.int p1_round, .int p1_byTurns, .int p1_apart, .int p1_people, .int p1_women, .long p1_couples, .long p1_quarrels, .long p1_togethers, .long p1_barred, .ref a_p1_worths])), (a_p1_worths, .inl (cI, 64, .inl p1_worths_v))] H := hP
    have hD : va_D A [(a_p0, .inr (4, [.int 6, .int x2, .int p0_first, .int p0_second])), (a_p1, .inr (3, [.int p1_round, .int p1_byTurns, .int p1_apart, .int p1_people, .int p1_women, .long p1_couples, .long p1_quarrels, .long p1_togethers, .long p1_barred, .ref a_p1_worths])), (a_p1_worths, .inl (cI, 64, .inl p1_worths_v))] := hD
    refine lv_aload_n hx hb dX5_acceptsPart_101 rfl (lv_at hl 0 rfl) ?_
    refine lv_aload_n hx hb dX5_acceptsPart_102 rfl (lv_at hl 1 rfl) ?_
    obtain ⟨xx19, hc18, h⟩ := pw_bd_e h
    refine pw_ci (wr := []) (va_runV (As := [.ref a_p1]) (rest := []) ⟨hx, hb, hml, hown, hts⟩ (c_X5_someAreFree l dC dI cI cZ H.size a_p0 a_p1 a_p1_worths 6 x2 p0_first p0_second p1_round p1_byTurns p1_apart p1_people p1_women p1_couples p1_quarrels p1_togethers p1_barred p1_worths_v xx19 hc18) (cwV 1 hts gX5_acceptsPart_X5_someAreFree rfl rfl rfl (by decide +kernel) ⟨(Nat.le_of_ble_eq_true rfl), (Nat.le_of_ble_eq_true rfl)⟩) (pw_preV hK hP hD [0, 1, 2] rfl rfl (by decide) 4 rfl rfl) rfl rfl hl.1 rfl (lv_room (Nat.le_of_ble_eq_true rfl)) dX5_acceptsPart_103 ⟨(Nat.le_of_ble_eq_true rfl), (Nat.le_of_ble_eq_true rfl)⟩) hP hD hS hA [0, 1, 2] [] rfl rfl (by decide) (by decide) (fun r17 u H locs hw hP hD hS => ?_)
    have ex : r17 = xx19 := Option.some.inj (hw.symm.trans hc18)
    subst ex
    have h := pw_u1_e h
    have hP : va_P (dC, dI) vwCl [(a_p0, .inr (4, [.int 6, .int x2, .int p0_first, .int p0_second])), (a_p1, .inr (3, [.int p1_round, .int p1_byTurns, .int p1_apart, .int p1_people, .int p1_women, .long p1_couples, .long p1_quarrels, .long p1_togethers, .long p1_barred, .ref a_p1_worths])), (a_p1_worths, .inl (cI, 64, .inl p1_worths_v))] H := hP
    have hD : va_D A [(a_p0, .inr (4, [.int 6, .int x2, .int p0_first, .int p0_second])), (a_p1, .inr (3, [.int p1_round, .int p1_byTurns, .int p1_apart, .int p1_people, .int p1_women, .long p1_couples, .long p1_quarrels, .long p1_togethers, .long p1_barred, .ref a_p1_worths])), (a_p1_worths, .inl (cI, 64, .inl p1_worths_v))] := hD
    obtain ⟨g20, h⟩ := pw_gd_e h
    rw [hQ]
    exact W.zret (v := r17) hx hb hr (pw_bz_n g20) (fun t ht hW => ⟨⟨r17, (6, x2, p1_people, p1_women, p1_couples), rfl, hc.trans h.symm, by rw [ht]; exact hP, va_K.moved hW.alike hK, hD⟩, hS.F ht⟩) hS.2.2 dX5_acceptsPart_106
  have h := pw_cd_n c16 h
  by_cases c21 : x2 = 87
  · have h := pw_cd_p c21 h
    refine lv_lookup (off := 89) (tgt := 95) hx hb dX5_acceptsPart_6 (by decide) (by rw [c21]; decide) (by decide) ?_
    refine lv_aload_n hx hb dX5_acceptsPart_95 rfl (lv_at hl 0 rfl) ?_
    refine lv_bipush (v := 6) hx hb dX5_acceptsPart_96 (by decide) ?_
    refine va_put (D := (dC, dI)) (ci := 4) (v := .int 6) (ty := .int) (C := RX5) (T := TX5) (N := 4) hx hb hts li_X5_acceptsPart_X5 tyX5 tyX5_ok nmX5 hown hK hP hD hS 0 rfl rfl 0 (by decide) (hts _ lk_X5_acceptsPart_11) (fun _ h9 => h9) rfl (by decide +kernel) rfl rfl (Nat.le_of_ble_eq_true rfl) dX5_acceptsPart_98 (fun H locs hP hD hS => ?_)
    have hP : va_P (dC, dI) vwCl [(a_p0, .inr (4, [.int 6, .int x2, .int p0_first, .int p0_second])), (a_p1, .inr (3, [.int p1_round, .int p1_byTurns, .int p1_apart, .int p1_people, .int p1_women, .long p1_couples, .long p1_quarrels, .long p1_togethers, .long p1_barred, .ref a_p1_worths])), (a_p1_worths, .inl (cI, 64, .inl p1_worths_v))] H := hP
    have hD : va_D A [(a_p0, .inr (4, [.int 6, .int x2, .int p0_first, .int p0_second])), (a_p1, .inr (3, [.int p1_round, .int p1_byTurns, .int p1_apart, .int p1_people, .int p1_women, .long p1_couples, .long p1_quarrels, .long p1_togethers, .long p1_barred, .ref a_p1_worths])), (a_p1_worths, .inl (cI, 64, .inl p1_worths_v))] := hD
    refine lv_aload_n hx hb dX5_acceptsPart_101 rfl (lv_at hl 0 rfl) ?_
    refine lv_aload_n hx hb dX5_acceptsPart_102 rfl (lv_at hl 1 rfl) ?_
    obtain ⟨xx24, hc23, h⟩ := pw_bd_e h
    refine pw_ci (wr := []) (va_runV (As := [.ref a_p1]) (rest := []) ⟨hx, hb, hml, hown, hts⟩ (c_X5_someAreFree l dC dI cI cZ H.size a_p0 a_p1 a_p1_worths 6 x2 p0_first p0_second p1_round p1_byTurns p1_apart p1_people p1_women p1_couples p1_quarrels p1_togethers p1_barred p1_worths_v xx24 hc23) (cwV 1 hts gX5_acceptsPart_X5_someAreFree rfl rfl rfl (by decide +kernel) ⟨(Nat.le_of_ble_eq_true rfl), (Nat.le_of_ble_eq_true rfl)⟩) (pw_preV hK hP hD [0, 1, 2] rfl rfl (by decide) 4 rfl rfl) rfl rfl hl.1 rfl (lv_room (Nat.le_of_ble_eq_true rfl)) dX5_acceptsPart_103 ⟨(Nat.le_of_ble_eq_true rfl), (Nat.le_of_ble_eq_true rfl)⟩) hP hD hS hA [0, 1, 2] [] rfl rfl (by decide) (by decide) (fun r22 u H locs hw hP hD hS => ?_)
    have ex : r22 = xx24 := Option.some.inj (hw.symm.trans hc23)
    subst ex
    have h := pw_u1_e h
    have hP : va_P (dC, dI) vwCl [(a_p0, .inr (4, [.int 6, .int x2, .int p0_first, .int p0_second])), (a_p1, .inr (3, [.int p1_round, .int p1_byTurns, .int p1_apart, .int p1_people, .int p1_women, .long p1_couples, .long p1_quarrels, .long p1_togethers, .long p1_barred, .ref a_p1_worths])), (a_p1_worths, .inl (cI, 64, .inl p1_worths_v))] H := hP
    have hD : va_D A [(a_p0, .inr (4, [.int 6, .int x2, .int p0_first, .int p0_second])), (a_p1, .inr (3, [.int p1_round, .int p1_byTurns, .int p1_apart, .int p1_people, .int p1_women, .long p1_couples, .long p1_quarrels, .long p1_togethers, .long p1_barred, .ref a_p1_worths])), (a_p1_worths, .inl (cI, 64, .inl p1_worths_v))] := hD
    obtain ⟨g25, h⟩ := pw_gd_e h
    rw [hQ]
    exact W.zret (v := r22) hx hb hr (pw_bz_n g25) (fun t ht hW => ⟨⟨r22, (6, x2, p1_people, p1_women, p1_couples), rfl, hc.trans h.symm, by rw [ht]; exact hP, va_K.moved hW.alike hK, hD⟩, hS.F ht⟩) hS.2.2 dX5_acceptsPart_106
  have h := pw_cd_n c21 h
  have zc1 := pw_swne (z := 67) c1 (by decide)
  have zc9 := pw_swne (z := 81) c9 (by decide)
  have zc14 := pw_swne (z := 83) c14 (by decide)
  have zc16 := pw_swne (z := 84) c16 (by decide)
  have zc21 := pw_swne (z := 87) c21 (by decide)
  refine lv_lookup (off := 101) (tgt := 107) hx hb dX5_acceptsPart_6 (by decide) (by simp [Op.lookupswitch.offset, Ne.symm zc1, Ne.symm zc9, Ne.symm zc14, Ne.symm zc16, Ne.symm zc21]) (by decide) ?_
  refine lv_iconst (v := 0) hx hb dX5_acceptsPart_107 (by decide) ?_
  rw [hQ]
  exact W.zret (v := 0) hx hb hr rfl (fun t ht hW => ⟨⟨0, (p0_stage, x2, p1_people, p1_women, p1_couples), rfl, hc.trans h.symm, by rw [ht]; exact hP, va_K.moved hW.alike hK, hD⟩, hS.F ht⟩) hS.2.2 dX5_acceptsPart_108
/-! X5_accepts -/
theorem li_X5_accepts_X5 : ∀ w ∈ u_ws RX5 TX5 4, w ∈ wsX5_accepts := fun w h => List.mem_cons_of_mem _ (List.mem_append_left _ (List.mem_append_right _ h))
theorem lk_X5_accepts_11 : Cond.fieldLink RX5 11 "NoWifeBeside$Reader" "stage" "I" ∈ wsX5_accepts := by decide +kernel
theorem li_X5_accepts_X4 : ∀ w ∈ u_ws RX4 TX4 10, w ∈ wsX5_accepts := fun w h => List.mem_cons_of_mem _ (List.mem_append_right _ h)
theorem lk_X5_accepts_45 : Cond.fieldLink RX5 45 "NoWifeBeside$Party" "round" "Z" ∈ wsX5_accepts := by decide +kernel
theorem lk_X5_accepts_49 : Cond.fieldLink RX5 49 "NoWifeBeside$Party" "byTurns" "Z" ∈ wsX5_accepts := by decide +kernel
theorem lk_X5_accepts_52 : Cond.fieldLink RX5 52 "NoWifeBeside$Party" "apart" "Z" ∈ wsX5_accepts := by decide +kernel
theorem lk_X5_accepts_18 : Cond.fieldLink RX5 18 "NoWifeBeside$Reader" "first" "I" ∈ wsX5_accepts := by decide +kernel
abbrev rm_X5_accepts : Room := { frames := 4, cells := 0, slots := 0, locals := 90 }
set_option maxRecDepth 100000 in
set_option maxHeartbeats 4000000 in
theorem c_X5_accepts (l : Launch) (dC : Nat → ClassId) (dI : Nat → Nat → Nat) (cI cZ : ClassId) (sz : Nat) (a_p0 : Nat) (a_p1 : Nat) (a_p1_worths : Nat) (p0_stage : Int32) (p0_kind : Int32) (p0_first : Int32) (p0_second : Int32) (p1_round : Int32) (p1_byTurns : Int32) (p1_apart : Int32) (p1_people : Int32) (p1_women : Int32) (p1_couples : Int64) (p1_quarrels : Int64) (p1_togethers : Int64) (p1_barred : Int64) (p1_worths_v : Nat → Int32) (x2 : Int32) (xx : Int32 × Int32 × Int32 × Int32 × Int32 × Int32 × Int32 × Int32 × Int32 × Int32 × Int64 × Int64 × Int64 × (Nat → Int32)) (hc : f_X5_accepts x2 p0_stage p0_kind p0_first p0_second p1_round p1_byTurns p1_apart p1_people p1_women p1_couples p1_quarrels p1_togethers p1_worths_v = some xx) : Met l yX5_accepts wsX5_accepts rm_X5_accepts (va_Pc [.ref a_p0, .ref a_p1, .int x2] (pw_pre (dC, dI) cI cZ [(a_p0, .inr (4, [.int p0_stage, .int p0_kind, .int p0_first, .int p0_second])), (a_p1, .inr (3, [.int p1_round, .int p1_byTurns, .int p1_apart, .int p1_people, .int p1_women, .long p1_couples, .long p1_quarrels, .long p1_togethers, .long p1_barred, .ref a_p1_worths])), (a_p1_worths, .inl (cI, 64, .inl p1_worths_v))] sz)) (va_Qi (fun (r : Int32) (u : Int32 × Int32 × Int32 × Int32 × Int32 × Int32 × Int32 × Int32 × Int32 × Int64 × Int64 × Int64 × (Nat → Int32)) => f_X5_accepts x2 p0_stage p0_kind p0_first p0_second p1_round p1_byTurns p1_apart p1_people p1_women p1_couples p1_quarrels p1_togethers p1_worths_v = some (r, u.1, u.2.1, u.2.2.1, u.2.2.2.1, u.2.2.2.2.1, u.2.2.2.2.2.1, u.2.2.2.2.2.2.1, u.2.2.2.2.2.2.2.1, u.2.2.2.2.2.2.2.2.1, u.2.2.2.2.2.2.2.2.2.1, u.2.2.2.2.2.2.2.2.2.2.1, u.2.2.2.2.2.2.2.2.2.2.2.1, u.2.2.2.2.2.2.2.2.2.2.2.2)) (fun u t => pw_post (dC, dI) cI cZ (va_A [(a_p0, .inr (4, [.int p0_stage, .int p0_kind, .int p0_first, .int p0_second])), (a_p1, .inr (3, [.int p1_round, .int p1_byTurns, .int p1_apart, .int p1_people, .int p1_women, .long p1_couples, .long p1_quarrels, .long p1_togethers, .long p1_barred, .ref a_p1_worths])), (a_p1_worths, .inl (cI, 64, .inl p1_worths_v))] sz) [(a_p0, .inr (4, [.int u.1, .int u.2.1, .int u.2.2.1, .int u.2.2.2.1])), (a_p1, .inr (3, [.int u.2.2.2.2.1, .int u.2.2.2.2.2.1, .int u.2.2.2.2.2.2.1, .int u.2.2.2.2.2.2.2.1, .int u.2.2.2.2.2.2.2.2.1, .long u.2.2.2.2.2.2.2.2.2.1, .long u.2.2.2.2.2.2.2.2.2.2.1, .long u.2.2.2.2.2.2.2.2.2.2.2.1, .long p1_barred, .ref a_p1_worths])), (a_p1_worths, .inl (cI, 64, .inl u.2.2.2.2.2.2.2.2.2.2.2.2))] t) (va_A [(a_p0, .inr (4, [.int p0_stage, .int p0_kind, .int p0_first, .int p0_second])), (a_p1, .inr (3, [.int p1_round, .int p1_byTurns, .int p1_apart, .int p1_people, .int p1_women, .long p1_couples, .long p1_quarrels, .long p1_togethers, .long p1_barred, .ref a_p1_worths])), (a_p1_worths, .inl (cI, 64, .inl p1_worths_v))] sz)) 0 0 (va_A [(a_p0, .inr (4, [.int p0_stage, .int p0_kind, .int p0_first, .int p0_second])), (a_p1, .inr (3, [.int p1_round, .int p1_byTurns, .int p1_apart, .int p1_people, .int p1_women, .long p1_couples, .long p1_quarrels, .long p1_togethers, .long p1_barred, .ref a_p1_worths])), (a_p1_worths, .inl (cI, 64, .inl p1_worths_v))] sz) := by
  refine Met.ofW (cc := cX5_accepts) (maxL := 3) (ret := (some .boolean)) (by decide) rfl ?_
  intro p e s m args below meth c s₁ B hml hv
  obtain ⟨rfl, hsz, hP, hK, hD0⟩ := hv
  have hx := B.exec
  have hb := B.bytes
  have hr := B.returns
  have hts := atoms_spec (ws := wsX5_accepts) B.pre
  have hown : s.vm.findClass RX5 = some m.cls := findClass_of_methodNamed B.named
  have hlocks := B.notSynchronized
  subst hsz
  have hD := hD0.self (sz := s.heap.size)
  generalize hAe : va_A [(a_p0, .inr (4, [.int p0_stage, .int p0_kind, .int p0_first, .int p0_second])), (a_p1, .inr (3, [.int p1_round, .int p1_byTurns, .int p1_apart, .int p1_people, .int p1_women, .long p1_couples, .long p1_quarrels, .long p1_togethers, .long p1_barred, .ref a_p1_worths])), (a_p1_worths, .inl (cI, 64, .inl p1_worths_v))] s.heap.size = A at hD ⊢
  have hA : ∀ q : Nat, s.heap.size ≤ q → A q := fun q h => by rw [← hAe]; exact Or.inr h
  have hS : va_S A s.heap s.heap [] := va_S.rf
  have hP : va_P (dC, dI) vwCl [(a_p0, .inr (4, [.int p0_stage, .int p0_kind, .int p0_first, .int p0_second])), (a_p1, .inr (3, [.int p1_round, .int p1_byTurns, .int p1_apart, .int p1_people, .int p1_women, .long p1_couples, .long p1_quarrels, .long p1_togethers, .long p1_barred, .ref a_p1_worths])), (a_p1_worths, .inl (cI, 64, .inl p1_worths_v))] s.heap := hP
  have hl := lv_entry ([.ref a_p0, .ref a_p1, .int x2]) (n := 3) (Nat.le_of_ble_eq_true rfl)
  rw [lg_entry_eq]
  generalize (lg_sl ([.ref a_p0, .ref a_p1, .int x2]) ++ List.replicate (3 - (lg_sl ([.ref a_p0, .ref a_p1, .int x2])).length) Slot.unset).toArray = ls at hl ⊢
  have hl : lv_has ls 3 [(0, .ref a_p0), (1, .ref a_p1), (2, .int x2)] := hl
  refine pw_Wq (R := rm_X5_accepts) (fun Q hQ => ?_)
  obtain ⟨locs, elocs⟩ : ∃ y : List Loc, y = [] := ⟨_, rfl⟩
  rw [← elocs] at hS ⊢
  have h := hc
  unfold f_X5_accepts at h
  refine lv_aload_n hx hb dX5_accepts_0 rfl (lv_at hl 0 rfl) ?_
  refine va_get (D := (dC, dI)) (ci := 4) (v := .int p0_stage) (C := RX5) (T := TX5) (N := 4) hx hb hts li_X5_accepts_X5 hown hK hP 0 rfl rfl 0 (by decide) (hts _ lk_X5_accepts_11) (fun _ h9 => h9) rfl dX5_accepts_1 ?_
  by_cases c1 : p0_stage = 0
  · have h := pw_cd_p c1 h
    refine lv_tableIn (off := 48) (tgt := 52) hx hb dX5_accepts_4 (by rw [c1]; decide) (by rw [c1]; decide) (by rw [c1]; decide) (by decide) ?_
    refine lv_aload_n hx hb dX5_accepts_52 rfl (lv_at hl 0 rfl) ?_
    refine lv_iconst (v := 1) hx hb dX5_accepts_53 (by decide) ?_
    refine va_put (D := (dC, dI)) (ci := 4) (v := .int 1) (ty := .int) (C := RX5) (T := TX5) (N := 4) hx hb hts li_X5_accepts_X5 tyX5 tyX5_ok nmX5 hown hK hP hD hS 0 rfl rfl 0 (by decide) (hts _ lk_X5_accepts_11) (fun _ h9 => h9) rfl (by decide +kernel) rfl rfl (Nat.le_of_ble_eq_true rfl) dX5_accepts_54 (fun H locs hP hD hS => ?_)
    have hP : va_P (dC, dI) vwCl [(a_p0, .inr (4, [.int 1, .int p0_kind, .int p0_first, .int p0_second])), (a_p1, .inr (3, [.int p1_round, .int p1_byTurns, .int p1_apart, .int p1_people, .int p1_women, .long p1_couples, .long p1_quarrels, .long p1_togethers, .long p1_barred, .ref a_p1_worths])), (a_p1_worths, .inl (cI, 64, .inl p1_worths_v))] H := hP
    have hD : va_D A [(a_p0, .inr (4, [.int 1, .int p0_kind, .int p0_first, .int p0_second])), (a_p1, .inr (3, [.int p1_round, .int p1_byTurns, .int p1_apart, .int p1_people, .int p1_women, .long p1_couples, .long p1_quarrels, .long p1_togethers, .long p1_barred, .ref a_p1_worths])), (a_p1_worths, .inl (cI, 64, .inl p1_worths_v))] := hD
    refine lv_iload_n hx hb dX5_accepts_57 rfl (lv_at hl 2 rfl) ?_
    refine lv_bipush (v := 77) hx hb dX5_accepts_58 (by decide) ?_
    refine lv_icmp_ne (tgt := 67) hx hb dX5_accepts_60 (by decide) (fun c2 => ?_) (fun c2 => ?_)
    · have h := pw_cd_p c2 h
      refine lv_iconst (v := 0) hx hb dX5_accepts_67 (by decide) ?_
      rw [hQ]
      exact W.zret (v := 0) hx hb hr rfl (fun t ht hW => ⟨⟨0, (1, p0_kind, p0_first, p0_second, p1_round, p1_byTurns, p1_apart, p1_people, p1_women, p1_couples, p1_quarrels, p1_togethers, p1_worths_v), rfl, hc.trans h.symm, by rw [ht]; exact hP, va_K.moved hW.alike hK, hD⟩, hS.F ht⟩) hS.2.2 dX5_accepts_68
    · have h := pw_cd_n (fun q => q c2) h
      refine lv_iconst (v := 1) hx hb dX5_accepts_63 (by decide) ?_
      refine lv_goto (tgt := 68) hx hb dX5_accepts_64 (by decide) ?_
      rw [hQ]
      exact W.zret (v := 1) hx hb hr rfl (fun t ht hW => ⟨⟨1, (1, p0_kind, p0_first, p0_second, p1_round, p1_byTurns, p1_apart, p1_people, p1_women, p1_couples, p1_quarrels, p1_togethers, p1_worths_v), rfl, hc.trans h.symm, by rw [ht]; exact hP, va_K.moved hW.alike hK, hD⟩, hS.F ht⟩) hS.2.2 dX5_accepts_68
  have h := pw_cd_n c1 h
  by_cases c3 : p0_stage = 1
  · have h := pw_cd_p c3 h
    refine lv_tableIn (off := 65) (tgt := 69) hx hb dX5_accepts_4 (by rw [c3]; decide) (by rw [c3]; decide) (by rw [c3]; decide) (by decide) ?_
    refine lv_aload_n hx hb dX5_accepts_69 rfl (lv_at hl 0 rfl) ?_
    refine lv_iconst (v := 2) hx hb dX5_accepts_70 (by decide) ?_
    refine va_put (D := (dC, dI)) (ci := 4) (v := .int 2) (ty := .int) (C := RX5) (T := TX5) (N := 4) hx hb hts li_X5_accepts_X5 tyX5 tyX5_ok nmX5 hown hK hP hD hS 0 rfl rfl 0 (by decide) (hts _ lk_X5_accepts_11) (fun _ h9 => h9) rfl (by decide +kernel) rfl rfl (Nat.le_of_ble_eq_true rfl) dX5_accepts_71 (fun H locs hP hD hS => ?_)
    have hP : va_P (dC, dI) vwCl [(a_p0, .inr (4, [.int 2, .int p0_kind, .int p0_first, .int p0_second])), (a_p1, .inr (3, [.int p1_round, .int p1_byTurns, .int p1_apart, .int p1_people, .int p1_women, .long p1_couples, .long p1_quarrels, .long p1_togethers, .long p1_barred, .ref a_p1_worths])), (a_p1_worths, .inl (cI, 64, .inl p1_worths_v))] H := hP
    have hD : va_D A [(a_p0, .inr (4, [.int 2, .int p0_kind, .int p0_first, .int p0_second])), (a_p1, .inr (3, [.int p1_round, .int p1_byTurns, .int p1_apart, .int p1_people, .int p1_women, .long p1_couples, .long p1_quarrels, .long p1_togethers, .long p1_barred, .ref a_p1_worths])), (a_p1_worths, .inl (cI, 64, .inl p1_worths_v))] := hD
    refine lv_aload_n hx hb dX5_accepts_74 rfl (lv_at hl 1 rfl) ?_
    refine lv_iload_n hx hb dX5_accepts_75 rfl (lv_at hl 2 rfl) ?_
    refine lv_bipush (v := 114) hx hb dX5_accepts_76 (by decide) ?_
    obtain ⟨k6, hk6, h⟩ := pw_lk_e h
    have K7 : ∀ (j5 : Int32), k6 j5 = some xx → ∀ (H : Heap) (locs : List Loc) (ls : Array Slot), va_P (dC, dI) vwCl [(a_p0, .inr (4, [.int 2, .int p0_kind, .int p0_first, .int p0_second])), (a_p1, .inr (3, [.int p1_round, .int p1_byTurns, .int p1_apart, .int p1_people, .int p1_women, .long p1_couples, .long p1_quarrels, .long p1_togethers, .long p1_barred, .ref a_p1_worths])), (a_p1_worths, .inl (cI, 64, .inl p1_worths_v))] H → va_D A [(a_p0, .inr (4, [.int 2, .int p0_kind, .int p0_first, .int p0_second])), (a_p1, .inr (3, [.int p1_round, .int p1_byTurns, .int p1_apart, .int p1_people, .int p1_women, .long p1_couples, .long p1_quarrels, .long p1_togethers, .long p1_barred, .ref a_p1_worths])), (a_p1_worths, .inl (cI, 64, .inl p1_worths_v))] → va_S A s.heap H locs → lv_has ls 3 [(2, .int x2)] → W p l e rm_X5_accepts s m ([.ref a_p0, .ref a_p1, .int x2] : List Value).toArray below meth c H locs 0 0 Q (F0 m 86 ls [.int j5, .ref a_p1]) := by
      intro j5 h H locs ls hP hD hS hl
      have h := pw_jk1 hk6 h
      obtain ⟨g8, h⟩ := pw_gd_e h
      refine va_put (D := (dC, dI)) (ci := 3) (v := .int j5) (ty := .boolean) (C := RX4) (T := TX4) (N := 10) hx hb hts li_X5_accepts_X4 tyX4 tyX4_ok nmX4 hown hK hP hD hS 1 rfl rfl 0 (by decide) (hts _ lk_X5_accepts_45) (fun _ h9 => h9) rfl (by decide +kernel) (pw_bz_n g8) (pw_bz_f g8) (Nat.le_of_ble_eq_true rfl) dX5_accepts_86 (fun H locs hP hD hS => ?_)
      have hP : va_P (dC, dI) vwCl [(a_p0, .inr (4, [.int 2, .int p0_kind, .int p0_first, .int p0_second])), (a_p1, .inr (3, [.int j5, .int p1_byTurns, .int p1_apart, .int p1_people, .int p1_women, .long p1_couples, .long p1_quarrels, .long p1_togethers, .long p1_barred, .ref a_p1_worths])), (a_p1_worths, .inl (cI, 64, .inl p1_worths_v))] H := hP
      have hD : va_D A [(a_p0, .inr (4, [.int 2, .int p0_kind, .int p0_first, .int p0_second])), (a_p1, .inr (3, [.int j5, .int p1_byTurns, .int p1_apart, .int p1_people, .int p1_women, .long p1_couples, .long p1_quarrels, .long p1_togethers, .long p1_barred, .ref a_p1_worths])), (a_p1_worths, .inl (cI, 64, .inl p1_worths_v))] := hD
      refine lv_iload_n hx hb dX5_accepts_89 rfl (lv_at hl 0 rfl) ?_
      refine lv_bipush (v := 114) hx hb dX5_accepts_90 (by decide) ?_
      refine lv_icmp_eq (tgt := 101) hx hb dX5_accepts_92 (by decide) (fun c9 => ?_) (fun c9 => ?_)
      · have h := pw_cd_p c9 h
        refine lv_iconst (v := 1) hx hb dX5_accepts_101 (by decide) ?_
        refine lv_goto (tgt := 106) hx hb dX5_accepts_102 (by decide) ?_
        rw [hQ]
        exact W.zret (v := 1) hx hb hr rfl (fun t ht hW => ⟨⟨1, (2, p0_kind, p0_first, p0_second, j5, p1_byTurns, p1_apart, p1_people, p1_women, p1_couples, p1_quarrels, p1_togethers, p1_worths_v), rfl, hc.trans h.symm, by rw [ht]; exact hP, va_K.moved hW.alike hK, hD⟩, hS.F ht⟩) hS.2.2 dX5_accepts_106
      · have h := pw_cd_n c9 h
        refine lv_iload_n hx hb dX5_accepts_95 rfl (lv_at hl 0 rfl) ?_
        refine lv_bipush (v := 108) hx hb dX5_accepts_96 (by decide) ?_
        refine lv_icmp_ne (tgt := 105) hx hb dX5_accepts_98 (by decide) (fun c10 => ?_) (fun c10 => ?_)
        · have h := pw_cd_p c10 h
          refine lv_iconst (v := 0) hx hb dX5_accepts_105 (by decide) ?_
          rw [hQ]
          exact W.zret (v := 0) hx hb hr rfl (fun t ht hW => ⟨⟨0, (2, p0_kind, p0_first, p0_second, j5, p1_byTurns, p1_apart, p1_people, p1_women, p1_couples, p1_quarrels, p1_togethers, p1_worths_v), rfl, hc.trans h.symm, by rw [ht]; exact hP, va_K.moved hW.alike hK, hD⟩, hS.F ht⟩) hS.2.2 dX5_accepts_106
        · have h := pw_cd_n (fun q => q c10) h
          refine lv_iconst (v := 1) hx hb dX5_accepts_101 (by decide) ?_
          refine lv_goto (tgt := 106) hx hb dX5_accepts_102 (by decide) ?_
          rw [hQ]
          exact W.zret (v := 1) hx hb hr rfl (fun t ht hW => ⟨⟨1, (2, p0_kind, p0_first, p0_second, j5, p1_byTurns, p1_apart, p1_people, p1_women, p1_couples, p1_quarrels, p1_togethers, p1_worths_v), rfl, hc.trans h.symm, by rw [ht]; exact hP, va_K.moved hW.alike hK, hD⟩, hS.F ht⟩) hS.2.2 dX5_accepts_106
    refine lv_icmp_ne (tgt := 85) hx hb dX5_accepts_78 (by decide) (fun c4 => ?_) (fun c4 => ?_)
    · have h := pw_lt_p c4 h
      refine lv_iconst (v := 0) hx hb dX5_accepts_85 (by decide) ?_
      have hl := lv_sub (l' := [(2, .int x2)]) hl [2] rfl
      exact K7 0 (pw_lt_0 h) _ locs ls hP hD hS hl
    · have h := pw_lt_n (fun q => q c4) h
      refine lv_iconst (v := 1) hx hb dX5_accepts_81 (by decide) ?_
      refine lv_goto (tgt := 86) hx hb dX5_accepts_82 (by decide) ?_
      have hl := lv_sub (l' := [(2, .int x2)]) hl [2] rfl
      exact K7 1 (pw_lt_0 h) _ locs ls hP hD hS hl
  have h := pw_cd_n c3 h
  by_cases c11 : p0_stage = 2
  · have h := pw_cd_p c11 h
    refine lv_tableIn (off := 103) (tgt := 107) hx hb dX5_accepts_4 (by rw [c11]; decide) (by rw [c11]; decide) (by rw [c11]; decide) (by decide) ?_
    refine lv_aload_n hx hb dX5_accepts_107 rfl (lv_at hl 0 rfl) ?_
    refine lv_iconst (v := 3) hx hb dX5_accepts_108 (by decide) ?_
    refine va_put (D := (dC, dI)) (ci := 4) (v := .int 3) (ty := .int) (C := RX5) (T := TX5) (N := 4) hx hb hts li_X5_accepts_X5 tyX5 tyX5_ok nmX5 hown hK hP hD hS 0 rfl rfl 0 (by decide) (hts _ lk_X5_accepts_11) (fun _ h9 => h9) rfl (by decide +kernel) rfl rfl (Nat.le_of_ble_eq_true rfl) dX5_accepts_109 (fun H locs hP hD hS => ?_)
    have hP : va_P (dC, dI) vwCl [(a_p0, .inr (4, [.int 3, .int p0_kind, .int p0_first, .int p0_second])), (a_p1, .inr (3, [.int p1_round, .int p1_byTurns, .int p1_apart, .int p1_people, .int p1_women, .long p1_couples, .long p1_quarrels, .long p1_togethers, .long p1_barred, .ref a_p1_worths])), (a_p1_worths, .inl (cI, 64, .inl p1_worths_v))] H := hP
    have hD : va_D A [(a_p0, .inr (4, [.int 3, .int p0_kind, .int p0_first, .int p0_second])), (a_p1, .inr (3, [.int p1_round, .int p1_byTurns, .int p1_apart, .int p1_people, .int p1_women, .long p1_couples, .long p1_quarrels, .long p1_togethers, .long p1_barred, .ref a_p1_worths])), (a_p1_worths, .inl (cI, 64, .inl p1_worths_v))] := hD
    refine lv_aload_n hx hb dX5_accepts_112 rfl (lv_at hl 1 rfl) ?_
    refine lv_iload_n hx hb dX5_accepts_113 rfl (lv_at hl 2 rfl) ?_
    refine lv_bipush (v := 49) hx hb dX5_accepts_114 (by decide) ?_
    obtain ⟨k14, hk14, h⟩ := pw_lk_e h
    have K15 : ∀ (j13 : Int32), k14 j13 = some xx → ∀ (H : Heap) (locs : List Loc) (ls : Array Slot), va_P (dC, dI) vwCl [(a_p0, .inr (4, [.int 3, .int p0_kind, .int p0_first, .int p0_second])), (a_p1, .inr (3, [.int p1_round, .int p1_byTurns, .int p1_apart, .int p1_people, .int p1_women, .long p1_couples, .long p1_quarrels, .long p1_togethers, .long p1_barred, .ref a_p1_worths])), (a_p1_worths, .inl (cI, 64, .inl p1_worths_v))] H → va_D A [(a_p0, .inr (4, [.int 3, .int p0_kind, .int p0_first, .int p0_second])), (a_p1, .inr (3, [.int p1_round, .int p1_byTurns, .int p1_apart, .int p1_people, .int p1_women, .long p1_couples, .long p1_quarrels, .long p1_togethers, .long p1_barred, .ref a_p1_worths])), (a_p1_worths, .inl (cI, 64, .inl p1_worths_v))] → va_S A s.heap H locs → lv_has ls 3 [(2, .int x2)] → W p l e rm_X5_accepts s m ([.ref a_p0, .ref a_p1, .int x2] : List Value).toArray below meth c H locs 0 0 Q (F0 m 124 ls [.int j13, .ref a_p1]) := by
      intro j13 h H locs ls hP hD hS hl
      have h := pw_jk1 hk14 h
      obtain ⟨g16, h⟩ := pw_gd_e h
      refine va_put (D := (dC, dI)) (ci := 3) (v := .int j13) (ty := .boolean) (C := RX4) (T := TX4) (N := 10) hx hb hts li_X5_accepts_X4 tyX4 tyX4_ok nmX4 hown hK hP hD hS 1 rfl rfl 1 (by decide) (hts _ lk_X5_accepts_49) (fun _ h9 => h9) rfl (by decide +kernel) (pw_bz_n g16) (pw_bz_f g16) (Nat.le_of_ble_eq_true rfl) dX5_accepts_124 (fun H locs hP hD hS => ?_)
      have hP : va_P (dC, dI) vwCl [(a_p0, .inr (4, [.int 3, .int p0_kind, .int p0_first, .int p0_second])), (a_p1, .inr (3, [.int p1_round, .int j13, .int p1_apart, .int p1_people, .int p1_women, .long p1_couples, .long p1_quarrels, .long p1_togethers, .long p1_barred, .ref a_p1_worths])), (a_p1_worths, .inl (cI, 64, .inl p1_worths_v))] H := hP
      have hD : va_D A [(a_p0, .inr (4, [.int 3, .int p0_kind, .int p0_first, .int p0_second])), (a_p1, .inr (3, [.int p1_round, .int j13, .int p1_apart, .int p1_people, .int p1_women, .long p1_couples, .long p1_quarrels, .long p1_togethers, .long p1_barred, .ref a_p1_worths])), (a_p1_worths, .inl (cI, 64, .inl p1_worths_v))] := hD
      refine lv_iload_n hx hb dX5_accepts_127 rfl (lv_at hl 0 rfl) ?_
      refine lv_bipush (v := 48) hx hb dX5_accepts_128 (by decide) ?_
      refine lv_icmp_eq (tgt := 139) hx hb dX5_accepts_130 (by decide) (fun c17 => ?_) (fun c17 => ?_)
      · have h := pw_cd_p c17 h
        refine lv_iconst (v := 1) hx hb dX5_accepts_139 (by decide) ?_
        refine lv_goto (tgt := 144) hx hb dX5_accepts_140 (by decide) ?_
        rw [hQ]
        exact W.zret (v := 1) hx hb hr rfl (fun t ht hW => ⟨⟨1, (3, p0_kind, p0_first, p0_second, p1_round, j13, p1_apart, p1_people, p1_women, p1_couples, p1_quarrels, p1_togethers, p1_worths_v), rfl, hc.trans h.symm, by rw [ht]; exact hP, va_K.moved hW.alike hK, hD⟩, hS.F ht⟩) hS.2.2 dX5_accepts_144
      · have h := pw_cd_n c17 h
        refine lv_iload_n hx hb dX5_accepts_133 rfl (lv_at hl 0 rfl) ?_
        refine lv_bipush (v := 49) hx hb dX5_accepts_134 (by decide) ?_
        refine lv_icmp_ne (tgt := 143) hx hb dX5_accepts_136 (by decide) (fun c18 => ?_) (fun c18 => ?_)
        · have h := pw_cd_p c18 h
          refine lv_iconst (v := 0) hx hb dX5_accepts_143 (by decide) ?_
          rw [hQ]
          exact W.zret (v := 0) hx hb hr rfl (fun t ht hW => ⟨⟨0, (3, p0_kind, p0_first, p0_second, p1_round, j13, p1_apart, p1_people, p1_women, p1_couples, p1_quarrels, p1_togethers, p1_worths_v), rfl, hc.trans h.symm, by rw [ht]; exact hP, va_K.moved hW.alike hK, hD⟩, hS.F ht⟩) hS.2.2 dX5_accepts_144
        · have h := pw_cd_n (fun q => q c18) h
          refine lv_iconst (v := 1) hx hb dX5_accepts_139 (by decide) ?_
          refine lv_goto (tgt := 144) hx hb dX5_accepts_140 (by decide) ?_
          rw [hQ]
          exact W.zret (v := 1) hx hb hr rfl (fun t ht hW => ⟨⟨1, (3, p0_kind, p0_first, p0_second, p1_round, j13, p1_apart, p1_people, p1_women, p1_couples, p1_quarrels, p1_togethers, p1_worths_v), rfl, hc.trans h.symm, by rw [ht]; exact hP, va_K.moved hW.alike hK, hD⟩, hS.F ht⟩) hS.2.2 dX5_accepts_144
    refine lv_icmp_ne (tgt := 123) hx hb dX5_accepts_116 (by decide) (fun c12 => ?_) (fun c12 => ?_)
    · have h := pw_lt_p c12 h
      refine lv_iconst (v := 0) hx hb dX5_accepts_123 (by decide) ?_
      have hl := lv_sub (l' := [(2, .int x2)]) hl [2] rfl
      exact K15 0 (pw_lt_0 h) _ locs ls hP hD hS hl
    · have h := pw_lt_n (fun q => q c12) h
      refine lv_iconst (v := 1) hx hb dX5_accepts_119 (by decide) ?_
      refine lv_goto (tgt := 124) hx hb dX5_accepts_120 (by decide) ?_
      have hl := lv_sub (l' := [(2, .int x2)]) hl [2] rfl
      exact K15 1 (pw_lt_0 h) _ locs ls hP hD hS hl
  have h := pw_cd_n c11 h
  by_cases c19 : p0_stage = 3
  · have h := pw_cd_p c19 h
    refine lv_tableIn (off := 141) (tgt := 145) hx hb dX5_accepts_4 (by rw [c19]; decide) (by rw [c19]; decide) (by rw [c19]; decide) (by decide) ?_
    refine lv_aload_n hx hb dX5_accepts_145 rfl (lv_at hl 0 rfl) ?_
    refine lv_iconst (v := 4) hx hb dX5_accepts_146 (by decide) ?_
    refine va_put (D := (dC, dI)) (ci := 4) (v := .int 4) (ty := .int) (C := RX5) (T := TX5) (N := 4) hx hb hts li_X5_accepts_X5 tyX5 tyX5_ok nmX5 hown hK hP hD hS 0 rfl rfl 0 (by decide) (hts _ lk_X5_accepts_11) (fun _ h9 => h9) rfl (by decide +kernel) rfl rfl (Nat.le_of_ble_eq_true rfl) dX5_accepts_147 (fun H locs hP hD hS => ?_)
    have hP : va_P (dC, dI) vwCl [(a_p0, .inr (4, [.int 4, .int p0_kind, .int p0_first, .int p0_second])), (a_p1, .inr (3, [.int p1_round, .int p1_byTurns, .int p1_apart, .int p1_people, .int p1_women, .long p1_couples, .long p1_quarrels, .long p1_togethers, .long p1_barred, .ref a_p1_worths])), (a_p1_worths, .inl (cI, 64, .inl p1_worths_v))] H := hP
    have hD : va_D A [(a_p0, .inr (4, [.int 4, .int p0_kind, .int p0_first, .int p0_second])), (a_p1, .inr (3, [.int p1_round, .int p1_byTurns, .int p1_apart, .int p1_people, .int p1_women, .long p1_couples, .long p1_quarrels, .long p1_togethers, .long p1_barred, .ref a_p1_worths])), (a_p1_worths, .inl (cI, 64, .inl p1_worths_v))] := hD
    refine lv_aload_n hx hb dX5_accepts_150 rfl (lv_at hl 1 rfl) ?_
    refine lv_iload_n hx hb dX5_accepts_151 rfl (lv_at hl 2 rfl) ?_
    refine lv_bipush (v := 49) hx hb dX5_accepts_152 (by decide) ?_
    obtain ⟨k22, hk22, h⟩ := pw_lk_e h
    have K23 : ∀ (j21 : Int32), k22 j21 = some xx → ∀ (H : Heap) (locs : List Loc) (ls : Array Slot), va_P (dC, dI) vwCl [(a_p0, .inr (4, [.int 4, .int p0_kind, .int p0_first, .int p0_second])), (a_p1, .inr (3, [.int p1_round, .int p1_byTurns, .int p1_apart, .int p1_people, .int p1_women, .long p1_couples, .long p1_quarrels, .long p1_togethers, .long p1_barred, .ref a_p1_worths])), (a_p1_worths, .inl (cI, 64, .inl p1_worths_v))] H → va_D A [(a_p0, .inr (4, [.int 4, .int p0_kind, .int p0_first, .int p0_second])), (a_p1, .inr (3, [.int p1_round, .int p1_byTurns, .int p1_apart, .int p1_people, .int p1_women, .long p1_couples, .long p1_quarrels, .long p1_togethers, .long p1_barred, .ref a_p1_worths])), (a_p1_worths, .inl (cI, 64, .inl p1_worths_v))] → va_S A s.heap H locs → lv_has ls 3 [(2, .int x2)] → W p l e rm_X5_accepts s m ([.ref a_p0, .ref a_p1, .int x2] : List Value).toArray below meth c H locs 0 0 Q (F0 m 162 ls [.int j21, .ref a_p1]) := by
      intro j21 h H locs ls hP hD hS hl
      have h := pw_jk1 hk22 h
      obtain ⟨g24, h⟩ := pw_gd_e h
      refine va_put (D := (dC, dI)) (ci := 3) (v := .int j21) (ty := .boolean) (C := RX4) (T := TX4) (N := 10) hx hb hts li_X5_accepts_X4 tyX4 tyX4_ok nmX4 hown hK hP hD hS 1 rfl rfl 2 (by decide) (hts _ lk_X5_accepts_52) (fun _ h9 => h9) rfl (by decide +kernel) (pw_bz_n g24) (pw_bz_f g24) (Nat.le_of_ble_eq_true rfl) dX5_accepts_162 (fun H locs hP hD hS => ?_)
      have hP : va_P (dC, dI) vwCl [(a_p0, .inr (4, [.int 4, .int p0_kind, .int p0_first, .int p0_second])), (a_p1, .inr (3, [.int p1_round, .int p1_byTurns, .int j21, .int p1_people, .int p1_women, .long p1_couples, .long p1_quarrels, .long p1_togethers, .long p1_barred, .ref a_p1_worths])), (a_p1_worths, .inl (cI, 64, .inl p1_worths_v))] H := hP
      have hD : va_D A [(a_p0, .inr (4, [.int 4, .int p0_kind, .int p0_first, .int p0_second])), (a_p1, .inr (3, [.int p1_round, .int p1_byTurns, .int j21, .int p1_people, .int p1_women, .long p1_couples, .long p1_quarrels, .long p1_togethers, .long p1_barred, .ref a_p1_worths])), (a_p1_worths, .inl (cI, 64, .inl p1_worths_v))] := hD
      refine lv_iload_n hx hb dX5_accepts_165 rfl (lv_at hl 0 rfl) ?_
      refine lv_bipush (v := 48) hx hb dX5_accepts_166 (by decide) ?_
      refine lv_icmp_eq (tgt := 177) hx hb dX5_accepts_168 (by decide) (fun c25 => ?_) (fun c25 => ?_)
      · have h := pw_cd_p c25 h
        refine lv_iconst (v := 1) hx hb dX5_accepts_177 (by decide) ?_
        refine lv_goto (tgt := 182) hx hb dX5_accepts_178 (by decide) ?_
        rw [hQ]
        exact W.zret (v := 1) hx hb hr rfl (fun t ht hW => ⟨⟨1, (4, p0_kind, p0_first, p0_second, p1_round, p1_byTurns, j21, p1_people, p1_women, p1_couples, p1_quarrels, p1_togethers, p1_worths_v), rfl, hc.trans h.symm, by rw [ht]; exact hP, va_K.moved hW.alike hK, hD⟩, hS.F ht⟩) hS.2.2 dX5_accepts_182
      · have h := pw_cd_n c25 h
        refine lv_iload_n hx hb dX5_accepts_171 rfl (lv_at hl 0 rfl) ?_
        refine lv_bipush (v := 49) hx hb dX5_accepts_172 (by decide) ?_
        refine lv_icmp_ne (tgt := 181) hx hb dX5_accepts_174 (by decide) (fun c26 => ?_) (fun c26 => ?_)
        · have h := pw_cd_p c26 h
          refine lv_iconst (v := 0) hx hb dX5_accepts_181 (by decide) ?_
          rw [hQ]
          exact W.zret (v := 0) hx hb hr rfl (fun t ht hW => ⟨⟨0, (4, p0_kind, p0_first, p0_second, p1_round, p1_byTurns, j21, p1_people, p1_women, p1_couples, p1_quarrels, p1_togethers, p1_worths_v), rfl, hc.trans h.symm, by rw [ht]; exact hP, va_K.moved hW.alike hK, hD⟩, hS.F ht⟩) hS.2.2 dX5_accepts_182
        · have h := pw_cd_n (fun q => q c26) h
          refine lv_iconst (v := 1) hx hb dX5_accepts_177 (by decide) ?_
          refine lv_goto (tgt := 182) hx hb dX5_accepts_178 (by decide) ?_
          rw [hQ]
          exact W.zret (v := 1) hx hb hr rfl (fun t ht hW => ⟨⟨1, (4, p0_kind, p0_first, p0_second, p1_round, p1_byTurns, j21, p1_people, p1_women, p1_couples, p1_quarrels, p1_togethers, p1_worths_v), rfl, hc.trans h.symm, by rw [ht]; exact hP, va_K.moved hW.alike hK, hD⟩, hS.F ht⟩) hS.2.2 dX5_accepts_182
    refine lv_icmp_ne (tgt := 161) hx hb dX5_accepts_154 (by decide) (fun c20 => ?_) (fun c20 => ?_)
    · have h := pw_lt_p c20 h
      refine lv_iconst (v := 0) hx hb dX5_accepts_161 (by decide) ?_
      have hl := lv_sub (l' := [(2, .int x2)]) hl [2] rfl
      exact K23 0 (pw_lt_0 h) _ locs ls hP hD hS hl
    · have h := pw_lt_n (fun q => q c20) h
      refine lv_iconst (v := 1) hx hb dX5_accepts_157 (by decide) ?_
      refine lv_goto (tgt := 162) hx hb dX5_accepts_158 (by decide) ?_
      have hl := lv_sub (l' := [(2, .int x2)]) hl [2] rfl
      exact K23 1 (pw_lt_0 h) _ locs ls hP hD hS hl
  have h := pw_cd_n c19 h
  by_cases c27 : p0_stage = 4
  · have h := pw_cd_p c27 h
    refine lv_tableIn (off := 179) (tgt := 183) hx hb dX5_accepts_4 (by rw [c27]; decide) (by rw [c27]; decide) (by rw [c27]; decide) (by decide) ?_
    refine lv_aload_n hx hb dX5_accepts_183 rfl (lv_at hl 0 rfl) ?_
    refine lv_aload_n hx hb dX5_accepts_184 rfl (lv_at hl 1 rfl) ?_
    refine lv_iload_n hx hb dX5_accepts_185 rfl (lv_at hl 2 rfl) ?_
    obtain ⟨xx30, hc29, h⟩ := pw_bd_e h
    refine pw_ci (wr := []) (va_runV (As := [.ref a_p1, .int x2]) (rest := []) ⟨hx, hb, hml, hown, hts⟩ (c_X5_acceptsPart l dC dI cI cZ s.heap.size a_p0 a_p1 a_p1_worths p0_stage p0_kind p0_first p0_second p1_round p1_byTurns p1_apart p1_people p1_women p1_couples p1_quarrels p1_togethers p1_barred p1_worths_v x2 xx30 hc29) (cwV 2 hts gX5_accepts_X5_acceptsPart rfl rfl rfl (by decide +kernel) ⟨(Nat.le_of_ble_eq_true rfl), (Nat.le_of_ble_eq_true rfl)⟩) (pw_preV hK hP hD [0, 1, 2] rfl rfl (by decide) 4 rfl rfl) rfl rfl hl.1 rfl (lv_room (Nat.le_of_ble_eq_true rfl)) dX5_accepts_186 ⟨(Nat.le_of_ble_eq_true rfl), (Nat.le_of_ble_eq_true rfl)⟩) hP hD hS hA [0, 1, 2] [] rfl rfl (by decide) (by decide) (fun r28 u H locs hw hP hD hS => ?_)
    obtain ⟨o31, o32, o33, o34, o35⟩ := u
    have ex : (r28, o31, o32, o33, o34, o35) = xx30 := Option.some.inj (hw.symm.trans hc29)
    subst ex
    have h := pw_u6_e h
    have hP : va_P (dC, dI) vwCl [(a_p0, .inr (4, [.int o31, .int o32, .int p0_first, .int p0_second])), (a_p1, .inr (3, [.int p1_round, .int p1_byTurns, .int p1_apart, .int o33, .int o34, .long o35, .long p1_quarrels, .long p1_togethers, .long p1_barred, .ref a_p1_worths])), (a_p1_worths, .inl (cI, 64, .inl p1_worths_v))] H := hP
    have hD : va_D A [(a_p0, .inr (4, [.int o31, .int o32, .int p0_first, .int p0_second])), (a_p1, .inr (3, [.int p1_round, .int p1_byTurns, .int p1_apart, .int o33, .int o34, .long o35, .long p1_quarrels, .long p1_togethers, .long p1_barred, .ref a_p1_worths])), (a_p1_worths, .inl (cI, 64, .inl p1_worths_v))] := hD
    obtain ⟨g36, h⟩ := pw_gd_e h
    rw [hQ]
    exact W.zret (v := r28) hx hb hr (pw_bz_n g36) (fun t ht hW => ⟨⟨r28, (o31, o32, p0_first, p0_second, p1_round, p1_byTurns, p1_apart, o33, o34, o35, p1_quarrels, p1_togethers, p1_worths_v), rfl, hc.trans h.symm, by rw [ht]; exact hP, va_K.moved hW.alike hK, hD⟩, hS.F ht⟩) hS.2.2 dX5_accepts_189
  have h := pw_cd_n c27 h
  by_cases c37 : p0_stage = 5
  · have h := pw_cd_p c37 h
    refine lv_tableIn (off := 186) (tgt := 190) hx hb dX5_accepts_4 (by rw [c37]; decide) (by rw [c37]; decide) (by rw [c37]; decide) (by decide) ?_
    refine lv_aload_n hx hb dX5_accepts_190 rfl (lv_at hl 0 rfl) ?_
    refine lv_iconst (v := 4) hx hb dX5_accepts_191 (by decide) ?_
    refine va_put (D := (dC, dI)) (ci := 4) (v := .int 4) (ty := .int) (C := RX5) (T := TX5) (N := 4) hx hb hts li_X5_accepts_X5 tyX5 tyX5_ok nmX5 hown hK hP hD hS 0 rfl rfl 0 (by decide) (hts _ lk_X5_accepts_11) (fun _ h9 => h9) rfl (by decide +kernel) rfl rfl (Nat.le_of_ble_eq_true rfl) dX5_accepts_192 (fun H locs hP hD hS => ?_)
    have hP : va_P (dC, dI) vwCl [(a_p0, .inr (4, [.int 4, .int p0_kind, .int p0_first, .int p0_second])), (a_p1, .inr (3, [.int p1_round, .int p1_byTurns, .int p1_apart, .int p1_people, .int p1_women, .long p1_couples, .long p1_quarrels, .long p1_togethers, .long p1_barred, .ref a_p1_worths])), (a_p1_worths, .inl (cI, 64, .inl p1_worths_v))] H := hP
    have hD : va_D A [(a_p0, .inr (4, [.int 4, .int p0_kind, .int p0_first, .int p0_second])), (a_p1, .inr (3, [.int p1_round, .int p1_byTurns, .int p1_apart, .int p1_people, .int p1_women, .long p1_couples, .long p1_quarrels, .long p1_togethers, .long p1_barred, .ref a_p1_worths])), (a_p1_worths, .inl (cI, 64, .inl p1_worths_v))] := hD
    refine lv_aload_n hx hb dX5_accepts_195 rfl (lv_at hl 1 rfl) ?_
    refine lv_iload_n hx hb dX5_accepts_196 rfl (lv_at hl 2 rfl) ?_
    refine lv_bipush (v := 119) hx hb dX5_accepts_197 (by decide) ?_
    obtain ⟨k40, hk40, h⟩ := pw_lk_e h
    have K41 : ∀ (j39 : Int32), k40 j39 = some xx → ∀ (H : Heap) (locs : List Loc) (ls : Array Slot), va_P (dC, dI) vwCl [(a_p0, .inr (4, [.int 4, .int p0_kind, .int p0_first, .int p0_second])), (a_p1, .inr (3, [.int p1_round, .int p1_byTurns, .int p1_apart, .int p1_people, .int p1_women, .long p1_couples, .long p1_quarrels, .long p1_togethers, .long p1_barred, .ref a_p1_worths])), (a_p1_worths, .inl (cI, 64, .inl p1_worths_v))] H → va_D A [(a_p0, .inr (4, [.int 4, .int p0_kind, .int p0_first, .int p0_second])), (a_p1, .inr (3, [.int p1_round, .int p1_byTurns, .int p1_apart, .int p1_people, .int p1_women, .long p1_couples, .long p1_quarrels, .long p1_togethers, .long p1_barred, .ref a_p1_worths])), (a_p1_worths, .inl (cI, 64, .inl p1_worths_v))] → va_S A s.heap H locs → lv_has ls 3 [(2, .int x2)] → W p l e rm_X5_accepts s m ([.ref a_p0, .ref a_p1, .int x2] : List Value).toArray below meth c H locs 0 0 Q (F0 m 207 ls [.int j39, .ref a_p1]) := by
      intro j39 h H locs ls hP hD hS hl
      have h := pw_jk1 hk40 h
      obtain ⟨xx44, hc43, h⟩ := pw_bd_e h
      refine pw_cv (wr := [(a_p0, .inr (4, [.int 4, .int p0_kind, .int p0_first, .int p0_second])), (a_p1_worths, .inl (cI, 64, .inl p1_worths_v))]) (va_runV (As := [.int j39]) (rest := []) ⟨hx, hb, hml, hown, hts⟩ (c_X4_admit l dC dI cI cZ H.size a_p1 a_p1_worths p1_round p1_byTurns p1_apart p1_people p1_women p1_couples p1_quarrels p1_togethers p1_barred j39 xx44 hc43) (cwV 1 hts gX5_accepts_X4_admit rfl rfl rfl (by decide +kernel) ⟨(Nat.le_of_ble_eq_true rfl), (Nat.le_of_ble_eq_true rfl)⟩) (pw_preV hK hP hD [1] rfl rfl (by decide) 3 rfl rfl) rfl rfl hl.1 rfl (lv_room (Nat.le_of_ble_eq_true rfl)) dX5_accepts_207 ⟨(Nat.le_of_ble_eq_true rfl), (Nat.le_of_ble_eq_true rfl)⟩) hP hD hS hA [1] [0, 2] rfl rfl (by decide) (by decide) (fun u H locs hw hP hD hS => ?_)
      obtain ⟨o45, o46⟩ := u
      have ex : (o45, o46) = xx44 := Option.some.inj (hw.symm.trans hc43)
      subst ex
      have h := pw_u2_e h
      have hP : va_P (dC, dI) vwCl [(a_p0, .inr (4, [.int 4, .int p0_kind, .int p0_first, .int p0_second])), (a_p1_worths, .inl (cI, 64, .inl p1_worths_v)), (a_p1, .inr (3, [.int p1_round, .int p1_byTurns, .int p1_apart, .int o45, .int o46, .long p1_couples, .long p1_quarrels, .long p1_togethers, .long p1_barred, .ref a_p1_worths]))] H := hP
      have hD : va_D A [(a_p0, .inr (4, [.int 4, .int p0_kind, .int p0_first, .int p0_second])), (a_p1_worths, .inl (cI, 64, .inl p1_worths_v)), (a_p1, .inr (3, [.int p1_round, .int p1_byTurns, .int p1_apart, .int o45, .int o46, .long p1_couples, .long p1_quarrels, .long p1_togethers, .long p1_barred, .ref a_p1_worths]))] := hD
      refine lv_iload_n hx hb dX5_accepts_210 rfl (lv_at hl 0 rfl) ?_
      refine lv_bipush (v := 119) hx hb dX5_accepts_211 (by decide) ?_
      refine lv_icmp_eq (tgt := 222) hx hb dX5_accepts_213 (by decide) (fun c47 => ?_) (fun c47 => ?_)
      · have h := pw_cd_p c47 h
        refine lv_iconst (v := 1) hx hb dX5_accepts_222 (by decide) ?_
        refine lv_goto (tgt := 227) hx hb dX5_accepts_223 (by decide) ?_
        have hP := hP.sub (ws' := [(a_p0, .inr (4, [.int 4, .int p0_kind, .int p0_first, .int p0_second])), (a_p1, .inr (3, [.int p1_round, .int p1_byTurns, .int p1_apart, .int o45, .int o46, .long p1_couples, .long p1_quarrels, .long p1_togethers, .long p1_barred, .ref a_p1_worths])), (a_p1_worths, .inl (cI, 64, .inl p1_worths_v))]) [0, 2, 1] rfl
        have hD := hD.sub (ws' := [(a_p0, .inr (4, [.int 4, .int p0_kind, .int p0_first, .int p0_second])), (a_p1, .inr (3, [.int p1_round, .int p1_byTurns, .int p1_apart, .int o45, .int o46, .long p1_couples, .long p1_quarrels, .long p1_togethers, .long p1_barred, .ref a_p1_worths])), (a_p1_worths, .inl (cI, 64, .inl p1_worths_v))]) [0, 2, 1] (by decide) rfl
        rw [hQ]
        exact W.zret (v := 1) hx hb hr rfl (fun t ht hW => ⟨⟨1, (4, p0_kind, p0_first, p0_second, p1_round, p1_byTurns, p1_apart, o45, o46, p1_couples, p1_quarrels, p1_togethers, p1_worths_v), rfl, hc.trans h.symm, by rw [ht]; exact hP, va_K.moved hW.alike hK, hD⟩, hS.F ht⟩) hS.2.2 dX5_accepts_227
      · have h := pw_cd_n c47 h
        refine lv_iload_n hx hb dX5_accepts_216 rfl (lv_at hl 0 rfl) ?_
        refine lv_bipush (v := 109) hx hb dX5_accepts_217 (by decide) ?_
        refine lv_icmp_ne (tgt := 226) hx hb dX5_accepts_219 (by decide) (fun c48 => ?_) (fun c48 => ?_)
        · have h := pw_cd_p c48 h
          refine lv_iconst (v := 0) hx hb dX5_accepts_226 (by decide) ?_
          have hP := hP.sub (ws' := [(a_p0, .inr (4, [.int 4, .int p0_kind, .int p0_first, .int p0_second])), (a_p1, .inr (3, [.int p1_round, .int p1_byTurns, .int p1_apart, .int o45, .int o46, .long p1_couples, .long p1_quarrels, .long p1_togethers, .long p1_barred, .ref a_p1_worths])), (a_p1_worths, .inl (cI, 64, .inl p1_worths_v))]) [0, 2, 1] rfl
          have hD := hD.sub (ws' := [(a_p0, .inr (4, [.int 4, .int p0_kind, .int p0_first, .int p0_second])), (a_p1, .inr (3, [.int p1_round, .int p1_byTurns, .int p1_apart, .int o45, .int o46, .long p1_couples, .long p1_quarrels, .long p1_togethers, .long p1_barred, .ref a_p1_worths])), (a_p1_worths, .inl (cI, 64, .inl p1_worths_v))]) [0, 2, 1] (by decide) rfl
          rw [hQ]
          exact W.zret (v := 0) hx hb hr rfl (fun t ht hW => ⟨⟨0, (4, p0_kind, p0_first, p0_second, p1_round, p1_byTurns, p1_apart, o45, o46, p1_couples, p1_quarrels, p1_togethers, p1_worths_v), rfl, hc.trans h.symm, by rw [ht]; exact hP, va_K.moved hW.alike hK, hD⟩, hS.F ht⟩) hS.2.2 dX5_accepts_227
        · have h := pw_cd_n (fun q => q c48) h
          refine lv_iconst (v := 1) hx hb dX5_accepts_222 (by decide) ?_
          refine lv_goto (tgt := 227) hx hb dX5_accepts_223 (by decide) ?_
          have hP := hP.sub (ws' := [(a_p0, .inr (4, [.int 4, .int p0_kind, .int p0_first, .int p0_second])), (a_p1, .inr (3, [.int p1_round, .int p1_byTurns, .int p1_apart, .int o45, .int o46, .long p1_couples, .long p1_quarrels, .long p1_togethers, .long p1_barred, .ref a_p1_worths])), (a_p1_worths, .inl (cI, 64, .inl p1_worths_v))]) [0, 2, 1] rfl
          have hD := hD.sub (ws' := [(a_p0, .inr (4, [.int 4, .int p0_kind, .int p0_first, .int p0_second])), (a_p1, .inr (3, [.int p1_round, .int p1_byTurns, .int p1_apart, .int o45, .int o46, .long p1_couples, .long p1_quarrels, .long p1_togethers, .long p1_barred, .ref a_p1_worths])), (a_p1_worths, .inl (cI, 64, .inl p1_worths_v))]) [0, 2, 1] (by decide) rfl
          rw [hQ]
          exact W.zret (v := 1) hx hb hr rfl (fun t ht hW => ⟨⟨1, (4, p0_kind, p0_first, p0_second, p1_round, p1_byTurns, p1_apart, o45, o46, p1_couples, p1_quarrels, p1_togethers, p1_worths_v), rfl, hc.trans h.symm, by rw [ht]; exact hP, va_K.moved hW.alike hK, hD⟩, hS.F ht⟩) hS.2.2 dX5_accepts_227
    refine lv_icmp_ne (tgt := 206) hx hb dX5_accepts_199 (by decide) (fun c38 => ?_) (fun c38 => ?_)
    · have h := pw_lt_p c38 h
      refine lv_iconst (v := 0) hx hb dX5_accepts_206 (by decide) ?_
      have hl := lv_sub (l' := [(2, .int x2)]) hl [2] rfl
      exact K41 0 (pw_lt_0 h) _ locs ls hP hD hS hl
    · have h := pw_lt_n (fun q => q c38) h
      refine lv_iconst (v := 1) hx hb dX5_accepts_202 (by decide) ?_
      refine lv_goto (tgt := 207) hx hb dX5_accepts_203 (by decide) ?_
      have hl := lv_sub (l' := [(2, .int x2)]) hl [2] rfl
      exact K41 1 (pw_lt_0 h) _ locs ls hP hD hS hl
  have h := pw_cd_n c37 h
  by_cases c49 : p0_stage = 6
  · have h := pw_cd_p c49 h
    refine lv_tableIn (off := 224) (tgt := 228) hx hb dX5_accepts_4 (by rw [c49]; decide) (by rw [c49]; decide) (by rw [c49]; decide) (by decide) ?_
    refine lv_aload_n hx hb dX5_accepts_228 rfl (lv_at hl 0 rfl) ?_
    refine lv_bipush (v := 7) hx hb dX5_accepts_229 (by decide) ?_
    refine va_put (D := (dC, dI)) (ci := 4) (v := .int 7) (ty := .int) (C := RX5) (T := TX5) (N := 4) hx hb hts li_X5_accepts_X5 tyX5 tyX5_ok nmX5 hown hK hP hD hS 0 rfl rfl 0 (by decide) (hts _ lk_X5_accepts_11) (fun _ h9 => h9) rfl (by decide +kernel) rfl rfl (Nat.le_of_ble_eq_true rfl) dX5_accepts_231 (fun H locs hP hD hS => ?_)
    have hP : va_P (dC, dI) vwCl [(a_p0, .inr (4, [.int 7, .int p0_kind, .int p0_first, .int p0_second])), (a_p1, .inr (3, [.int p1_round, .int p1_byTurns, .int p1_apart, .int p1_people, .int p1_women, .long p1_couples, .long p1_quarrels, .long p1_togethers, .long p1_barred, .ref a_p1_worths])), (a_p1_worths, .inl (cI, 64, .inl p1_worths_v))] H := hP
    have hD : va_D A [(a_p0, .inr (4, [.int 7, .int p0_kind, .int p0_first, .int p0_second])), (a_p1, .inr (3, [.int p1_round, .int p1_byTurns, .int p1_apart, .int p1_people, .int p1_women, .long p1_couples, .long p1_quarrels, .long p1_togethers, .long p1_barred, .ref a_p1_worths])), (a_p1_worths, .inl (cI, 64, .inl p1_worths_v))] := hD
    refine lv_aload_n hx hb dX5_accepts_234 rfl (lv_at hl 0 rfl) ?_
    refine lv_iload_n hx hb dX5_accepts_235 rfl (lv_at hl 2 rfl) ?_
    refine lv_bipush (v := 48) hx hb dX5_accepts_236 (by decide) ?_
    refine lv_isub hx hb dX5_accepts_238 ?_
    refine lv_topi (fun v50 ev50 => ?_)
    have h := pw_lt_e ev50 h
    refine va_put (D := (dC, dI)) (ci := 4) (v := .int v50) (ty := .int) (C := RX5) (T := TX5) (N := 4) hx hb hts li_X5_accepts_X5 tyX5 tyX5_ok nmX5 hown hK hP hD hS 0 rfl rfl 2 (by decide) (hts _ lk_X5_accepts_18) (fun _ h9 => h9) rfl (by decide +kernel) rfl rfl (Nat.le_of_ble_eq_true rfl) dX5_accepts_239 (fun H locs hP hD hS => ?_)
    have hP : va_P (dC, dI) vwCl [(a_p0, .inr (4, [.int 7, .int p0_kind, .int v50, .int p0_second])), (a_p1, .inr (3, [.int p1_round, .int p1_byTurns, .int p1_apart, .int p1_people, .int p1_women, .long p1_couples, .long p1_quarrels, .long p1_togethers, .long p1_barred, .ref a_p1_worths])), (a_p1_worths, .inl (cI, 64, .inl p1_worths_v))] H := hP
    have hD : va_D A [(a_p0, .inr (4, [.int 7, .int p0_kind, .int v50, .int p0_second])), (a_p1, .inr (3, [.int p1_round, .int p1_byTurns, .int p1_apart, .int p1_people, .int p1_women, .long p1_couples, .long p1_quarrels, .long p1_togethers, .long p1_barred, .ref a_p1_worths])), (a_p1_worths, .inl (cI, 64, .inl p1_worths_v))] := hD
    refine lv_aload_n hx hb dX5_accepts_242 rfl (lv_at hl 1 rfl) ?_
    refine lv_aload_n hx hb dX5_accepts_243 rfl (lv_at hl 0 rfl) ?_
    refine va_get (D := (dC, dI)) (ci := 4) (v := .int v50) (C := RX5) (T := TX5) (N := 4) hx hb hts li_X5_accepts_X5 hown hK hP 0 rfl rfl 2 (by decide) (hts _ lk_X5_accepts_18) (fun _ h9 => h9) rfl dX5_accepts_244 ?_
    refine pw_ci (wr := [(a_p0, .inr (4, [.int 7, .int p0_kind, .int v50, .int p0_second])), (a_p1_worths, .inl (cI, 64, .inl p1_worths_v))]) (va_runV (As := [.int v50]) (rest := []) ⟨hx, hb, hml, hown, hts⟩ (c_X4_hasPerson l dC dI cI cZ H.size a_p1 a_p1_worths p1_round p1_byTurns p1_apart p1_people p1_women p1_couples p1_quarrels p1_togethers p1_barred v50) (cwV 1 hts gX5_accepts_X4_hasPerson rfl rfl rfl (by decide +kernel) ⟨(Nat.le_of_ble_eq_true rfl), (Nat.le_of_ble_eq_true rfl)⟩) (pw_preV hK hP hD [1] rfl rfl (by decide) 3 rfl rfl) rfl rfl hl.1 rfl (lv_room (Nat.le_of_ble_eq_true rfl)) dX5_accepts_247 ⟨(Nat.le_of_ble_eq_true rfl), (Nat.le_of_ble_eq_true rfl)⟩) hP hD hS hA [1] [0, 2] rfl rfl (by decide) (by decide) (fun r51 u H locs hw hP hD hS => ?_)
    have h := pw_lt_e hw h
    have hP : va_P (dC, dI) vwCl [(a_p0, .inr (4, [.int 7, .int p0_kind, .int v50, .int p0_second])), (a_p1_worths, .inl (cI, 64, .inl p1_worths_v)), (a_p1, .inr (3, [.int p1_round, .int p1_byTurns, .int p1_apart, .int p1_people, .int p1_women, .long p1_couples, .long p1_quarrels, .long p1_togethers, .long p1_barred, .ref a_p1_worths]))] H := hP
    have hD : va_D A [(a_p0, .inr (4, [.int 7, .int p0_kind, .int v50, .int p0_second])), (a_p1_worths, .inl (cI, 64, .inl p1_worths_v)), (a_p1, .inr (3, [.int p1_round, .int p1_byTurns, .int p1_apart, .int p1_people, .int p1_women, .long p1_couples, .long p1_quarrels, .long p1_togethers, .long p1_barred, .ref a_p1_worths]))] := hD
    refine lv_if_eq (tgt := 269) hx hb dX5_accepts_250 (by decide) (fun c54 => ?_) (fun c54 => ?_)
    · have h := pw_cd_p c54 h
      refine lv_iconst (v := 0) hx hb dX5_accepts_269 (by decide) ?_
      have hP := hP.sub (ws' := [(a_p0, .inr (4, [.int 7, .int p0_kind, .int v50, .int p0_second])), (a_p1, .inr (3, [.int p1_round, .int p1_byTurns, .int p1_apart, .int p1_people, .int p1_women, .long p1_couples, .long p1_quarrels, .long p1_togethers, .long p1_barred, .ref a_p1_worths])), (a_p1_worths, .inl (cI, 64, .inl p1_worths_v))]) [0, 2, 1] rfl
      have hD := hD.sub (ws' := [(a_p0, .inr (4, [.int 7, .int p0_kind, .int v50, .int p0_second])), (a_p1, .inr (3, [.int p1_round, .int p1_byTurns, .int p1_apart, .int p1_people, .int p1_women, .long p1_couples, .long p1_quarrels, .long p1_togethers, .long p1_barred, .ref a_p1_worths])), (a_p1_worths, .inl (cI, 64, .inl p1_worths_v))]) [0, 2, 1] (by decide) rfl
      rw [hQ]
      exact W.zret (v := 0) hx hb hr rfl (fun t ht hW => ⟨⟨0, (7, p0_kind, v50, p0_second, p1_round, p1_byTurns, p1_apart, p1_people, p1_women, p1_couples, p1_quarrels, p1_togethers, p1_worths_v), rfl, hc.trans h.symm, by rw [ht]; exact hP, va_K.moved hW.alike hK, hD⟩, hS.F ht⟩) hS.2.2 dX5_accepts_270
    · have h := pw_cd_n c54 h
      refine lv_aload_n hx hb dX5_accepts_253 rfl (lv_at hl 0 rfl) ?_
      refine lv_aload_n hx hb dX5_accepts_254 rfl (lv_at hl 1 rfl) ?_
      refine lv_aload_n hx hb dX5_accepts_255 rfl (lv_at hl 0 rfl) ?_
      refine va_get (D := (dC, dI)) (ci := 4) (v := .int v50) (C := RX5) (T := TX5) (N := 4) hx hb hts li_X5_accepts_X5 hown hK hP 0 rfl rfl 2 (by decide) (hts _ lk_X5_accepts_18) (fun _ h9 => h9) rfl dX5_accepts_256 ?_
      obtain ⟨xx57, hc56, h⟩ := pw_bd_e h
      refine pw_ci (wr := []) (va_runV (As := [.ref a_p1, .int v50]) (rest := []) ⟨hx, hb, hml, hown, hts⟩ (c_X5_freeBeside l dC dI cI cZ H.size a_p0 a_p1 a_p1_worths 7 p0_kind v50 p0_second p1_round p1_byTurns p1_apart p1_people p1_women p1_couples p1_quarrels p1_togethers p1_barred p1_worths_v v50 xx57 hc56) (cwV 2 hts gX5_accepts_X5_freeBeside rfl rfl rfl (by decide +kernel) ⟨(Nat.le_of_ble_eq_true rfl), (Nat.le_of_ble_eq_true rfl)⟩) (pw_preV hK hP hD [0, 2, 1] rfl rfl (by decide) 4 rfl rfl) rfl rfl hl.1 rfl (lv_room (Nat.le_of_ble_eq_true rfl)) dX5_accepts_259 ⟨(Nat.le_of_ble_eq_true rfl), (Nat.le_of_ble_eq_true rfl)⟩) hP hD hS hA [0, 2, 1] [] rfl rfl (by decide) (by decide) (fun r55 u H locs hw hP hD hS => ?_)
      have ex : r55 = xx57 := Option.some.inj (hw.symm.trans hc56)
      subst ex
      have h := pw_u1_e h
      have hP : va_P (dC, dI) vwCl [(a_p0, .inr (4, [.int 7, .int p0_kind, .int v50, .int p0_second])), (a_p1, .inr (3, [.int p1_round, .int p1_byTurns, .int p1_apart, .int p1_people, .int p1_women, .long p1_couples, .long p1_quarrels, .long p1_togethers, .long p1_barred, .ref a_p1_worths])), (a_p1_worths, .inl (cI, 64, .inl p1_worths_v))] H := hP
      have hD : va_D A [(a_p0, .inr (4, [.int 7, .int p0_kind, .int v50, .int p0_second])), (a_p1, .inr (3, [.int p1_round, .int p1_byTurns, .int p1_apart, .int p1_people, .int p1_women, .long p1_couples, .long p1_quarrels, .long p1_togethers, .long p1_barred, .ref a_p1_worths])), (a_p1_worths, .inl (cI, 64, .inl p1_worths_v))] := hD
      refine lv_if_eq (tgt := 269) hx hb dX5_accepts_262 (by decide) (fun c58 => ?_) (fun c58 => ?_)
      · have h := pw_cd_p c58 h
        refine lv_iconst (v := 0) hx hb dX5_accepts_269 (by decide) ?_
        rw [hQ]
        exact W.zret (v := 0) hx hb hr rfl (fun t ht hW => ⟨⟨0, (7, p0_kind, v50, p0_second, p1_round, p1_byTurns, p1_apart, p1_people, p1_women, p1_couples, p1_quarrels, p1_togethers, p1_worths_v), rfl, hc.trans h.symm, by rw [ht]; exact hP, va_K.moved hW.alike hK, hD⟩, hS.F ht⟩) hS.2.2 dX5_accepts_270
      · have h := pw_cd_n c58 h
        refine lv_iconst (v := 1) hx hb dX5_accepts_265 (by decide) ?_
        refine lv_goto (tgt := 270) hx hb dX5_accepts_266 (by decide) ?_
        rw [hQ]
        exact W.zret (v := 1) hx hb hr rfl (fun t ht hW => ⟨⟨1, (7, p0_kind, v50, p0_second, p1_round, p1_byTurns, p1_apart, p1_people, p1_women, p1_couples, p1_quarrels, p1_togethers, p1_worths_v), rfl, hc.trans h.symm, by rw [ht]; exact hP, va_K.moved hW.alike hK, hD⟩, hS.F ht⟩) hS.2.2 dX5_accepts_270
  have h := pw_cd_n c49 h
  by_cases c59 : p0_stage = 7
  · have h := pw_cd_p c59 h
    refine lv_tableIn (off := 267) (tgt := 271) hx hb dX5_accepts_4 (by rw [c59]; decide) (by rw [c59]; decide) (by rw [c59]; decide) (by decide) ?_
    refine lv_aload_n hx hb dX5_accepts_271 rfl (lv_at hl 0 rfl) ?_
    refine lv_aload_n hx hb dX5_accepts_272 rfl (lv_at hl 1 rfl) ?_
    refine lv_iload_n hx hb dX5_accepts_273 rfl (lv_at hl 2 rfl) ?_
    refine lv_bipush (v := 48) hx hb dX5_accepts_274 (by decide) ?_
    refine lv_isub hx hb dX5_accepts_276 ?_
    obtain ⟨xx62, hc61, h⟩ := pw_bd_e h
    refine pw_ci (wr := []) (va_runV (As := [.ref a_p1, .int (x2 - 48)]) (rest := []) ⟨hx, hb, hml, hown, hts⟩ (c_X5_acceptsSecond l dC dI cI cZ s.heap.size a_p0 a_p1 a_p1_worths p0_stage p0_kind p0_first p0_second p1_round p1_byTurns p1_apart p1_people p1_women p1_couples p1_quarrels p1_togethers p1_barred p1_worths_v (x2 - 48) xx62 hc61) (cwV 2 hts gX5_accepts_X5_acceptsSecond rfl rfl rfl (by decide +kernel) ⟨(Nat.le_of_ble_eq_true rfl), (Nat.le_of_ble_eq_true rfl)⟩) (pw_preV hK hP hD [0, 1, 2] rfl rfl (by decide) 4 rfl rfl) rfl rfl hl.1 rfl (lv_room (Nat.le_of_ble_eq_true rfl)) dX5_accepts_277 ⟨(Nat.le_of_ble_eq_true rfl), (Nat.le_of_ble_eq_true rfl)⟩) hP hD hS hA [0, 1, 2] [] rfl rfl (by decide) (by decide) (fun r60 u H locs hw hP hD hS => ?_)
    obtain ⟨o63, o64, o65, o66⟩ := u
    have ex : (r60, o63, o64, o65, o66) = xx62 := Option.some.inj (hw.symm.trans hc61)
    subst ex
    have h := pw_u5_e h
    have hP : va_P (dC, dI) vwCl [(a_p0, .inr (4, [.int o63, .int p0_kind, .int p0_first, .int o64])), (a_p1, .inr (3, [.int p1_round, .int p1_byTurns, .int p1_apart, .int p1_people, .int p1_women, .long p1_couples, .long o65, .long o66, .long p1_barred, .ref a_p1_worths])), (a_p1_worths, .inl (cI, 64, .inl p1_worths_v))] H := hP
    have hD : va_D A [(a_p0, .inr (4, [.int o63, .int p0_kind, .int p0_first, .int o64])), (a_p1, .inr (3, [.int p1_round, .int p1_byTurns, .int p1_apart, .int p1_people, .int p1_women, .long p1_couples, .long o65, .long o66, .long p1_barred, .ref a_p1_worths])), (a_p1_worths, .inl (cI, 64, .inl p1_worths_v))] := hD
    obtain ⟨g67, h⟩ := pw_gd_e h
    rw [hQ]
    exact W.zret (v := r60) hx hb hr (pw_bz_n g67) (fun t ht hW => ⟨⟨r60, (o63, p0_kind, p0_first, o64, p1_round, p1_byTurns, p1_apart, p1_people, p1_women, p1_couples, o65, o66, p1_worths_v), rfl, hc.trans h.symm, by rw [ht]; exact hP, va_K.moved hW.alike hK, hD⟩, hS.F ht⟩) hS.2.2 dX5_accepts_280
  have h := pw_cd_n c59 h
  have zc1 := pw_swne (z := 0) c1 (by decide)
  have zc3 := pw_swne (z := 1) c3 (by decide)
  have zc11 := pw_swne (z := 2) c11 (by decide)
  have zc19 := pw_swne (z := 3) c19 (by decide)
  have zc27 := pw_swne (z := 4) c27 (by decide)
  have zc37 := pw_swne (z := 5) c37 (by decide)
  have zc49 := pw_swne (z := 6) c49 (by decide)
  have zc59 := pw_swne (z := 7) c59 (by decide)
  refine lv_tableOut (tgt := 281) hx hb dX5_accepts_4 (by omega) (by decide) ?_
  refine lv_aload_n hx hb dX5_accepts_281 rfl (lv_at hl 0 rfl) ?_
  refine lv_aload_n hx hb dX5_accepts_282 rfl (lv_at hl 1 rfl) ?_
  refine lv_iload_n hx hb dX5_accepts_283 rfl (lv_at hl 2 rfl) ?_
  refine lv_bipush (v := 48) hx hb dX5_accepts_284 (by decide) ?_
  refine lv_isub hx hb dX5_accepts_286 ?_
  obtain ⟨xx70, hc69, h⟩ := pw_bd_e h
  refine pw_ci (wr := []) (va_runV (As := [.ref a_p1, .int (x2 - 48)]) (rest := []) ⟨hx, hb, hml, hown, hts⟩ (c_X5_acceptsValue l dC dI cI cZ s.heap.size a_p0 a_p1 a_p1_worths p0_stage p0_kind p0_first p0_second p1_round p1_byTurns p1_apart p1_people p1_women p1_couples p1_quarrels p1_togethers p1_barred p1_worths_v (x2 - 48) xx70 hc69) (cwV 2 hts gX5_accepts_X5_acceptsValue rfl rfl rfl (by decide +kernel) ⟨(Nat.le_of_ble_eq_true rfl), (Nat.le_of_ble_eq_true rfl)⟩) (pw_preV hK hP hD [0, 1, 2] rfl rfl (by decide) 4 rfl rfl) rfl rfl hl.1 rfl (lv_room (Nat.le_of_ble_eq_true rfl)) dX5_accepts_287 ⟨(Nat.le_of_ble_eq_true rfl), (Nat.le_of_ble_eq_true rfl)⟩) hP hD hS hA [0, 1, 2] [] rfl rfl (by decide) (by decide) (fun r68 u H locs hw hP hD hS => ?_)
  obtain ⟨o71, o72⟩ := u
  have ex : (r68, o71, o72) = xx70 := Option.some.inj (hw.symm.trans hc69)
  subst ex
  have h := pw_u3_e h
  have hP : va_P (dC, dI) vwCl [(a_p0, .inr (4, [.int o71, .int p0_kind, .int p0_first, .int p0_second])), (a_p1, .inr (3, [.int p1_round, .int p1_byTurns, .int p1_apart, .int p1_people, .int p1_women, .long p1_couples, .long p1_quarrels, .long p1_togethers, .long p1_barred, .ref a_p1_worths])), (a_p1_worths, .inl (cI, 64, .inl o72))] H := hP
  have hD : va_D A [(a_p0, .inr (4, [.int o71, .int p0_kind, .int p0_first, .int p0_second])), (a_p1, .inr (3, [.int p1_round, .int p1_byTurns, .int p1_apart, .int p1_people, .int p1_women, .long p1_couples, .long p1_quarrels, .long p1_togethers, .long p1_barred, .ref a_p1_worths])), (a_p1_worths, .inl (cI, 64, .inl o72))] := hD
  obtain ⟨g73, h⟩ := pw_gd_e h
  rw [hQ]
  exact W.zret (v := r68) hx hb hr (pw_bz_n g73) (fun t ht hW => ⟨⟨r68, (o71, p0_kind, p0_first, p0_second, p1_round, p1_byTurns, p1_apart, p1_people, p1_women, p1_couples, p1_quarrels, p1_togethers, o72), rfl, hc.trans h.symm, by rw [ht]; exact hP, va_K.moved hW.alike hK, hD⟩, hS.F ht⟩) hS.2.2 dX5_accepts_290
/-! X5_faultOf -/
theorem li_X5_faultOf_X5 : ∀ w ∈ u_ws RX5 TX5 4, w ∈ wsX5_faultOf := fun w h => List.mem_cons_of_mem _ (List.mem_append_left _ (List.mem_append_left _ (List.mem_append_right _ h)))
theorem lk_X5_faultOf_11 : Cond.fieldLink RX5 11 "NoWifeBeside$Reader" "stage" "I" ∈ wsX5_faultOf := by decide +kernel
theorem li_X5_faultOf_X9 : ∀ w ∈ u_ws RX9 TX9 2, w ∈ wsX5_faultOf := fun w h => List.mem_cons_of_mem _ (List.mem_append_left _ (List.mem_append_right _ h))
theorem lk_X5_faultOf_29 : Cond.fieldLink RX5 29 "NoWifeBeside$Text" "length" "I" ∈ wsX5_faultOf := by decide +kernel
theorem lk_X5_faultOf_34 : Cond.fieldLink RX5 34 "NoWifeBeside$Text" "signs" "[I" ∈ wsX5_faultOf := by decide +kernel
abbrev rm_X5_faultOf : Room := { frames := 5, cells := 0, slots := 0, locals := 112 }
set_option maxRecDepth 100000 in
set_option maxHeartbeats 4000000 in
theorem lw_X5_faultOf_11 {p : Program} {l : Launch} {e : Env} {s : State} {m : MethodId} {args : Array Value} {below : List Frame} {meth : Method} {c : Code} {Q : State → Prop} {dC : Nat → ClassId} {dI : Nat → Nat → Nat} {cI cZ : ClassId} {A : Nat → Prop} (hx : p.tables.exec = Jvm.exec) (hb : c.code = cX5_faultOf) (hml : c.maxLocals = 4) (hown : s.vm.findClass RX5 = some m.cls) (hts : ∀ w ∈ wsX5_faultOf, w.before args s = true) (hA : ∀ q : Nat, s.heap.size ≤ q → A q) (hK : va_K (dC, dI) vwCl [(cI, .int), (cZ, .boolean)] s) (a_p0 : Nat) (a_p1 : Nat) (a_p1_signs : Nat) (a_p2 : Nat) (a_p2_worths : Nat) (p1_length : Int32) (p1_signs_v : Nat → Int32) (p2_barred : Int64) :
    ∀ (n : Nat) (l3 : Int32) (p0_stage : Int32) (p0_kind : Int32) (p0_first : Int32) (p0_second : Int32) (p2_round : Int32) (p2_byTurns : Int32) (p2_apart : Int32) (p2_people : Int32) (p2_women : Int32) (p2_couples : Int64) (p2_quarrels : Int64) (p2_togethers : Int64) (p2_worths_v : Nat → Int32) (xx : (Int32 × Int32 × Int32 × Int32 × Int32 × Int32 × Int32 × Int32 × Int32 × Int32 × Int64 × Int64 × Int64 × (Nat → Int32)) ⊕ (Int32 × Int32 × Int32 × Int32 × Int32 × Int32 × Int32 × Int32 × Int32 × Int64 × Int64 × Int64 × (Nat → Int32))), lf_X5_faultOf_11 p1_length p1_signs_v n l3 p0_stage p0_kind p0_first p0_second p2_round p2_byTurns p2_apart p2_people p2_women p2_couples p2_quarrels p2_togethers p2_worths_v = some xx → ((∀ (e_l3 : Int32) (e_p0_stage : Int32) (e_p0_kind : Int32) (e_p0_first : Int32) (e_p0_second : Int32) (e_p2_round : Int32) (e_p2_byTurns : Int32) (e_p2_apart : Int32) (e_p2_people : Int32) (e_p2_women : Int32) (e_p2_couples : Int64) (e_p2_quarrels : Int64) (e_p2_togethers : Int64) (e_p2_worths_v : Nat → Int32), Sum.inl (e_l3, e_p0_stage, e_p0_kind, e_p0_first, e_p0_second, e_p2_round, e_p2_byTurns, e_p2_apart, e_p2_people, e_p2_women, e_p2_couples, e_p2_quarrels, e_p2_togethers, e_p2_worths_v) = xx → ∀ (H : Heap) (locs : List Loc) (ls : Array Slot), va_P (dC, dI) vwCl [(a_p0, .inr (4, [.int e_p0_stage, .int e_p0_kind, .int e_p0_first, .int e_p0_second])), (a_p1, .inr (7, [.ref a_p1_signs, .int p1_length])), (a_p1_signs, .inl (cI, 64, .inl p1_signs_v)), (a_p2, .inr (3, [.int e_p2_round, .int e_p2_byTurns, .int e_p2_apart, .int e_p2_people, .int e_p2_women, .long e_p2_couples, .long e_p2_quarrels, .long e_p2_togethers, .long p2_barred, .ref a_p2_worths])), (a_p2_worths, .inl (cI, 64, .inl e_p2_worths_v))] H → va_D A [(a_p0, .inr (4, [.int e_p0_stage, .int e_p0_kind, .int e_p0_first, .int e_p0_second])), (a_p1, .inr (7, [.ref a_p1_signs, .int p1_length])), (a_p1_signs, .inl (cI, 64, .inl p1_signs_v)), (a_p2, .inr (3, [.int e_p2_round, .int e_p2_byTurns, .int e_p2_apart, .int e_p2_people, .int e_p2_women, .long e_p2_couples, .long e_p2_quarrels, .long e_p2_togethers, .long p2_barred, .ref a_p2_worths])), (a_p2_worths, .inl (cI, 64, .inl e_p2_worths_v))] → va_S A s.heap H locs → lv_has ls 4 [(3, .int e_l3)] → W p l e rm_X5_faultOf s m args below meth c H locs 0 0 Q (F0 m 42 ls [])) ∧ (∀ (e_p0_stage : Int32) (e_p0_kind : Int32) (e_p0_first : Int32) (e_p0_second : Int32) (e_p2_round : Int32) (e_p2_byTurns : Int32) (e_p2_apart : Int32) (e_p2_people : Int32) (e_p2_women : Int32) (e_p2_couples : Int64) (e_p2_quarrels : Int64) (e_p2_togethers : Int64) (e_p2_worths_v : Nat → Int32), Sum.inr (e_p0_stage, e_p0_kind, e_p0_first, e_p0_second, e_p2_round, e_p2_byTurns, e_p2_apart, e_p2_people, e_p2_women, e_p2_couples, e_p2_quarrels, e_p2_togethers, e_p2_worths_v) = xx → ∀ (H : Heap) (locs : List Loc) (ls : Array Slot), va_P (dC, dI) vwCl [(a_p0, .inr (4, [.int e_p0_stage, .int e_p0_kind, .int e_p0_first, .int e_p0_second])), (a_p1, .inr (7, [.ref a_p1_signs, .int p1_length])), (a_p1_signs, .inl (cI, 64, .inl p1_signs_v)), (a_p2, .inr (3, [.int e_p2_round, .int e_p2_byTurns, .int e_p2_apart, .int e_p2_people, .int e_p2_women, .long e_p2_couples, .long e_p2_quarrels, .long e_p2_togethers, .long p2_barred, .ref a_p2_worths])), (a_p2_worths, .inl (cI, 64, .inl e_p2_worths_v))] H → va_D A [(a_p0, .inr (4, [.int e_p0_stage, .int e_p0_kind, .int e_p0_first, .int e_p0_second])), (a_p1, .inr (7, [.ref a_p1_signs, .int p1_length])), (a_p1_signs, .inl (cI, 64, .inl p1_signs_v)), (a_p2, .inr (3, [.int e_p2_round, .int e_p2_byTurns, .int e_p2_apart, .int e_p2_people, .int e_p2_women, .long e_p2_couples, .long e_p2_quarrels, .long e_p2_togethers, .long p2_barred, .ref a_p2_worths])), (a_p2_worths, .inl (cI, 64, .inl e_p2_worths_v))] → va_S A s.heap H locs → lv_has ls 4 [(0, .ref a_p0), (1, .ref a_p1), (2, .ref a_p2)] → W p l e rm_X5_faultOf s m args below meth c H locs 0 0 Q (F0 m 50 ls []))) → ∀ (H : Heap) (locs : List Loc) (ls : Array Slot), va_P (dC, dI) vwCl [(a_p0, .inr (4, [.int p0_stage, .int p0_kind, .int p0_first, .int p0_second])), (a_p1, .inr (7, [.ref a_p1_signs, .int p1_length])), (a_p1_signs, .inl (cI, 64, .inl p1_signs_v)), (a_p2, .inr (3, [.int p2_round, .int p2_byTurns, .int p2_apart, .int p2_people, .int p2_women, .long p2_couples, .long p2_quarrels, .long p2_togethers, .long p2_barred, .ref a_p2_worths])), (a_p2_worths, .inl (cI, 64, .inl p2_worths_v))] H → va_D A [(a_p0, .inr (4, [.int p0_stage, .int p0_kind, .int p0_first, .int p0_second])), (a_p1, .inr (7, [.ref a_p1_signs, .int p1_length])), (a_p1_signs, .inl (cI, 64, .inl p1_signs_v)), (a_p2, .inr (3, [.int p2_round, .int p2_byTurns, .int p2_apart, .int p2_people, .int p2_women, .long p2_couples, .long p2_quarrels, .long p2_togethers, .long p2_barred, .ref a_p2_worths])), (a_p2_worths, .inl (cI, 64, .inl p2_worths_v))] → va_S A s.heap H locs → lv_has ls 4 [(0, .ref a_p0), (1, .ref a_p1), (2, .ref a_p2), (3, .int l3)] → W p l e rm_X5_faultOf s m args below meth c H locs 0 0 Q (F0 m 11 ls []) := by
  intro n
  induction n with
  | zero =>
    intro l3 p0_stage p0_kind p0_first p0_second p2_round p2_byTurns p2_apart p2_people p2_women p2_couples p2_quarrels p2_togethers p2_worths_v xx h
    rw [lf_X5_faultOf_11] at h
    cases h
  | succ n ih =>
    intro l3 p0_stage p0_kind p0_first p0_second p2_round p2_byTurns p2_apart p2_people p2_women p2_couples p2_quarrels p2_togethers p2_worths_v xx h KK H locs ls hP hD hS hl
    rw [lf_X5_faultOf_11] at h
    refine lv_iload_n hx hb dX5_faultOf_11 rfl (lv_at hl 3 rfl) ?_
    refine lv_aload_n hx hb dX5_faultOf_12 rfl (lv_at hl 1 rfl) ?_
    refine va_get (D := (dC, dI)) (ci := 7) (v := .int p1_length) (C := RX9) (T := TX9) (N := 2) hx hb hts li_X5_faultOf_X9 hown hK hP 1 rfl rfl 1 (by decide) (hts _ lk_X5_faultOf_29) (fun _ h9 => h9) rfl dX5_faultOf_13 ?_
    refine lv_icmp_ge (tgt := 50) hx hb dX5_faultOf_16 (by decide) (fun c14 => ?_) (fun c14 => ?_)
    · have h := pw_cd_p c14 h
      have hl := lv_sub (l' := [(0, .ref a_p0), (1, .ref a_p1), (2, .ref a_p2)]) hl [0, 1, 2] rfl
      exact KK.2 p0_stage p0_kind p0_first p0_second p2_round p2_byTurns p2_apart p2_people p2_women p2_couples p2_quarrels p2_togethers p2_worths_v (Option.some.inj h) _ locs ls hP hD hS hl
    · have h := pw_cd_n c14 h
      refine lv_iload_n hx hb dX5_faultOf_19 rfl (lv_at hl 3 rfl) ?_
      refine lv_aload_n hx hb dX5_faultOf_20 rfl (lv_at hl 1 rfl) ?_
      refine va_get (D := (dC, dI)) (ci := 7) (v := .ref a_p1_signs) (C := RX9) (T := TX9) (N := 2) hx hb hts li_X5_faultOf_X9 hown hK hP 1 rfl rfl 0 (by decide) (hts _ lk_X5_faultOf_34) (fun _ h9 => h9) rfl dX5_faultOf_21 ?_
      refine va_alen hx hb hK hP 2 0 rfl rfl (v := 64) rfl dX5_faultOf_24 ?_
      refine lv_topi (fun v15 ev15 => ?_)
      have h := pw_lt_e ev15 h
      refine lv_icmp_ge (tgt := 50) hx hb dX5_faultOf_25 (by decide) (fun c16 => ?_) (fun c16 => ?_)
      · have h := pw_cd_p c16 h
        have hl := lv_sub (l' := [(0, .ref a_p0), (1, .ref a_p1), (2, .ref a_p2)]) hl [0, 1, 2] rfl
        exact KK.2 p0_stage p0_kind p0_first p0_second p2_round p2_byTurns p2_apart p2_people p2_women p2_couples p2_quarrels p2_togethers p2_worths_v (Option.some.inj h) _ locs ls hP hD hS hl
      · have h := pw_cd_n c16 h
        refine lv_aload_n hx hb dX5_faultOf_28 rfl (lv_at hl 0 rfl) ?_
        refine lv_aload_n hx hb dX5_faultOf_29 rfl (lv_at hl 2 rfl) ?_
        refine lv_aload_n hx hb dX5_faultOf_30 rfl (lv_at hl 1 rfl) ?_
        refine va_get (D := (dC, dI)) (ci := 7) (v := .ref a_p1_signs) (C := RX9) (T := TX9) (N := 2) hx hb hts li_X5_faultOf_X9 hown hK hP 1 rfl rfl 0 (by decide) (hts _ lk_X5_faultOf_34) (fun _ h9 => h9) rfl dX5_faultOf_31 ?_
        refine lv_iload_n hx hb dX5_faultOf_34 rfl (lv_at hl 3 rfl) ?_
        obtain ⟨g17, h⟩ := pw_gd_e h
        refine va_iald hx hb hK hP 2 0 rfl rfl g17 dX5_faultOf_35 ?_
        obtain ⟨xx20, hc19, h⟩ := pw_bd_e h
        refine pw_ci (wr := [(a_p1, .inr (7, [.ref a_p1_signs, .int p1_length])), (a_p1_signs, .inl (cI, 64, .inl p1_signs_v))]) (va_runV (As := [.ref a_p2, .int (p1_signs_v (Int32.toNatClampNeg l3))]) (rest := []) ⟨hx, hb, hml, hown, hts⟩ (c_X5_accepts l dC dI cI cZ H.size a_p0 a_p2 a_p2_worths p0_stage p0_kind p0_first p0_second p2_round p2_byTurns p2_apart p2_people p2_women p2_couples p2_quarrels p2_togethers p2_barred p2_worths_v (p1_signs_v (Int32.toNatClampNeg l3)) xx20 hc19) (cwV 2 hts gX5_faultOf_X5_accepts rfl rfl rfl (by decide +kernel) ⟨(Nat.le_of_ble_eq_true rfl), (Nat.le_of_ble_eq_true rfl)⟩) (pw_preV hK hP hD [0, 3, 4] rfl rfl (by decide) 4 rfl rfl) rfl rfl hl.1 rfl (lv_room (Nat.le_of_ble_eq_true rfl)) dX5_faultOf_36 ⟨(Nat.le_of_ble_eq_true rfl), (Nat.le_of_ble_eq_true rfl)⟩) hP hD hS hA [0, 3, 4] [1, 2] rfl rfl (by decide) (by decide) (fun r18 u H locs hw hP hD hS => ?_)
        obtain ⟨o21, o22, o23, o24, o25, o26, o27, o28, o29, o30, o31, o32, o33⟩ := u
        have ex : (r18, o21, o22, o23, o24, o25, o26, o27, o28, o29, o30, o31, o32, o33) = xx20 := Option.some.inj (hw.symm.trans hc19)
        subst ex
        have h := pw_u14_e h
        have hP : va_P (dC, dI) vwCl [(a_p1, .inr (7, [.ref a_p1_signs, .int p1_length])), (a_p1_signs, .inl (cI, 64, .inl p1_signs_v)), (a_p0, .inr (4, [.int o21, .int o22, .int o23, .int o24])), (a_p2, .inr (3, [.int o25, .int o26, .int o27, .int o28, .int o29, .long o30, .long o31, .long o32, .long p2_barred, .ref a_p2_worths])), (a_p2_worths, .inl (cI, 64, .inl o33))] H := hP
        have hD : va_D A [(a_p1, .inr (7, [.ref a_p1_signs, .int p1_length])), (a_p1_signs, .inl (cI, 64, .inl p1_signs_v)), (a_p0, .inr (4, [.int o21, .int o22, .int o23, .int o24])), (a_p2, .inr (3, [.int o25, .int o26, .int o27, .int o28, .int o29, .long o30, .long o31, .long o32, .long p2_barred, .ref a_p2_worths])), (a_p2_worths, .inl (cI, 64, .inl o33))] := hD
        refine lv_if_ne (tgt := 44) hx hb dX5_faultOf_39 (by decide) (fun c34 => ?_) (fun c34 => ?_)
        · have h := pw_cd_p c34 h
          refine lv_iinc (v := (l3 + 1)) (lv' := [(3, .int (l3 + 1)), (0, .ref a_p0), (1, .ref a_p1), (2, .ref a_p2)]) hx hb dX5_faultOf_44 hl (k := 3) rfl rfl (by decide) rfl (fun ls hl => ?_)
          refine lv_goto (tgt := 11) hx hb dX5_faultOf_47 (by decide) ?_
          have hP := hP.sub (ws' := [(a_p0, .inr (4, [.int o21, .int o22, .int o23, .int o24])), (a_p1, .inr (7, [.ref a_p1_signs, .int p1_length])), (a_p1_signs, .inl (cI, 64, .inl p1_signs_v)), (a_p2, .inr (3, [.int o25, .int o26, .int o27, .int o28, .int o29, .long o30, .long o31, .long o32, .long p2_barred, .ref a_p2_worths])), (a_p2_worths, .inl (cI, 64, .inl o33))]) [2, 0, 1, 3, 4] rfl
          have hD := hD.sub (ws' := [(a_p0, .inr (4, [.int o21, .int o22, .int o23, .int o24])), (a_p1, .inr (7, [.ref a_p1_signs, .int p1_length])), (a_p1_signs, .inl (cI, 64, .inl p1_signs_v)), (a_p2, .inr (3, [.int o25, .int o26, .int o27, .int o28, .int o29, .long o30, .long o31, .long o32, .long p2_barred, .ref a_p2_worths])), (a_p2_worths, .inl (cI, 64, .inl o33))]) [2, 0, 1, 3, 4] (by decide) rfl
          have hl := lv_sub (l' := [(0, .ref a_p0), (1, .ref a_p1), (2, .ref a_p2), (3, .int (l3 + 1))]) hl [1, 2, 3, 0] rfl
          exact ih (l3 + 1) o21 o22 o23 o24 o25 o26 o27 o28 o29 o30 o31 o32 o33 xx h KK _ locs ls hP hD hS hl
        · have h := pw_cd_n (fun q => q c34) h
          have hP := hP.sub (ws' := [(a_p0, .inr (4, [.int o21, .int o22, .int o23, .int o24])), (a_p1, .inr (7, [.ref a_p1_signs, .int p1_length])), (a_p1_signs, .inl (cI, 64, .inl p1_signs_v)), (a_p2, .inr (3, [.int o25, .int o26, .int o27, .int o28, .int o29, .long o30, .long o31, .long o32, .long p2_barred, .ref a_p2_worths])), (a_p2_worths, .inl (cI, 64, .inl o33))]) [2, 0, 1, 3, 4] rfl
          have hD := hD.sub (ws' := [(a_p0, .inr (4, [.int o21, .int o22, .int o23, .int o24])), (a_p1, .inr (7, [.ref a_p1_signs, .int p1_length])), (a_p1_signs, .inl (cI, 64, .inl p1_signs_v)), (a_p2, .inr (3, [.int o25, .int o26, .int o27, .int o28, .int o29, .long o30, .long o31, .long o32, .long p2_barred, .ref a_p2_worths])), (a_p2_worths, .inl (cI, 64, .inl o33))]) [2, 0, 1, 3, 4] (by decide) rfl
          have hl := lv_sub (l' := [(3, .int l3)]) hl [3] rfl
          exact KK.1 l3 o21 o22 o23 o24 o25 o26 o27 o28 o29 o30 o31 o32 o33 (Option.some.inj h) _ locs ls hP hD hS hl
set_option maxRecDepth 100000 in
set_option maxHeartbeats 4000000 in
theorem c_X5_faultOf (l : Launch) (dC : Nat → ClassId) (dI : Nat → Nat → Nat) (cI cZ : ClassId) (sz : Nat) (a_p0 : Nat) (a_p1 : Nat) (a_p1_signs : Nat) (a_p2 : Nat) (a_p2_worths : Nat) (p0_stage : Int32) (p0_kind : Int32) (p0_first : Int32) (p0_second : Int32) (p1_length : Int32) (p1_signs_v : Nat → Int32) (p2_round : Int32) (p2_byTurns : Int32) (p2_apart : Int32) (p2_people : Int32) (p2_women : Int32) (p2_couples : Int64) (p2_quarrels : Int64) (p2_togethers : Int64) (p2_barred : Int64) (p2_worths_v : Nat → Int32) (xx : Int32 × Int32 × Int32 × Int32 × Int32 × Int32 × Int32 × Int32 × Int32 × Int32 × Int64 × Int64 × Int64 × Int64 × (Nat → Int32)) (hc : f_X5_faultOf p0_kind p0_first p0_second p1_length p1_signs_v p2_worths_v = some xx) : Met l yX5_faultOf wsX5_faultOf rm_X5_faultOf (va_Pc [.ref a_p0, .ref a_p1, .ref a_p2] (pw_pre (dC, dI) cI cZ [(a_p0, .inr (4, [.int p0_stage, .int p0_kind, .int p0_first, .int p0_second])), (a_p1, .inr (7, [.ref a_p1_signs, .int p1_length])), (a_p1_signs, .inl (cI, 64, .inl p1_signs_v)), (a_p2, .inr (3, [.int p2_round, .int p2_byTurns, .int p2_apart, .int p2_people, .int p2_women, .long p2_couples, .long p2_quarrels, .long p2_togethers, .long p2_barred, .ref a_p2_worths])), (a_p2_worths, .inl (cI, 64, .inl p2_worths_v))] sz)) (va_Qi (fun (r : Int32) (u : Int32 × Int32 × Int32 × Int32 × Int32 × Int32 × Int32 × Int32 × Int32 × Int64 × Int64 × Int64 × Int64 × (Nat → Int32)) => f_X5_faultOf p0_kind p0_first p0_second p1_length p1_signs_v p2_worths_v = some (r, u.1, u.2.1, u.2.2.1, u.2.2.2.1, u.2.2.2.2.1, u.2.2.2.2.2.1, u.2.2.2.2.2.2.1, u.2.2.2.2.2.2.2.1, u.2.2.2.2.2.2.2.2.1, u.2.2.2.2.2.2.2.2.2.1, u.2.2.2.2.2.2.2.2.2.2.1, u.2.2.2.2.2.2.2.2.2.2.2.1, u.2.2.2.2.2.2.2.2.2.2.2.2.1, u.2.2.2.2.2.2.2.2.2.2.2.2.2)) (fun u t => pw_post (dC, dI) cI cZ (va_A [(a_p0, .inr (4, [.int p0_stage, .int p0_kind, .int p0_first, .int p0_second])), (a_p1, .inr (7, [.ref a_p1_signs, .int p1_length])), (a_p1_signs, .inl (cI, 64, .inl p1_signs_v)), (a_p2, .inr (3, [.int p2_round, .int p2_byTurns, .int p2_apart, .int p2_people, .int p2_women, .long p2_couples, .long p2_quarrels, .long p2_togethers, .long p2_barred, .ref a_p2_worths])), (a_p2_worths, .inl (cI, 64, .inl p2_worths_v))] sz) [(a_p0, .inr (4, [.int u.1, .int u.2.1, .int u.2.2.1, .int u.2.2.2.1])), (a_p1, .inr (7, [.ref a_p1_signs, .int p1_length])), (a_p1_signs, .inl (cI, 64, .inl p1_signs_v)), (a_p2, .inr (3, [.int u.2.2.2.2.1, .int u.2.2.2.2.2.1, .int u.2.2.2.2.2.2.1, .int u.2.2.2.2.2.2.2.1, .int u.2.2.2.2.2.2.2.2.1, .long u.2.2.2.2.2.2.2.2.2.1, .long u.2.2.2.2.2.2.2.2.2.2.1, .long u.2.2.2.2.2.2.2.2.2.2.2.1, .long u.2.2.2.2.2.2.2.2.2.2.2.2.1, .ref a_p2_worths])), (a_p2_worths, .inl (cI, 64, .inl u.2.2.2.2.2.2.2.2.2.2.2.2.2))] t) (va_A [(a_p0, .inr (4, [.int p0_stage, .int p0_kind, .int p0_first, .int p0_second])), (a_p1, .inr (7, [.ref a_p1_signs, .int p1_length])), (a_p1_signs, .inl (cI, 64, .inl p1_signs_v)), (a_p2, .inr (3, [.int p2_round, .int p2_byTurns, .int p2_apart, .int p2_people, .int p2_women, .long p2_couples, .long p2_quarrels, .long p2_togethers, .long p2_barred, .ref a_p2_worths])), (a_p2_worths, .inl (cI, 64, .inl p2_worths_v))] sz)) 0 0 (va_A [(a_p0, .inr (4, [.int p0_stage, .int p0_kind, .int p0_first, .int p0_second])), (a_p1, .inr (7, [.ref a_p1_signs, .int p1_length])), (a_p1_signs, .inl (cI, 64, .inl p1_signs_v)), (a_p2, .inr (3, [.int p2_round, .int p2_byTurns, .int p2_apart, .int p2_people, .int p2_women, .long p2_couples, .long p2_quarrels, .long p2_togethers, .long p2_barred, .ref a_p2_worths])), (a_p2_worths, .inl (cI, 64, .inl p2_worths_v))] sz) := by
  refine Met.ofW (cc := cX5_faultOf) (maxL := 4) (ret := (some .int)) (by decide) rfl ?_
  intro p e s m args below meth c s₁ B hml hv
  obtain ⟨rfl, hsz, hP, hK, hD0⟩ := hv
  have hx := B.exec
  have hb := B.bytes
  have hr := B.returns
  have hts := atoms_spec (ws := wsX5_faultOf) B.pre
  have hown : s.vm.findClass RX5 = some m.cls := findClass_of_methodNamed B.named
  have hlocks := B.notSynchronized
  subst hsz
  have hD := hD0.self (sz := s.heap.size)
  generalize hAe : va_A [(a_p0, .inr (4, [.int p0_stage, .int p0_kind, .int p0_first, .int p0_second])), (a_p1, .inr (7, [.ref a_p1_signs, .int p1_length])), (a_p1_signs, .inl (cI, 64, .inl p1_signs_v)), (a_p2, .inr (3, [.int p2_round, .int p2_byTurns, .int p2_apart, .int p2_people, .int p2_women, .long p2_couples, .long p2_quarrels, .long p2_togethers, .long p2_barred, .ref a_p2_worths])), (a_p2_worths, .inl (cI, 64, .inl p2_worths_v))] s.heap.size = A at hD ⊢
  have hA : ∀ q : Nat, s.heap.size ≤ q → A q := fun q h => by rw [← hAe]; exact Or.inr h
  have hS : va_S A s.heap s.heap [] := va_S.rf
  have hP : va_P (dC, dI) vwCl [(a_p0, .inr (4, [.int p0_stage, .int p0_kind, .int p0_first, .int p0_second])), (a_p1, .inr (7, [.ref a_p1_signs, .int p1_length])), (a_p1_signs, .inl (cI, 64, .inl p1_signs_v)), (a_p2, .inr (3, [.int p2_round, .int p2_byTurns, .int p2_apart, .int p2_people, .int p2_women, .long p2_couples, .long p2_quarrels, .long p2_togethers, .long p2_barred, .ref a_p2_worths])), (a_p2_worths, .inl (cI, 64, .inl p2_worths_v))] s.heap := hP
  have hl := lv_entry ([.ref a_p0, .ref a_p1, .ref a_p2]) (n := 4) (Nat.le_of_ble_eq_true rfl)
  rw [lg_entry_eq]
  generalize (lg_sl ([.ref a_p0, .ref a_p1, .ref a_p2]) ++ List.replicate (4 - (lg_sl ([.ref a_p0, .ref a_p1, .ref a_p2])).length) Slot.unset).toArray = ls at hl ⊢
  have hl : lv_has ls 4 [(0, .ref a_p0), (1, .ref a_p1), (2, .ref a_p2)] := hl
  refine pw_Wq (R := rm_X5_faultOf) (fun Q hQ => ?_)
  obtain ⟨locs, elocs⟩ : ∃ y : List Loc, y = [] := ⟨_, rfl⟩
  rw [← elocs] at hS ⊢
  have h := hc
  unfold f_X5_faultOf at h
  refine lv_aload_n hx hb dX5_faultOf_0 rfl (lv_at hl 2 rfl) ?_
  obtain ⟨xx3, hc2, h⟩ := pw_bd_e h
  refine pw_cv (wr := [(a_p0, .inr (4, [.int p0_stage, .int p0_kind, .int p0_first, .int p0_second])), (a_p1, .inr (7, [.ref a_p1_signs, .int p1_length])), (a_p1_signs, .inl (cI, 64, .inl p1_signs_v))]) (va_runV (As := []) (rest := []) ⟨hx, hb, hml, hown, hts⟩ (c_X4_clear l dC dI cI cZ s.heap.size a_p2 a_p2_worths p2_round p2_byTurns p2_apart p2_people p2_women p2_couples p2_quarrels p2_togethers p2_barred p2_worths_v xx3 hc2) (cwV 0 hts gX5_faultOf_X4_clear rfl rfl rfl (by decide +kernel) ⟨(Nat.le_of_ble_eq_true rfl), (Nat.le_of_ble_eq_true rfl)⟩) (pw_preV hK hP hD [3, 4] rfl rfl (by decide) 3 rfl rfl) rfl rfl hl.1 rfl (lv_room (Nat.le_of_ble_eq_true rfl)) dX5_faultOf_1 ⟨(Nat.le_of_ble_eq_true rfl), (Nat.le_of_ble_eq_true rfl)⟩) hP hD hS hA [3, 4] [0, 1, 2] rfl rfl (by decide) (by decide) (fun u H locs hw hP hD hS => ?_)
  obtain ⟨o4, o5, o6, o7, o8, o9, o10, o11, o12, o13⟩ := u
  have ex : (o4, o5, o6, o7, o8, o9, o10, o11, o12, o13) = xx3 := Option.some.inj (hw.symm.trans hc2)
  subst ex
  have h := pw_u10_e h
  have hP : va_P (dC, dI) vwCl [(a_p0, .inr (4, [.int p0_stage, .int p0_kind, .int p0_first, .int p0_second])), (a_p1, .inr (7, [.ref a_p1_signs, .int p1_length])), (a_p1_signs, .inl (cI, 64, .inl p1_signs_v)), (a_p2, .inr (3, [.int o4, .int o5, .int o6, .int o7, .int o8, .long o9, .long o10, .long o11, .long o12, .ref a_p2_worths])), (a_p2_worths, .inl (cI, 64, .inl o13))] H := hP
  have hD : va_D A [(a_p0, .inr (4, [.int p0_stage, .int p0_kind, .int p0_first, .int p0_second])), (a_p1, .inr (7, [.ref a_p1_signs, .int p1_length])), (a_p1_signs, .inl (cI, 64, .inl p1_signs_v)), (a_p2, .inr (3, [.int o4, .int o5, .int o6, .int o7, .int o8, .long o9, .long o10, .long o11, .long o12, .ref a_p2_worths])), (a_p2_worths, .inl (cI, 64, .inl o13))] := hD
  refine lv_aload_n hx hb dX5_faultOf_4 rfl (lv_at hl 0 rfl) ?_
  refine lv_iconst (v := 0) hx hb dX5_faultOf_5 (by decide) ?_
  refine va_put (D := (dC, dI)) (ci := 4) (v := .int 0) (ty := .int) (C := RX5) (T := TX5) (N := 4) hx hb hts li_X5_faultOf_X5 tyX5 tyX5_ok nmX5 hown hK hP hD hS 0 rfl rfl 0 (by decide) (hts _ lk_X5_faultOf_11) (fun _ h9 => h9) rfl (by decide +kernel) rfl rfl (Nat.le_of_ble_eq_true rfl) dX5_faultOf_6 (fun H locs hP hD hS => ?_)
  have hP : va_P (dC, dI) vwCl [(a_p0, .inr (4, [.int 0, .int p0_kind, .int p0_first, .int p0_second])), (a_p1, .inr (7, [.ref a_p1_signs, .int p1_length])), (a_p1_signs, .inl (cI, 64, .inl p1_signs_v)), (a_p2, .inr (3, [.int o4, .int o5, .int o6, .int o7, .int o8, .long o9, .long o10, .long o11, .long o12, .ref a_p2_worths])), (a_p2_worths, .inl (cI, 64, .inl o13))] H := hP
  have hD : va_D A [(a_p0, .inr (4, [.int 0, .int p0_kind, .int p0_first, .int p0_second])), (a_p1, .inr (7, [.ref a_p1_signs, .int p1_length])), (a_p1_signs, .inl (cI, 64, .inl p1_signs_v)), (a_p2, .inr (3, [.int o4, .int o5, .int o6, .int o7, .int o8, .long o9, .long o10, .long o11, .long o12, .ref a_p2_worths])), (a_p2_worths, .inl (cI, 64, .inl o13))] := hD
  refine lv_iconst (v := 0) hx hb dX5_faultOf_9 (by decide) ?_
  refine lv_istore_n (lv' := [(3, .int 0), (0, .ref a_p0), (1, .ref a_p1), (2, .ref a_p2)]) hx hb dX5_faultOf_10 rfl hl (by decide) rfl (fun ls hl => ?_)
  have hl := lv_sub (l' := [(0, .ref a_p0), (1, .ref a_p1), (2, .ref a_p2), (3, .int 0)]) hl [1, 2, 3, 0] rfl
  obtain ⟨xx35, hL36, h⟩ := pw_bs_e h
  refine lw_X5_faultOf_11 hx hb hml hown hts hA hK a_p0 a_p1 a_p1_signs a_p2 a_p2_worths p1_length p1_signs_v o12 pw_FU 0 0 p0_kind p0_first p0_second o4 o5 o6 o7 o8 o9 o10 o11 o13 xx35 hL36 ⟨?_, ?_⟩ _ locs ls hP hD hS hl
  · intro y37 y38 y39 y40 y41 y42 y43 y44 y45 y46 y47 y48 y49 y50 ex H locs ls hP hD hS hl
    subst ex
    have h := pw_sl_e h
    have h := pw_u14_e h
    refine lv_iload_n hx hb dX5_faultOf_42 rfl (lv_at hl 0 rfl) ?_
    rw [hQ]
    exact W.iret (v := y37) hx hb hr (fun t ht hW => ⟨⟨y37, (y38, y39, y40, y41, y42, y43, y44, y45, y46, y47, y48, y49, o12, y50), rfl, hc.trans h.symm, by rw [ht]; exact hP, va_K.moved hW.alike hK, hD⟩, hS.F ht⟩) hS.2.2 dX5_faultOf_43
  · intro y51 y52 y53 y54 y55 y56 y57 y58 y59 y60 y61 y62 y63 ex H locs ls hP hD hS hl
    subst ex
    have h := pw_sr_e h
    have h := pw_u13_e h
    refine lv_aload_n hx hb dX5_faultOf_50 rfl (lv_at hl 0 rfl) ?_
    refine va_get (D := (dC, dI)) (ci := 4) (v := .int y51) (C := RX5) (T := TX5) (N := 4) hx hb hts li_X5_faultOf_X5 hown hK hP 0 rfl rfl 0 (by decide) (hts _ lk_X5_faultOf_11) (fun _ h9 => h9) rfl dX5_faultOf_51 ?_
    refine lv_iconst (v := 4) hx hb dX5_faultOf_54 (by decide) ?_
    refine lv_icmp_eq (tgt := 63) hx hb dX5_faultOf_55 (by decide) (fun c64 => ?_) (fun c64 => ?_)
    · have h := pw_cd_p c64 h
      refine lv_aload_n hx hb dX5_faultOf_63 rfl (lv_at hl 2 rfl) ?_
      obtain ⟨xx67, hc66, h⟩ := pw_bd_e h
      refine pw_cv (wr := [(a_p0, .inr (4, [.int y51, .int y52, .int y53, .int y54])), (a_p1, .inr (7, [.ref a_p1_signs, .int p1_length])), (a_p1_signs, .inl (cI, 64, .inl p1_signs_v)), (a_p2_worths, .inl (cI, 64, .inl y63))]) (va_runV (As := []) (rest := []) ⟨hx, hb, hml, hown, hts⟩ (c_X4_settleWhoIsBarred l dC dI cI cZ H.size a_p2 a_p2_worths y55 y56 y57 y58 y59 y60 y61 y62 o12 xx67 hc66) (cwV 0 hts gX5_faultOf_X4_settleWhoIsBarred rfl rfl rfl (by decide +kernel) ⟨(Nat.le_of_ble_eq_true rfl), (Nat.le_of_ble_eq_true rfl)⟩) (pw_preV hK hP hD [3] rfl rfl (by decide) 3 rfl rfl) rfl rfl hl.1 rfl (lv_room (Nat.le_of_ble_eq_true rfl)) dX5_faultOf_64 ⟨(Nat.le_of_ble_eq_true rfl), (Nat.le_of_ble_eq_true rfl)⟩) hP hD hS hA [3] [0, 1, 2, 4] rfl rfl (by decide) (by decide) (fun o68 H locs hw hP hD hS => ?_)
      have ex : o68 = xx67 := Option.some.inj (hw.symm.trans hc66)
      subst ex
      have h := pw_u1_e h
      have hP : va_P (dC, dI) vwCl [(a_p0, .inr (4, [.int y51, .int y52, .int y53, .int y54])), (a_p1, .inr (7, [.ref a_p1_signs, .int p1_length])), (a_p1_signs, .inl (cI, 64, .inl p1_signs_v)), (a_p2_worths, .inl (cI, 64, .inl y63)), (a_p2, .inr (3, [.int y55, .int y56, .int y57, .int y58, .int y59, .long y60, .long y61, .long y62, .long o68, .ref a_p2_worths]))] H := hP
      have hD : va_D A [(a_p0, .inr (4, [.int y51, .int y52, .int y53, .int y54])), (a_p1, .inr (7, [.ref a_p1_signs, .int p1_length])), (a_p1_signs, .inl (cI, 64, .inl p1_signs_v)), (a_p2_worths, .inl (cI, 64, .inl y63)), (a_p2, .inr (3, [.int y55, .int y56, .int y57, .int y58, .int y59, .long y60, .long y61, .long y62, .long o68, .ref a_p2_worths]))] := hD
      refine lv_bipush (v := (-9)) hx hb dX5_faultOf_67 (by decide) ?_
      have hP := hP.sub (ws' := [(a_p0, .inr (4, [.int y51, .int y52, .int y53, .int y54])), (a_p1, .inr (7, [.ref a_p1_signs, .int p1_length])), (a_p1_signs, .inl (cI, 64, .inl p1_signs_v)), (a_p2, .inr (3, [.int y55, .int y56, .int y57, .int y58, .int y59, .long y60, .long y61, .long y62, .long o68, .ref a_p2_worths])), (a_p2_worths, .inl (cI, 64, .inl y63))]) [0, 1, 2, 4, 3] rfl
      have hD := hD.sub (ws' := [(a_p0, .inr (4, [.int y51, .int y52, .int y53, .int y54])), (a_p1, .inr (7, [.ref a_p1_signs, .int p1_length])), (a_p1_signs, .inl (cI, 64, .inl p1_signs_v)), (a_p2, .inr (3, [.int y55, .int y56, .int y57, .int y58, .int y59, .long y60, .long y61, .long y62, .long o68, .ref a_p2_worths])), (a_p2_worths, .inl (cI, 64, .inl y63))]) [0, 1, 2, 4, 3] (by decide) rfl
      rw [hQ]
      exact W.iret (v := (-9)) hx hb hr (fun t ht hW => ⟨⟨(-9), (y51, y52, y53, y54, y55, y56, y57, y58, y59, y60, y61, y62, o68, y63), rfl, hc.trans h.symm, by rw [ht]; exact hP, va_K.moved hW.alike hK, hD⟩, hS.F ht⟩) hS.2.2 dX5_faultOf_69
    · have h := pw_cd_n c64 h
      refine lv_aload_n hx hb dX5_faultOf_58 rfl (lv_at hl 1 rfl) ?_
      refine va_get (D := (dC, dI)) (ci := 7) (v := .int p1_length) (C := RX9) (T := TX9) (N := 2) hx hb hts li_X5_faultOf_X9 hown hK hP 1 rfl rfl 1 (by decide) (hts _ lk_X5_faultOf_29) (fun _ h9 => h9) rfl dX5_faultOf_59 ?_
      rw [hQ]
      exact W.iret (v := p1_length) hx hb hr (fun t ht hW => ⟨⟨p1_length, (y51, y52, y53, y54, y55, y56, y57, y58, y59, y60, y61, y62, o12, y63), rfl, hc.trans h.symm, by rw [ht]; exact hP, va_K.moved hW.alike hK, hD⟩, hS.F ht⟩) hS.2.2 dX5_faultOf_62
