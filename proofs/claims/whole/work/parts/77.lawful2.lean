/-! X2_seatFrom -/
theorem li_X2_seatFrom_X4 : ∀ w ∈ u_ws RX4 TX4 10, w ∈ wsX2_seatFrom := fun w h => List.mem_cons_of_mem _ (List.mem_append_left _ (List.mem_append_right _ h))
theorem lk_X2_seatFrom_23 : Cond.fieldLink RX2 23 "NoWifeBeside$Party" "people" "I" ∈ wsX2_seatFrom := by decide +kernel
theorem lk_X2_seatFrom_46 : Cond.fieldLink RX2 46 "NoWifeBeside$Party" "barred" "J" ∈ wsX2_seatFrom := by decide +kernel
abbrev rm_X2_seatFrom (n : Nat) : Room := { frames := 3 + n, cells := 0, slots := 0, locals := 71 + 26 * n }
set_option maxRecDepth 100000 in
set_option maxHeartbeats 4000000 in
theorem lw_X2_seatFrom_60 {p : Program} {l : Launch} {e : Env} {s : State} {m : MethodId} {args : Array Value} {below : List Frame} {meth : Method} {c : Code} {Q : State → Prop} {dC : Nat → ClassId} {dI : Nat → Nat → Nat} {cI cZ : ClassId} {A : Nat → Prop} (hx : p.tables.exec = Jvm.exec) (hb : c.code = cX2_seatFrom) (hml : c.maxLocals = 7) (hown : s.vm.findClass RX2 = some m.cls) (hts : ∀ w ∈ wsX2_seatFrom, w.before args s = true) (hA : ∀ q : Nat, s.heap.size ≤ q → A q) (hK : va_K (dC, dI) vwCl [(cI, .int), (cZ, .boolean)] s)  (rec : Int32 → Int32 → Int32 → Int32 → (Nat → Int32) → Nat → Int32 → Int32 → Int64 → Int64 → Option (Int32 × (Nat → Int32))) (dn : Nat) (hrec : ∀ (sz : Nat) (a_p0 : Nat) (a_p0_seatings : Nat) (a_p1 : Nat) (a_p1_worths : Nat) (p0_listed : Int32) (p0_size : Int32) (p0_seatings_v : Nat → Int32) (p0_seatings_n : Nat) (p1_round : Int32) (p1_byTurns : Int32) (p1_apart : Int32) (p1_people : Int32) (p1_women : Int32) (p1_couples : Int64) (p1_quarrels : Int64) (p1_togethers : Int64) (p1_barred : Int64) (x2 : Int32) (x3 : Int32) (x4 : Int32) (xx : Int32 × (Nat → Int32)), rec x2 x3 x4 p0_size p0_seatings_v p0_seatings_n p1_round p1_people p1_togethers p1_barred = some xx → Met l yX2_seatFrom wsX2_seatFrom (rm_X2_seatFrom dn) (va_Pc [.ref a_p0, .ref a_p1, .int x2, .int x3, .int x4] (pw_pre (dC, dI) cI cZ [(a_p0, .inr (2, [.ref a_p0_seatings, .int p0_listed, .int p0_size])), (a_p0_seatings, .inl (cI, p0_seatings_n, .inl p0_seatings_v)), (a_p1, .inr (3, [.int p1_round, .int p1_byTurns, .int p1_apart, .int p1_people, .int p1_women, .long p1_couples, .long p1_quarrels, .long p1_togethers, .long p1_barred, .ref a_p1_worths]))] sz)) (va_Qv (fun (u : Int32 × (Nat → Int32)) => rec x2 x3 x4 p0_size p0_seatings_v p0_seatings_n p1_round p1_people p1_togethers p1_barred = some (u.1, u.2)) (fun u t => pw_post (dC, dI) cI cZ (va_A [(a_p0, .inr (2, [.ref a_p0_seatings, .int p0_listed, .int p0_size])), (a_p0_seatings, .inl (cI, p0_seatings_n, .inl p0_seatings_v)), (a_p1, .inr (3, [.int p1_round, .int p1_byTurns, .int p1_apart, .int p1_people, .int p1_women, .long p1_couples, .long p1_quarrels, .long p1_togethers, .long p1_barred, .ref a_p1_worths]))] sz) [(a_p0, .inr (2, [.ref a_p0_seatings, .int p0_listed, .int u.1])), (a_p0_seatings, .inl (cI, p0_seatings_n, .inl u.2)), (a_p1, .inr (3, [.int p1_round, .int p1_byTurns, .int p1_apart, .int p1_people, .int p1_women, .long p1_couples, .long p1_quarrels, .long p1_togethers, .long p1_barred, .ref a_p1_worths]))] t) (va_A [(a_p0, .inr (2, [.ref a_p0_seatings, .int p0_listed, .int p0_size])), (a_p0_seatings, .inl (cI, p0_seatings_n, .inl p0_seatings_v)), (a_p1, .inr (3, [.int p1_round, .int p1_byTurns, .int p1_apart, .int p1_people, .int p1_women, .long p1_couples, .long p1_quarrels, .long p1_togethers, .long p1_barred, .ref a_p1_worths]))] sz)) 0 0 (va_A [(a_p0, .inr (2, [.ref a_p0_seatings, .int p0_listed, .int p0_size])), (a_p0_seatings, .inl (cI, p0_seatings_n, .inl p0_seatings_v)), (a_p1, .inr (3, [.int p1_round, .int p1_byTurns, .int p1_apart, .int p1_people, .int p1_women, .long p1_couples, .long p1_quarrels, .long p1_togethers, .long p1_barred, .ref a_p1_worths]))] sz)) (a_p0 : Nat) (a_p0_seatings : Nat) (a_p1 : Nat) (a_p1_worths : Nat) (l2 : Int32) (l3 : Int32) (l4 : Int32) (l5 : Int32) (p0_listed : Int32) (p0_seatings_n : Nat) (p1_round : Int32) (p1_byTurns : Int32) (p1_apart : Int32) (p1_people : Int32) (p1_women : Int32) (p1_couples : Int64) (p1_quarrels : Int64) (p1_togethers : Int64) (p1_barred : Int64) :
    ∀ (n : Nat) (l6 : Int32) (p0_size : Int32) (p0_seatings_v : Nat → Int32) (xx : Int32 × (Nat → Int32)), lf_X2_seatFrom_60 rec l2 l3 l4 l5 p0_seatings_n p1_round p1_people p1_togethers p1_barred n l6 p0_size p0_seatings_v = some xx → ((∀ (e_p0_size : Int32) (e_p0_seatings_v : Nat → Int32), (e_p0_size, e_p0_seatings_v) = xx → ∀ (H : Heap) (locs : List Loc) (ls : Array Slot), va_P (dC, dI) vwCl [(a_p0, .inr (2, [.ref a_p0_seatings, .int p0_listed, .int e_p0_size])), (a_p0_seatings, .inl (cI, p0_seatings_n, .inl e_p0_seatings_v)), (a_p1, .inr (3, [.int p1_round, .int p1_byTurns, .int p1_apart, .int p1_people, .int p1_women, .long p1_couples, .long p1_quarrels, .long p1_togethers, .long p1_barred, .ref a_p1_worths]))] H → va_D A [(a_p0, .inr (2, [.ref a_p0_seatings, .int p0_listed, .int e_p0_size])), (a_p0_seatings, .inl (cI, p0_seatings_n, .inl e_p0_seatings_v)), (a_p1, .inr (3, [.int p1_round, .int p1_byTurns, .int p1_apart, .int p1_people, .int p1_women, .long p1_couples, .long p1_quarrels, .long p1_togethers, .long p1_barred, .ref a_p1_worths]))] → va_S A s.heap H locs → lv_has ls 7 [] → W p l e (rm_X2_seatFrom (dn + 1)) s m args below meth c H locs 0 0 Q (F0 m 114 ls []))) → ∀ (H : Heap) (locs : List Loc) (ls : Array Slot), va_P (dC, dI) vwCl [(a_p0, .inr (2, [.ref a_p0_seatings, .int p0_listed, .int p0_size])), (a_p0_seatings, .inl (cI, p0_seatings_n, .inl p0_seatings_v)), (a_p1, .inr (3, [.int p1_round, .int p1_byTurns, .int p1_apart, .int p1_people, .int p1_women, .long p1_couples, .long p1_quarrels, .long p1_togethers, .long p1_barred, .ref a_p1_worths]))] H → va_D A [(a_p0, .inr (2, [.ref a_p0_seatings, .int p0_listed, .int p0_size])), (a_p0_seatings, .inl (cI, p0_seatings_n, .inl p0_seatings_v)), (a_p1, .inr (3, [.int p1_round, .int p1_byTurns, .int p1_apart, .int p1_people, .int p1_women, .long p1_couples, .long p1_quarrels, .long p1_togethers, .long p1_barred, .ref a_p1_worths]))] → va_S A s.heap H locs → lv_has ls 7 [(0, .ref a_p0), (1, .ref a_p1), (2, .int l2), (3, .int l3), (4, .int l4), (5, .int l5), (6, .int l6)] → W p l e (rm_X2_seatFrom (dn + 1)) s m args below meth c H locs 0 0 Q (F0 m 60 ls []) := by
  intro n
  induction n with
  | zero =>
    intro l6 p0_size p0_seatings_v xx h
    rw [lf_X2_seatFrom_60] at h
    cases h
  | succ n ih =>
    intro l6 p0_size p0_seatings_v xx h KK H locs ls hP hD hS hl
    rw [lf_X2_seatFrom_60] at h
    refine lv_iload hx hb dX2_seatFrom_60 (lv_at hl 6 rfl) ?_
    refine lv_aload_n hx hb dX2_seatFrom_62 rfl (lv_at hl 1 rfl) ?_
    refine va_get (D := (dC, dI)) (ci := 3) (v := .int p1_people) (C := RX4) (T := TX4) (N := 10) hx hb hts li_X2_seatFrom_X4 hown hK hP 2 rfl rfl 3 (by decide) (hts _ lk_X2_seatFrom_23) (fun _ h9 => h9) rfl dX2_seatFrom_63 ?_
    refine lv_icmp_ge (tgt := 114) hx hb dX2_seatFrom_66 (by decide) (fun c20 => ?_) (fun c20 => ?_)
    · have h := pw_cd_p c20 h
      have hl := lv_sub (l' := []) hl [] rfl
      exact KK p0_size p0_seatings_v (Option.some.inj h) _ locs ls hP hD hS hl
    · have h := pw_cd_n c20 h
      refine lv_iload hx hb dX2_seatFrom_69 (lv_at hl 6 rfl) ?_
      refine lv_bipush (v := 7) hx hb dX2_seatFrom_71 (by decide) ?_
      refine lv_icmp_ge (tgt := 114) hx hb dX2_seatFrom_73 (by decide) (fun c21 => ?_) (fun c21 => ?_)
      · have h := pw_cd_p c21 h
        have hl := lv_sub (l' := []) hl [] rfl
        exact KK p0_size p0_seatings_v (Option.some.inj h) _ locs ls hP hD hS hl
      · have h := pw_cd_n c21 h
        refine lv_iload hx hb dX2_seatFrom_76 (lv_at hl 5 rfl) ?_
        refine lv_iload hx hb dX2_seatFrom_78 (lv_at hl 6 rfl) ?_
        refine lv_ishr hx hb dX2_seatFrom_80 ?_
        refine lv_iconst (v := 1) hx hb dX2_seatFrom_81 (by decide) ?_
        refine lv_iand hx hb dX2_seatFrom_82 ?_
        refine lv_if_ne (tgt := 108) hx hb dX2_seatFrom_83 (by decide) (fun c22 => ?_) (fun c22 => ?_)
        · have h := pw_cd_p c22 h
          refine lv_iinc (v := (l6 + 1)) (lv' := [(6, .int (l6 + 1)), (0, .ref a_p0), (1, .ref a_p1), (2, .int l2), (3, .int l3), (4, .int l4), (5, .int l5)]) hx hb dX2_seatFrom_108 hl (k := 6) rfl rfl (by decide) rfl (fun ls hl => ?_)
          refine lv_goto (tgt := 60) hx hb dX2_seatFrom_111 (by decide) ?_
          have hl := lv_sub (l' := [(0, .ref a_p0), (1, .ref a_p1), (2, .int l2), (3, .int l3), (4, .int l4), (5, .int l5), (6, .int (l6 + 1))]) hl [1, 2, 3, 4, 5, 6, 0] rfl
          exact ih (l6 + 1) p0_size p0_seatings_v xx h KK _ locs ls hP hD hS hl
        · have h := pw_cd_n (fun q => q c22) h
          refine lv_aload_n hx hb dX2_seatFrom_86 rfl (lv_at hl 0 rfl) ?_
          refine lv_aload_n hx hb dX2_seatFrom_87 rfl (lv_at hl 1 rfl) ?_
          refine lv_iload_n hx hb dX2_seatFrom_88 rfl (lv_at hl 2 rfl) ?_
          refine lv_iconst (v := 1) hx hb dX2_seatFrom_89 (by decide) ?_
          refine lv_iadd hx hb dX2_seatFrom_90 ?_
          refine lv_iload_n hx hb dX2_seatFrom_91 rfl (lv_at hl 3 rfl) ?_
          refine lv_iconst (v := 1) hx hb dX2_seatFrom_92 (by decide) ?_
          refine lv_iload hx hb dX2_seatFrom_93 (lv_at hl 6 rfl) ?_
          refine lv_ishl hx hb dX2_seatFrom_95 ?_
          refine lv_ior hx hb dX2_seatFrom_96 ?_
          refine lv_iload hx hb dX2_seatFrom_97 (lv_at hl 4 rfl) ?_
          refine lv_iload_n hx hb dX2_seatFrom_99 rfl (lv_at hl 2 rfl) ?_
          refine lv_iload hx hb dX2_seatFrom_100 (lv_at hl 6 rfl) ?_
          refine pw_ci (wr := [(a_p0, .inr (2, [.ref a_p0_seatings, .int p0_listed, .int p0_size])), (a_p0_seatings, .inl (cI, p0_seatings_n, .inl p0_seatings_v)), (a_p1, .inr (3, [.int p1_round, .int p1_byTurns, .int p1_apart, .int p1_people, .int p1_women, .long p1_couples, .long p1_quarrels, .long p1_togethers, .long p1_barred, .ref a_p1_worths]))]) (va_runS (As := [.int l4, .int l2, .int l6]) (rest := [.int (l3 ||| ((1 : Int32) <<< (l6 &&& 31))), .int (l2 + 1), .ref a_p1, .ref a_p0]) ⟨hx, hb, hml, hown, hts⟩ (c_X7_with l dC dI cI cZ H.size l4 l2 l6) (va_cwS 3 hts gX2_seatFrom_X7_with rfl rfl rfl (by decide +kernel) ⟨by show 0 + 1 ≤ 3 + (dn + 1); omega, by show 8 + (4 + 11) + 0 ≤ 71 + 26 * (dn + 1); omega⟩) (pw_preS hK hP hD [] rfl rfl (by decide)) rfl rfl hl.1 rfl (lv_room (Nat.le_of_ble_eq_true rfl)) dX2_seatFrom_102 ⟨(Nat.le_of_ble_eq_true rfl), (Nat.le_of_ble_eq_true rfl)⟩) hP hD hS hA [] [0, 1, 2] rfl rfl (by decide) (by decide) (fun r23 u H locs hw hP hD hS => ?_)
          have h := pw_lt_e hw h
          have hP : va_P (dC, dI) vwCl [(a_p0, .inr (2, [.ref a_p0_seatings, .int p0_listed, .int p0_size])), (a_p0_seatings, .inl (cI, p0_seatings_n, .inl p0_seatings_v)), (a_p1, .inr (3, [.int p1_round, .int p1_byTurns, .int p1_apart, .int p1_people, .int p1_women, .long p1_couples, .long p1_quarrels, .long p1_togethers, .long p1_barred, .ref a_p1_worths]))] H := hP
          have hD : va_D A [(a_p0, .inr (2, [.ref a_p0_seatings, .int p0_listed, .int p0_size])), (a_p0_seatings, .inl (cI, p0_seatings_n, .inl p0_seatings_v)), (a_p1, .inr (3, [.int p1_round, .int p1_byTurns, .int p1_apart, .int p1_people, .int p1_women, .long p1_couples, .long p1_quarrels, .long p1_togethers, .long p1_barred, .ref a_p1_worths]))] := hD
          obtain ⟨xx28, hc27, h⟩ := pw_bd_e h
          refine pw_cv (wr := []) (va_runS (As := [.ref a_p0, .ref a_p1, .int (l2 + 1), .int (l3 ||| ((1 : Int32) <<< (l6 &&& 31))), .int r23]) (rest := []) ⟨hx, hb, hml, hown, hts⟩ (hrec H.size a_p0 a_p0_seatings a_p1 a_p1_worths p0_listed p0_size p0_seatings_v p0_seatings_n p1_round p1_byTurns p1_apart p1_people p1_women p1_couples p1_quarrels p1_togethers p1_barred (l2 + 1) (l3 ||| ((1 : Int32) <<< (l6 &&& 31))) r23 xx28 hc27) (va_cwS 5 hts gX2_seatFrom_X2_seatFrom rfl rfl rfl (by decide +kernel) ⟨by show 3 + dn + 1 ≤ 3 + (dn + 1); omega, by show 8 + (7 + 11) + (71 + 26 * dn) ≤ 71 + 26 * (dn + 1); omega⟩) (pw_preS hK hP hD [0, 1, 2] rfl rfl (by decide)) rfl rfl hl.1 rfl (lv_room (Nat.le_of_ble_eq_true rfl)) dX2_seatFrom_105 ⟨(Nat.le_of_ble_eq_true rfl), (Nat.le_of_ble_eq_true rfl)⟩) hP hD hS hA [0, 1, 2] [] rfl rfl (by decide) (by decide) (fun u H locs hw hP hD hS => ?_)
          obtain ⟨o29, o30⟩ := u
          have ex : (o29, o30) = xx28 := Option.some.inj (hw.symm.trans hc27)
          subst ex
          have h := pw_u2_e h
          have hP : va_P (dC, dI) vwCl [(a_p0, .inr (2, [.ref a_p0_seatings, .int p0_listed, .int o29])), (a_p0_seatings, .inl (cI, p0_seatings_n, .inl o30)), (a_p1, .inr (3, [.int p1_round, .int p1_byTurns, .int p1_apart, .int p1_people, .int p1_women, .long p1_couples, .long p1_quarrels, .long p1_togethers, .long p1_barred, .ref a_p1_worths]))] H := hP
          have hD : va_D A [(a_p0, .inr (2, [.ref a_p0_seatings, .int p0_listed, .int o29])), (a_p0_seatings, .inl (cI, p0_seatings_n, .inl o30)), (a_p1, .inr (3, [.int p1_round, .int p1_byTurns, .int p1_apart, .int p1_people, .int p1_women, .long p1_couples, .long p1_quarrels, .long p1_togethers, .long p1_barred, .ref a_p1_worths]))] := hD
          refine lv_iinc (v := (l6 + 1)) (lv' := [(6, .int (l6 + 1)), (0, .ref a_p0), (1, .ref a_p1), (2, .int l2), (3, .int l3), (4, .int l4), (5, .int l5)]) hx hb dX2_seatFrom_108 hl (k := 6) rfl rfl (by decide) rfl (fun ls hl => ?_)
          refine lv_goto (tgt := 60) hx hb dX2_seatFrom_111 (by decide) ?_
          have hl := lv_sub (l' := [(0, .ref a_p0), (1, .ref a_p1), (2, .int l2), (3, .int l3), (4, .int l4), (5, .int l5), (6, .int (l6 + 1))]) hl [1, 2, 3, 4, 5, 6, 0] rfl
          exact ih (l6 + 1) o29 o30 xx h KK _ locs ls hP hD hS hl
set_option maxRecDepth 100000 in
set_option maxHeartbeats 4000000 in
theorem c_X2_seatFrom (l : Launch) (dC : Nat → ClassId) (dI : Nat → Nat → Nat) (cI cZ : ClassId) : ∀ (dn0 : Nat), ∀ (sz : Nat) (a_p0 : Nat) (a_p0_seatings : Nat) (a_p1 : Nat) (a_p1_worths : Nat) (p0_listed : Int32) (p0_size : Int32) (p0_seatings_v : Nat → Int32) (p0_seatings_n : Nat) (p1_round : Int32) (p1_byTurns : Int32) (p1_apart : Int32) (p1_people : Int32) (p1_women : Int32) (p1_couples : Int64) (p1_quarrels : Int64) (p1_togethers : Int64) (p1_barred : Int64) (x2 : Int32) (x3 : Int32) (x4 : Int32) (xx : Int32 × (Nat → Int32)), f_X2_seatFrom dn0 x2 x3 x4 p0_size p0_seatings_v p0_seatings_n p1_round p1_people p1_togethers p1_barred = some xx → Met l yX2_seatFrom wsX2_seatFrom (rm_X2_seatFrom dn0) (va_Pc [.ref a_p0, .ref a_p1, .int x2, .int x3, .int x4] (pw_pre (dC, dI) cI cZ [(a_p0, .inr (2, [.ref a_p0_seatings, .int p0_listed, .int p0_size])), (a_p0_seatings, .inl (cI, p0_seatings_n, .inl p0_seatings_v)), (a_p1, .inr (3, [.int p1_round, .int p1_byTurns, .int p1_apart, .int p1_people, .int p1_women, .long p1_couples, .long p1_quarrels, .long p1_togethers, .long p1_barred, .ref a_p1_worths]))] sz)) (va_Qv (fun (u : Int32 × (Nat → Int32)) => f_X2_seatFrom dn0 x2 x3 x4 p0_size p0_seatings_v p0_seatings_n p1_round p1_people p1_togethers p1_barred = some (u.1, u.2)) (fun u t => pw_post (dC, dI) cI cZ (va_A [(a_p0, .inr (2, [.ref a_p0_seatings, .int p0_listed, .int p0_size])), (a_p0_seatings, .inl (cI, p0_seatings_n, .inl p0_seatings_v)), (a_p1, .inr (3, [.int p1_round, .int p1_byTurns, .int p1_apart, .int p1_people, .int p1_women, .long p1_couples, .long p1_quarrels, .long p1_togethers, .long p1_barred, .ref a_p1_worths]))] sz) [(a_p0, .inr (2, [.ref a_p0_seatings, .int p0_listed, .int u.1])), (a_p0_seatings, .inl (cI, p0_seatings_n, .inl u.2)), (a_p1, .inr (3, [.int p1_round, .int p1_byTurns, .int p1_apart, .int p1_people, .int p1_women, .long p1_couples, .long p1_quarrels, .long p1_togethers, .long p1_barred, .ref a_p1_worths]))] t) (va_A [(a_p0, .inr (2, [.ref a_p0_seatings, .int p0_listed, .int p0_size])), (a_p0_seatings, .inl (cI, p0_seatings_n, .inl p0_seatings_v)), (a_p1, .inr (3, [.int p1_round, .int p1_byTurns, .int p1_apart, .int p1_people, .int p1_women, .long p1_couples, .long p1_quarrels, .long p1_togethers, .long p1_barred, .ref a_p1_worths]))] sz)) 0 0 (va_A [(a_p0, .inr (2, [.ref a_p0_seatings, .int p0_listed, .int p0_size])), (a_p0_seatings, .inl (cI, p0_seatings_n, .inl p0_seatings_v)), (a_p1, .inr (3, [.int p1_round, .int p1_byTurns, .int p1_apart, .int p1_people, .int p1_women, .long p1_couples, .long p1_quarrels, .long p1_togethers, .long p1_barred, .ref a_p1_worths]))] sz) := by
  intro dn0
  induction dn0 with
  | zero =>
    intro sz a_p0 a_p0_seatings a_p1 a_p1_worths p0_listed p0_size p0_seatings_v p0_seatings_n p1_round p1_byTurns p1_apart p1_people p1_women p1_couples p1_quarrels p1_togethers p1_barred x2 x3 x4 xx hc
    rw [f_X2_seatFrom] at hc
    cases hc
  | succ dn ih =>
    intro sz a_p0 a_p0_seatings a_p1 a_p1_worths p0_listed p0_size p0_seatings_v p0_seatings_n p1_round p1_byTurns p1_apart p1_people p1_women p1_couples p1_quarrels p1_togethers p1_barred x2 x3 x4 xx hc
    refine Met.ofW (cc := cX2_seatFrom) (maxL := 7) (ret := none) (by decide) rfl ?_
    intro p e s m args below meth c s₁ B hml hv
    obtain ⟨rfl, hsz, hP, hK, hD0⟩ := hv
    have hx := B.exec
    have hb := B.bytes
    have hr := B.returns
    have hts := atoms_spec (ws := wsX2_seatFrom) B.pre
    have hown : s.vm.findClass RX2 = some m.cls := findClass_of_methodNamed B.named
    have hlocks := B.notSynchronized
    subst hsz
    have hD := hD0.self (sz := s.heap.size)
    generalize hAe : va_A [(a_p0, .inr (2, [.ref a_p0_seatings, .int p0_listed, .int p0_size])), (a_p0_seatings, .inl (cI, p0_seatings_n, .inl p0_seatings_v)), (a_p1, .inr (3, [.int p1_round, .int p1_byTurns, .int p1_apart, .int p1_people, .int p1_women, .long p1_couples, .long p1_quarrels, .long p1_togethers, .long p1_barred, .ref a_p1_worths]))] s.heap.size = A at hD ⊢
    have hA : ∀ q : Nat, s.heap.size ≤ q → A q := fun q h => by rw [← hAe]; exact Or.inr h
    have hS : va_S A s.heap s.heap [] := va_S.rf
    have hP : va_P (dC, dI) vwCl [(a_p0, .inr (2, [.ref a_p0_seatings, .int p0_listed, .int p0_size])), (a_p0_seatings, .inl (cI, p0_seatings_n, .inl p0_seatings_v)), (a_p1, .inr (3, [.int p1_round, .int p1_byTurns, .int p1_apart, .int p1_people, .int p1_women, .long p1_couples, .long p1_quarrels, .long p1_togethers, .long p1_barred, .ref a_p1_worths]))] s.heap := hP
    have hl := lv_entry ([.ref a_p0, .ref a_p1, .int x2, .int x3, .int x4]) (n := 7) (Nat.le_of_ble_eq_true rfl)
    rw [lg_entry_eq]
    generalize (lg_sl ([.ref a_p0, .ref a_p1, .int x2, .int x3, .int x4]) ++ List.replicate (7 - (lg_sl ([.ref a_p0, .ref a_p1, .int x2, .int x3, .int x4])).length) Slot.unset).toArray = ls at hl ⊢
    have hl : lv_has ls 7 [(0, .ref a_p0), (1, .ref a_p1), (2, .int x2), (3, .int x3), (4, .int x4)] := hl
    refine pw_Wq (R := (rm_X2_seatFrom (dn + 1))) (fun Q hQ => ?_)
    obtain ⟨locs, elocs⟩ : ∃ y : List Loc, y = [] := ⟨_, rfl⟩
    rw [← elocs] at hS ⊢
    have h := hc
    rw [f_X2_seatFrom] at h
    refine lv_iload_n hx hb dX2_seatFrom_0 rfl (lv_at hl 2 rfl) ?_
    refine lv_aload_n hx hb dX2_seatFrom_1 rfl (lv_at hl 1 rfl) ?_
    refine va_get (D := (dC, dI)) (ci := 3) (v := .int p1_people) (C := RX4) (T := TX4) (N := 10) hx hb hts li_X2_seatFrom_X4 hown hK hP 2 rfl rfl 3 (by decide) (hts _ lk_X2_seatFrom_23) (fun _ h9 => h9) rfl dX2_seatFrom_2 ?_
    obtain ⟨k4, hk4, h⟩ := pw_jn_e h
    have K5 : ∀ (j2 : Int32) (j3 : Nat → Int32), k4 j2 j3 = some xx → ∀ (H : Heap) (locs : List Loc) (ls : Array Slot), va_P (dC, dI) vwCl [(a_p0, .inr (2, [.ref a_p0_seatings, .int p0_listed, .int j2])), (a_p0_seatings, .inl (cI, p0_seatings_n, .inl j3)), (a_p1, .inr (3, [.int p1_round, .int p1_byTurns, .int p1_apart, .int p1_people, .int p1_women, .long p1_couples, .long p1_quarrels, .long p1_togethers, .long p1_barred, .ref a_p1_worths]))] H → va_D A [(a_p0, .inr (2, [.ref a_p0_seatings, .int p0_listed, .int j2])), (a_p0_seatings, .inl (cI, p0_seatings_n, .inl j3)), (a_p1, .inr (3, [.int p1_round, .int p1_byTurns, .int p1_apart, .int p1_people, .int p1_women, .long p1_couples, .long p1_quarrels, .long p1_togethers, .long p1_barred, .ref a_p1_worths]))] → va_S A s.heap H locs → lv_has ls 7 [(0, .ref a_p0), (1, .ref a_p1), (4, .int x4)] → W p l e (rm_X2_seatFrom (dn + 1)) s m ([.ref a_p0, .ref a_p1, .int x2, .int x3, .int x4] : List Value).toArray below meth c H locs 0 0 Q (F0 m 14 ls []) := by
      intro j2 j3 h H locs ls hP hD hS hl
      have h := pw_jk2 hk4 h
      refine lv_aload_n hx hb dX2_seatFrom_14 rfl (lv_at hl 1 rfl) ?_
      refine lv_iload hx hb dX2_seatFrom_15 (lv_at hl 2 rfl) ?_
      obtain ⟨xx8, hc7, h⟩ := pw_bd_e h
      refine pw_ci (wr := [(a_p0, .inr (2, [.ref a_p0_seatings, .int p0_listed, .int j2])), (a_p0_seatings, .inl (cI, p0_seatings_n, .inl j3))]) (va_runV (As := [.int x4]) (rest := []) ⟨hx, hb, hml, hown, hts⟩ (c_X4_isLawful l dC dI cI cZ H.size a_p1 a_p1_worths p1_round p1_byTurns p1_apart p1_people p1_women p1_couples p1_quarrels p1_togethers p1_barred x4 xx8 hc7) (cwV 1 hts gX2_seatFrom_X4_isLawful rfl rfl rfl (by decide +kernel) ⟨by show 2 + 1 ≤ 3 + (dn + 1); omega, by show 8 + (4 + 11) + 48 ≤ 71 + 26 * (dn + 1); omega⟩) (pw_preV hK hP hD [2] rfl rfl (by decide) 3 rfl rfl) rfl rfl hl.1 rfl (lv_room (Nat.le_of_ble_eq_true rfl)) dX2_seatFrom_17 ⟨(Nat.le_of_ble_eq_true rfl), (Nat.le_of_ble_eq_true rfl)⟩) hP hD hS hA [2] [0, 1] rfl rfl (by decide) (by decide) (fun r6 u H locs hw hP hD hS => ?_)
      have ex : r6 = xx8 := Option.some.inj (hw.symm.trans hc7)
      subst ex
      have h := pw_u1_e h
      have hP : va_P (dC, dI) vwCl [(a_p0, .inr (2, [.ref a_p0_seatings, .int p0_listed, .int j2])), (a_p0_seatings, .inl (cI, p0_seatings_n, .inl j3)), (a_p1, .inr (3, [.int p1_round, .int p1_byTurns, .int p1_apart, .int p1_people, .int p1_women, .long p1_couples, .long p1_quarrels, .long p1_togethers, .long p1_barred, .ref a_p1_worths]))] H := hP
      have hD : va_D A [(a_p0, .inr (2, [.ref a_p0_seatings, .int p0_listed, .int j2])), (a_p0_seatings, .inl (cI, p0_seatings_n, .inl j3)), (a_p1, .inr (3, [.int p1_round, .int p1_byTurns, .int p1_apart, .int p1_people, .int p1_women, .long p1_couples, .long p1_quarrels, .long p1_togethers, .long p1_barred, .ref a_p1_worths]))] := hD
      refine lv_if_eq (tgt := 29) hx hb dX2_seatFrom_20 (by decide) (fun c9 => ?_) (fun c9 => ?_)
      · have h := pw_cd_p c9 h
        rw [hQ]
        exact W.vret hx hb hr (fun t ht hW => ⟨⟨(j2, j3), rfl, hc.trans h.symm, by rw [ht]; exact hP, va_K.moved hW.alike hK, hD⟩, hS.F ht⟩) hS.2.2 dX2_seatFrom_29
      · have h := pw_cd_n c9 h
        refine lv_aload_n hx hb dX2_seatFrom_23 rfl (lv_at hl 0 rfl) ?_
        refine lv_iload hx hb dX2_seatFrom_24 (lv_at hl 2 rfl) ?_
        obtain ⟨xx12, hc11, h⟩ := pw_bd_e h
        refine pw_cv (wr := [(a_p1, .inr (3, [.int p1_round, .int p1_byTurns, .int p1_apart, .int p1_people, .int p1_women, .long p1_couples, .long p1_quarrels, .long p1_togethers, .long p1_barred, .ref a_p1_worths]))]) (va_runV (As := [.int x4]) (rest := []) ⟨hx, hb, hml, hown, hts⟩ (c_X2_add l dC dI cI cZ H.size a_p0 a_p0_seatings p0_listed j2 j3 p0_seatings_n x4 xx12 hc11) (cwV 1 hts gX2_seatFrom_X2_add rfl rfl rfl (by decide +kernel) ⟨by show 0 + 1 ≤ 3 + (dn + 1); omega, by show 8 + (2 + 11) + 0 ≤ 71 + 26 * (dn + 1); omega⟩) (pw_preV hK hP hD [0, 1] rfl rfl (by decide) 2 rfl rfl) rfl rfl hl.1 rfl (lv_room (Nat.le_of_ble_eq_true rfl)) dX2_seatFrom_26 ⟨(Nat.le_of_ble_eq_true rfl), (Nat.le_of_ble_eq_true rfl)⟩) hP hD hS hA [0, 1] [2] rfl rfl (by decide) (by decide) (fun u H locs hw hP hD hS => ?_)
        obtain ⟨o13, o14⟩ := u
        have ex : (o13, o14) = xx12 := Option.some.inj (hw.symm.trans hc11)
        subst ex
        have h := pw_u2_e h
        have hP : va_P (dC, dI) vwCl [(a_p1, .inr (3, [.int p1_round, .int p1_byTurns, .int p1_apart, .int p1_people, .int p1_women, .long p1_couples, .long p1_quarrels, .long p1_togethers, .long p1_barred, .ref a_p1_worths])), (a_p0, .inr (2, [.ref a_p0_seatings, .int p0_listed, .int o13])), (a_p0_seatings, .inl (cI, p0_seatings_n, .inl o14))] H := hP
        have hD : va_D A [(a_p1, .inr (3, [.int p1_round, .int p1_byTurns, .int p1_apart, .int p1_people, .int p1_women, .long p1_couples, .long p1_quarrels, .long p1_togethers, .long p1_barred, .ref a_p1_worths])), (a_p0, .inr (2, [.ref a_p0_seatings, .int p0_listed, .int o13])), (a_p0_seatings, .inl (cI, p0_seatings_n, .inl o14))] := hD
        have hP := hP.sub (ws' := [(a_p0, .inr (2, [.ref a_p0_seatings, .int p0_listed, .int o13])), (a_p0_seatings, .inl (cI, p0_seatings_n, .inl o14)), (a_p1, .inr (3, [.int p1_round, .int p1_byTurns, .int p1_apart, .int p1_people, .int p1_women, .long p1_couples, .long p1_quarrels, .long p1_togethers, .long p1_barred, .ref a_p1_worths]))]) [1, 2, 0] rfl
        have hD := hD.sub (ws' := [(a_p0, .inr (2, [.ref a_p0_seatings, .int p0_listed, .int o13])), (a_p0_seatings, .inl (cI, p0_seatings_n, .inl o14)), (a_p1, .inr (3, [.int p1_round, .int p1_byTurns, .int p1_apart, .int p1_people, .int p1_women, .long p1_couples, .long p1_quarrels, .long p1_togethers, .long p1_barred, .ref a_p1_worths]))]) [1, 2, 0] (by decide) rfl
        rw [hQ]
        exact W.vret hx hb hr (fun t ht hW => ⟨⟨(o13, o14), rfl, hc.trans h.symm, by rw [ht]; exact hP, va_K.moved hW.alike hK, hD⟩, hS.F ht⟩) hS.2.2 dX2_seatFrom_29
    refine lv_icmp_ge (tgt := 14) hx hb dX2_seatFrom_5 (by decide) (fun c1 => ?_) (fun c1 => ?_)
    · have h := pw_cd_p c1 h
      have hl := lv_sub (l' := [(0, .ref a_p0), (1, .ref a_p1), (4, .int x4)]) hl [0, 1, 4] rfl
      exact K5 p0_size p0_seatings_v h _ locs ls hP hD hS hl
    · have h := pw_cd_n c1 h
      refine lv_iload_n hx hb dX2_seatFrom_8 rfl (lv_at hl 2 rfl) ?_
      refine lv_bipush (v := 7) hx hb dX2_seatFrom_9 (by decide) ?_
      refine lv_icmp_lt (tgt := 30) hx hb dX2_seatFrom_11 (by decide) (fun c15 => ?_) (fun c15 => ?_)
      · have h := pw_cd_p c15 h
        refine lv_iload_n hx hb dX2_seatFrom_30 rfl (lv_at hl 3 rfl) ?_
        refine lv_istore (lv' := [(5, .int x3), (0, .ref a_p0), (1, .ref a_p1), (2, .int x2), (3, .int x3), (4, .int x4)]) hx hb dX2_seatFrom_31 hl (by decide) rfl (fun ls hl => ?_)
        refine lv_iload_n hx hb dX2_seatFrom_33 rfl (lv_at hl 3 rfl) ?_
        obtain ⟨k18, hk18, h⟩ := pw_jn_e h
        have K19 : ∀ (j17 : Int32), k18 j17 = some xx → ∀ (H : Heap) (locs : List Loc) (ls : Array Slot), va_P (dC, dI) vwCl [(a_p0, .inr (2, [.ref a_p0_seatings, .int p0_listed, .int p0_size])), (a_p0_seatings, .inl (cI, p0_seatings_n, .inl p0_seatings_v)), (a_p1, .inr (3, [.int p1_round, .int p1_byTurns, .int p1_apart, .int p1_people, .int p1_women, .long p1_couples, .long p1_quarrels, .long p1_togethers, .long p1_barred, .ref a_p1_worths]))] H → va_D A [(a_p0, .inr (2, [.ref a_p0_seatings, .int p0_listed, .int p0_size])), (a_p0_seatings, .inl (cI, p0_seatings_n, .inl p0_seatings_v)), (a_p1, .inr (3, [.int p1_round, .int p1_byTurns, .int p1_apart, .int p1_people, .int p1_women, .long p1_couples, .long p1_quarrels, .long p1_togethers, .long p1_barred, .ref a_p1_worths]))] → va_S A s.heap H locs → lv_has ls 7 [(0, .ref a_p0), (1, .ref a_p1), (2, .int x2), (3, .int x3), (4, .int x4), (5, .int j17)] → W p l e (rm_X2_seatFrom (dn + 1)) s m ([.ref a_p0, .ref a_p1, .int x2, .int x3, .int x4] : List Value).toArray below meth c H locs 0 0 Q (F0 m 57 ls []) := by
          intro j17 h H locs ls hP hD hS hl
          have h := pw_jk1 hk18 h
          refine lv_iconst (v := 0) hx hb dX2_seatFrom_57 (by decide) ?_
          refine lv_istore (lv' := [(6, .int 0), (0, .ref a_p0), (1, .ref a_p1), (2, .int x2), (3, .int x3), (4, .int x4), (5, .int j17)]) hx hb dX2_seatFrom_58 hl (by decide) rfl (fun ls hl => ?_)
          have hl := lv_sub (l' := [(0, .ref a_p0), (1, .ref a_p1), (2, .int x2), (3, .int x3), (4, .int x4), (5, .int j17), (6, .int 0)]) hl [1, 2, 3, 4, 5, 6, 0] rfl
          obtain ⟨xx31, hL32, h⟩ := pw_bd_e h
          refine lw_X2_seatFrom_60 hx hb hml hown hts hA hK (f_X2_seatFrom dn) dn ih a_p0 a_p0_seatings a_p1 a_p1_worths x2 x3 x4 j17 p0_listed p0_seatings_n p1_round p1_byTurns p1_apart p1_people p1_women p1_couples p1_quarrels p1_togethers p1_barred pw_FU 0 p0_size p0_seatings_v xx31 hL32 ?_ _ locs ls hP hD hS hl
          intro y33 y34 ex H locs ls hP hD hS hl
          subst ex
          have h := pw_u2_e h
          rw [hQ]
          exact W.vret hx hb hr (fun t ht hW => ⟨⟨(y33, y34), rfl, hc.trans h.symm, by rw [ht]; exact hP, va_K.moved hW.alike hK, hD⟩, hS.F ht⟩) hS.2.2 dX2_seatFrom_114
        refine lv_if_le (tgt := 57) hx hb dX2_seatFrom_34 (by decide) (fun c16 => ?_) (fun c16 => ?_)
        · have h := pw_cd_p c16 h
          have hl := lv_sub (l' := [(0, .ref a_p0), (1, .ref a_p1), (2, .int x2), (3, .int x3), (4, .int x4), (5, .int x3)]) hl [1, 2, 3, 4, 5, 0] rfl
          exact K19 x3 h _ locs ls hP hD hS hl
        · have h := pw_cd_n c16 h
          refine lv_iload hx hb dX2_seatFrom_37 (lv_at hl 0 rfl) ?_
          refine lv_aload_n hx hb dX2_seatFrom_39 rfl (lv_at hl 2 rfl) ?_
          refine va_get (D := (dC, dI)) (ci := 3) (v := .long p1_barred) (C := RX4) (T := TX4) (N := 10) hx hb hts li_X2_seatFrom_X4 hown hK hP 2 rfl rfl 8 (by decide) (hts _ lk_X2_seatFrom_46) (fun _ h9 => h9) rfl dX2_seatFrom_40 ?_
          refine lv_iload hx hb dX2_seatFrom_43 (lv_at hl 5 rfl) ?_
          refine lv_iload_n hx hb dX2_seatFrom_45 rfl (lv_at hl 3 rfl) ?_
          refine lv_iconst (v := 1) hx hb dX2_seatFrom_46 (by decide) ?_
          refine lv_isub hx hb dX2_seatFrom_47 ?_
          refine pw_ci (wr := [(a_p0, .inr (2, [.ref a_p0_seatings, .int p0_listed, .int p0_size])), (a_p0_seatings, .inl (cI, p0_seatings_n, .inl p0_seatings_v)), (a_p1, .inr (3, [.int p1_round, .int p1_byTurns, .int p1_apart, .int p1_people, .int p1_women, .long p1_couples, .long p1_quarrels, .long p1_togethers, .long p1_barred, .ref a_p1_worths]))]) (va_runS (As := [.int x4, .int (x2 - 1)]) (rest := [.long p1_barred, .int x3]) ⟨hx, hb, hml, hown, hts⟩ (c_X7_personOn l dC dI cI cZ s.heap.size x4 (x2 - 1)) (va_cwS 2 hts gX2_seatFrom_X7_personOn rfl rfl rfl (by decide +kernel) ⟨by show 0 + 1 ≤ 3 + (dn + 1); omega, by show 8 + (2 + 11) + 0 ≤ 71 + 26 * (dn + 1); omega⟩) (pw_preS hK hP hD [] rfl rfl (by decide)) rfl rfl hl.1 rfl (lv_room (Nat.le_of_ble_eq_true rfl)) dX2_seatFrom_48 ⟨(Nat.le_of_ble_eq_true rfl), (Nat.le_of_ble_eq_true rfl)⟩) hP hD hS hA [] [0, 1, 2] rfl rfl (by decide) (by decide) (fun r35 u H locs hw hP hD hS => ?_)
          have h := pw_lt_e hw h
          have hP : va_P (dC, dI) vwCl [(a_p0, .inr (2, [.ref a_p0_seatings, .int p0_listed, .int p0_size])), (a_p0_seatings, .inl (cI, p0_seatings_n, .inl p0_seatings_v)), (a_p1, .inr (3, [.int p1_round, .int p1_byTurns, .int p1_apart, .int p1_people, .int p1_women, .long p1_couples, .long p1_quarrels, .long p1_togethers, .long p1_barred, .ref a_p1_worths]))] H := hP
          have hD : va_D A [(a_p0, .inr (2, [.ref a_p0_seatings, .int p0_listed, .int p0_size])), (a_p0_seatings, .inl (cI, p0_seatings_n, .inl p0_seatings_v)), (a_p1, .inr (3, [.int p1_round, .int p1_byTurns, .int p1_apart, .int p1_people, .int p1_women, .long p1_couples, .long p1_quarrels, .long p1_togethers, .long p1_barred, .ref a_p1_worths]))] := hD
          refine pw_ci (wr := [(a_p0, .inr (2, [.ref a_p0_seatings, .int p0_listed, .int p0_size])), (a_p0_seatings, .inl (cI, p0_seatings_n, .inl p0_seatings_v)), (a_p1, .inr (3, [.int p1_round, .int p1_byTurns, .int p1_apart, .int p1_people, .int p1_women, .long p1_couples, .long p1_quarrels, .long p1_togethers, .long p1_barred, .ref a_p1_worths]))]) (va_runS (As := [.long p1_barred, .int r35]) (rest := [.int x3]) ⟨hx, hb, hml, hown, hts⟩ (c_X3_rowOf l dC dI cI cZ H.size p1_barred r35) (va_cwS 2 hts gX2_seatFrom_X3_rowOf rfl rfl rfl (by decide +kernel) ⟨by show 0 + 1 ≤ 3 + (dn + 1); omega, by show 8 + (3 + 11) + 0 ≤ 71 + 26 * (dn + 1); omega⟩) (pw_preS hK hP hD [] rfl rfl (by decide)) rfl rfl hl.1 rfl (lv_room (Nat.le_of_ble_eq_true rfl)) dX2_seatFrom_51 ⟨(Nat.le_of_ble_eq_true rfl), (Nat.le_of_ble_eq_true rfl)⟩) hP hD hS hA [] [0, 1, 2] rfl rfl (by decide) (by decide) (fun r38 u H locs hw hP hD hS => ?_)
          have h := pw_lt_e hw h
          have hP : va_P (dC, dI) vwCl [(a_p0, .inr (2, [.ref a_p0_seatings, .int p0_listed, .int p0_size])), (a_p0_seatings, .inl (cI, p0_seatings_n, .inl p0_seatings_v)), (a_p1, .inr (3, [.int p1_round, .int p1_byTurns, .int p1_apart, .int p1_people, .int p1_women, .long p1_couples, .long p1_quarrels, .long p1_togethers, .long p1_barred, .ref a_p1_worths]))] H := hP
          have hD : va_D A [(a_p0, .inr (2, [.ref a_p0_seatings, .int p0_listed, .int p0_size])), (a_p0_seatings, .inl (cI, p0_seatings_n, .inl p0_seatings_v)), (a_p1, .inr (3, [.int p1_round, .int p1_byTurns, .int p1_apart, .int p1_people, .int p1_women, .long p1_couples, .long p1_quarrels, .long p1_togethers, .long p1_barred, .ref a_p1_worths]))] := hD
          refine lv_ior hx hb dX2_seatFrom_54 ?_
          refine lv_topi (fun v41 ev41 => ?_)
          have h := pw_lt_e ev41 h
          refine lv_istore (lv' := [(5, .int v41), (0, .ref a_p0), (1, .ref a_p1), (2, .int x2), (3, .int x3), (4, .int x4)]) hx hb dX2_seatFrom_55 hl (by decide) rfl (fun ls hl => ?_)
          have hl := lv_sub (l' := [(0, .ref a_p0), (1, .ref a_p1), (2, .int x2), (3, .int x3), (4, .int x4), (5, .int v41)]) hl [1, 2, 3, 4, 5, 0] rfl
          exact K19 v41 h _ locs ls hP hD hS hl
      · have h := pw_cd_n c15 h
        have hl := lv_sub (l' := [(0, .ref a_p0), (1, .ref a_p1), (4, .int x4)]) hl [0, 1, 4] rfl
        exact K5 p0_size p0_seatings_v h _ locs ls hP hD hS hl
/-! X2_list -/
theorem li_X2_list_X2 : ∀ w ∈ u_ws RX2 TX2 3, w ∈ wsX2_list := fun w h => List.mem_cons_of_mem _ (List.mem_append_left _ (List.mem_append_right _ h))
theorem lk_X2_list_15 : Cond.fieldLink RX2 15 "NoWifeBeside$Lawful" "listed" "Z" ∈ wsX2_list := by decide +kernel
theorem lk_X2_list_19 : Cond.fieldLink RX2 19 "NoWifeBeside$Lawful" "size" "I" ∈ wsX2_list := by decide +kernel
theorem li_X2_list_X4 : ∀ w ∈ u_ws RX4 TX4 10, w ∈ wsX2_list := fun w h => List.mem_cons_of_mem _ (List.mem_append_right _ h)
theorem lk_X2_list_23 : Cond.fieldLink RX2 23 "NoWifeBeside$Party" "people" "I" ∈ wsX2_list := by decide +kernel
theorem lk_X2_list_9 : Cond.fieldLink RX2 9 "NoWifeBeside$Lawful" "seatings" "[I" ∈ wsX2_list := by decide +kernel
theorem lk_X2_list_acI : Cond.arrayClass .int ∈ wsX2_list := by decide +kernel
abbrev rm_X2_list : Room := { frames := 13, cells := 1, slots := 5040, locals := 331 }
set_option maxRecDepth 100000 in
set_option maxHeartbeats 4000000 in
theorem c_X2_list (l : Launch) (dC : Nat → ClassId) (dI : Nat → Nat → Nat) (cI cZ : ClassId) (sz : Nat) (a_p0 : Nat) (a_p0_seatings : Nat) (a_p1 : Nat) (a_p1_worths : Nat) (p0_listed : Int32) (p0_size : Int32) (p0_seatings_v : Nat → Int32) (p0_seatings_n : Nat) (p1_round : Int32) (p1_byTurns : Int32) (p1_apart : Int32) (p1_people : Int32) (p1_women : Int32) (p1_couples : Int64) (p1_quarrels : Int64) (p1_togethers : Int64) (p1_barred : Int64) (xx : Int32 × Int32 × (Nat → Int32) × Nat) (hc : f_X2_list p0_listed p0_size p0_seatings_v p0_seatings_n p1_round p1_people p1_togethers p1_barred = some xx) : Met l yX2_list wsX2_list rm_X2_list (va_Pc [.ref a_p0, .ref a_p1] (pw_preF (dC, dI) cI cZ [(a_p0, .inr (2, [.ref a_p0_seatings, .int p0_listed, .int p0_size])), (a_p0_seatings, .inl (cI, p0_seatings_n, .inl p0_seatings_v)), (a_p1, .inr (3, [.int p1_round, .int p1_byTurns, .int p1_apart, .int p1_people, .int p1_women, .long p1_couples, .long p1_quarrels, .long p1_togethers, .long p1_barred, .ref a_p1_worths]))] sz)) (va_Qv (fun (u : Nat × Int32 × Int32 × (Nat → Int32) × Nat) => f_X2_list p0_listed p0_size p0_seatings_v p0_seatings_n p1_round p1_people p1_togethers p1_barred = some (u.2.1, u.2.2.1, u.2.2.2.1, u.2.2.2.2)) (fun u t => pw_post (dC, dI) cI cZ (va_A [(a_p0, .inr (2, [.ref a_p0_seatings, .int p0_listed, .int p0_size])), (a_p0_seatings, .inl (cI, p0_seatings_n, .inl p0_seatings_v)), (a_p1, .inr (3, [.int p1_round, .int p1_byTurns, .int p1_apart, .int p1_people, .int p1_women, .long p1_couples, .long p1_quarrels, .long p1_togethers, .long p1_barred, .ref a_p1_worths]))] sz) [(a_p0, .inr (2, [.ref u.1, .int u.2.1, .int u.2.2.1])), (u.1, .inl (cI, u.2.2.2.2, .inl u.2.2.2.1)), (a_p1, .inr (3, [.int p1_round, .int p1_byTurns, .int p1_apart, .int p1_people, .int p1_women, .long p1_couples, .long p1_quarrels, .long p1_togethers, .long p1_barred, .ref a_p1_worths]))] t) (va_A [(a_p0, .inr (2, [.ref a_p0_seatings, .int p0_listed, .int p0_size])), (a_p0_seatings, .inl (cI, p0_seatings_n, .inl p0_seatings_v)), (a_p1, .inr (3, [.int p1_round, .int p1_byTurns, .int p1_apart, .int p1_people, .int p1_women, .long p1_couples, .long p1_quarrels, .long p1_togethers, .long p1_barred, .ref a_p1_worths]))] sz)) 1 5040 (va_A [(a_p0, .inr (2, [.ref a_p0_seatings, .int p0_listed, .int p0_size])), (a_p0_seatings, .inl (cI, p0_seatings_n, .inl p0_seatings_v)), (a_p1, .inr (3, [.int p1_round, .int p1_byTurns, .int p1_apart, .int p1_people, .int p1_women, .long p1_couples, .long p1_quarrels, .long p1_togethers, .long p1_barred, .ref a_p1_worths]))] sz) := by
  refine Met.ofW (cc := cX2_list) (maxL := 3) (ret := none) (by decide) rfl ?_
  intro p e s m args below meth c s₁ B hml hv
  obtain ⟨rfl, ⟨hsz, hP, hK, hD0⟩, hF⟩ := hv
  have hx := B.exec
  have hb := B.bytes
  have hr := B.returns
  have hts := atoms_spec (ws := wsX2_list) B.pre
  have hown : s.vm.findClass RX2 = some m.cls := findClass_of_methodNamed B.named
  have hlocks := B.notSynchronized
  subst hsz
  have hD := hD0.self (sz := s.heap.size)
  generalize hAe : va_A [(a_p0, .inr (2, [.ref a_p0_seatings, .int p0_listed, .int p0_size])), (a_p0_seatings, .inl (cI, p0_seatings_n, .inl p0_seatings_v)), (a_p1, .inr (3, [.int p1_round, .int p1_byTurns, .int p1_apart, .int p1_people, .int p1_women, .long p1_couples, .long p1_quarrels, .long p1_togethers, .long p1_barred, .ref a_p1_worths]))] s.heap.size = A at hD hF ⊢
  have hA : ∀ q : Nat, s.heap.size ≤ q → A q := fun q h => by rw [← hAe]; exact Or.inr h
  have hS : va_S A s.heap s.heap [] := va_S.rf
  have hP : va_P (dC, dI) vwCl [(a_p0, .inr (2, [.ref a_p0_seatings, .int p0_listed, .int p0_size])), (a_p0_seatings, .inl (cI, p0_seatings_n, .inl p0_seatings_v)), (a_p1, .inr (3, [.int p1_round, .int p1_byTurns, .int p1_apart, .int p1_people, .int p1_women, .long p1_couples, .long p1_quarrels, .long p1_togethers, .long p1_barred, .ref a_p1_worths]))] s.heap := hP
  have hl := lv_entry ([.ref a_p0, .ref a_p1]) (n := 3) (Nat.le_of_ble_eq_true rfl)
  rw [lg_entry_eq]
  generalize (lg_sl ([.ref a_p0, .ref a_p1]) ++ List.replicate (3 - (lg_sl ([.ref a_p0, .ref a_p1])).length) Slot.unset).toArray = ls at hl ⊢
  have hl : lv_has ls 3 [(0, .ref a_p0), (1, .ref a_p1)] := hl
  refine pw_Wq (R := rm_X2_list) (fun Q hQ => ?_)
  obtain ⟨locs, elocs⟩ : ∃ y : List Loc, y = [] := ⟨_, rfl⟩
  rw [← elocs] at hS ⊢
  have h := hc
  unfold f_X2_list at h
  refine lv_aload_n hx hb dX2_list_0 rfl (lv_at hl 0 rfl) ?_
  refine va_get (D := (dC, dI)) (ci := 2) (v := .int p0_listed) (C := RX2) (T := TX2) (N := 3) hx hb hts li_X2_list_X2 hown hK hP 0 rfl rfl 1 (by decide) (hts _ lk_X2_list_15) (fun _ h9 => h9) rfl dX2_list_1 ?_
  refine lv_if_eq (tgt := 8) hx hb dX2_list_4 (by decide) (fun c1 => ?_) (fun c1 => ?_)
  · have h := pw_cd_p c1 h
    refine lv_aload_n hx hb dX2_list_8 rfl (lv_at hl 0 rfl) ?_
    refine lv_iconst (v := 1) hx hb dX2_list_9 (by decide) ?_
    refine va_put (D := (dC, dI)) (ci := 2) (v := .int 1) (ty := .boolean) (C := RX2) (T := TX2) (N := 3) hx hb hts li_X2_list_X2 tyX2 tyX2_ok nmX2 hown hK hP hD hS 0 rfl rfl 1 (by decide) (hts _ lk_X2_list_15) (fun _ h9 => h9) rfl (by decide +kernel) rfl rfl (Nat.le_of_ble_eq_true rfl) dX2_list_10 (fun H locs hP hD hS => ?_)
    have hP : va_P (dC, dI) vwCl [(a_p0, .inr (2, [.ref a_p0_seatings, .int 1, .int p0_size])), (a_p0_seatings, .inl (cI, p0_seatings_n, .inl p0_seatings_v)), (a_p1, .inr (3, [.int p1_round, .int p1_byTurns, .int p1_apart, .int p1_people, .int p1_women, .long p1_couples, .long p1_quarrels, .long p1_togethers, .long p1_barred, .ref a_p1_worths]))] H := hP
    have hD : va_D A [(a_p0, .inr (2, [.ref a_p0_seatings, .int 1, .int p0_size])), (a_p0_seatings, .inl (cI, p0_seatings_n, .inl p0_seatings_v)), (a_p1, .inr (3, [.int p1_round, .int p1_byTurns, .int p1_apart, .int p1_people, .int p1_women, .long p1_couples, .long p1_quarrels, .long p1_togethers, .long p1_barred, .ref a_p1_worths]))] := hD
    refine lv_aload_n hx hb dX2_list_13 rfl (lv_at hl 0 rfl) ?_
    refine lv_iconst (v := 0) hx hb dX2_list_14 (by decide) ?_
    refine va_put (D := (dC, dI)) (ci := 2) (v := .int 0) (ty := .int) (C := RX2) (T := TX2) (N := 3) hx hb hts li_X2_list_X2 tyX2 tyX2_ok nmX2 hown hK hP hD hS 0 rfl rfl 2 (by decide) (hts _ lk_X2_list_19) (fun _ h9 => h9) rfl (by decide +kernel) rfl rfl (Nat.le_of_ble_eq_true rfl) dX2_list_15 (fun H locs hP hD hS => ?_)
    have hP : va_P (dC, dI) vwCl [(a_p0, .inr (2, [.ref a_p0_seatings, .int 1, .int 0])), (a_p0_seatings, .inl (cI, p0_seatings_n, .inl p0_seatings_v)), (a_p1, .inr (3, [.int p1_round, .int p1_byTurns, .int p1_apart, .int p1_people, .int p1_women, .long p1_couples, .long p1_quarrels, .long p1_togethers, .long p1_barred, .ref a_p1_worths]))] H := hP
    have hD : va_D A [(a_p0, .inr (2, [.ref a_p0_seatings, .int 1, .int 0])), (a_p0_seatings, .inl (cI, p0_seatings_n, .inl p0_seatings_v)), (a_p1, .inr (3, [.int p1_round, .int p1_byTurns, .int p1_apart, .int p1_people, .int p1_women, .long p1_couples, .long p1_quarrels, .long p1_togethers, .long p1_barred, .ref a_p1_worths]))] := hD
    refine lv_aload_n hx hb dX2_list_18 rfl (lv_at hl 1 rfl) ?_
    refine va_get (D := (dC, dI)) (ci := 3) (v := .int p1_people) (C := RX4) (T := TX4) (N := 10) hx hb hts li_X2_list_X4 hown hK hP 2 rfl rfl 3 (by decide) (hts _ lk_X2_list_23) (fun _ h9 => h9) rfl dX2_list_19 ?_
    obtain ⟨xx4, hc3, h⟩ := pw_bd_e h
    refine pw_ci (wr := [(a_p0, .inr (2, [.ref a_p0_seatings, .int 1, .int 0])), (a_p0_seatings, .inl (cI, p0_seatings_n, .inl p0_seatings_v)), (a_p1, .inr (3, [.int p1_round, .int p1_byTurns, .int p1_apart, .int p1_people, .int p1_women, .long p1_couples, .long p1_quarrels, .long p1_togethers, .long p1_barred, .ref a_p1_worths]))]) (va_runS (As := [.int p1_people]) (rest := []) ⟨hx, hb, hml, hown, hts⟩ (c_X7_howMany l dC dI cI cZ H.size p1_people xx4 hc3) (va_cwS 1 hts gX2_list_X7_howMany rfl rfl rfl (by decide +kernel) ⟨(Nat.le_of_ble_eq_true rfl), (Nat.le_of_ble_eq_true rfl)⟩) (pw_preSF hF hS hA hK hP hD [] rfl rfl (by decide)) rfl rfl hl.1 rfl (lv_room (Nat.le_of_ble_eq_true rfl)) dX2_list_22 ⟨(Nat.le_of_ble_eq_true rfl), (Nat.le_of_ble_eq_true rfl)⟩) hP hD hS hA [] [0, 1, 2] rfl rfl (by decide) (by decide) (fun r2 u H locs hw hP hD hS => ?_)
    have ex : r2 = xx4 := Option.some.inj (hw.symm.trans hc3)
    subst ex
    have h := pw_u1_e h
    have hP : va_P (dC, dI) vwCl [(a_p0, .inr (2, [.ref a_p0_seatings, .int 1, .int 0])), (a_p0_seatings, .inl (cI, p0_seatings_n, .inl p0_seatings_v)), (a_p1, .inr (3, [.int p1_round, .int p1_byTurns, .int p1_apart, .int p1_people, .int p1_women, .long p1_couples, .long p1_quarrels, .long p1_togethers, .long p1_barred, .ref a_p1_worths]))] H := hP
    have hD : va_D A [(a_p0, .inr (2, [.ref a_p0_seatings, .int 1, .int 0])), (a_p0_seatings, .inl (cI, p0_seatings_n, .inl p0_seatings_v)), (a_p1, .inr (3, [.int p1_round, .int p1_byTurns, .int p1_apart, .int p1_people, .int p1_women, .long p1_couples, .long p1_quarrels, .long p1_togethers, .long p1_barred, .ref a_p1_worths]))] := hD
    refine lv_istore_n (lv' := [(2, .int r2), (0, .ref a_p0), (1, .ref a_p1)]) hx hb dX2_list_25 rfl hl (by decide) rfl (fun ls hl => ?_)
    refine lv_iload_n hx hb dX2_list_26 rfl (lv_at hl 0 rfl) ?_
    refine lv_aload_n hx hb dX2_list_27 rfl (lv_at hl 1 rfl) ?_
    refine va_get (D := (dC, dI)) (ci := 2) (v := .ref a_p0_seatings) (C := RX2) (T := TX2) (N := 3) hx hb hts li_X2_list_X2 hown hK hP 0 rfl rfl 0 (by decide) (hts _ lk_X2_list_9) (fun _ h9 => h9) rfl dX2_list_28 ?_
    refine va_alen hx hb hK hP 1 0 rfl rfl (v := (nI p0_seatings_n)) rfl dX2_list_31 ?_
    refine lv_topi (fun v5 ev5 => ?_)
    have h := pw_lt_e ev5 h
    obtain ⟨k10, hk10, h⟩ := pw_jn_e h
    have K11 : ∀ (j7 : Nat → Int32) (j8 : Nat), k10 j7 j8 = some xx → ∀ (a9 : Nat) (H : Heap) (locs : List Loc) (ls : Array Slot), va_P (dC, dI) vwCl [(a_p0, .inr (2, [.ref a9, .int 1, .int 0])), (a9, .inl (cI, j8, .inl j7)), (a_p1, .inr (3, [.int p1_round, .int p1_byTurns, .int p1_apart, .int p1_people, .int p1_women, .long p1_couples, .long p1_quarrels, .long p1_togethers, .long p1_barred, .ref a_p1_worths]))] H → va_D A [(a_p0, .inr (2, [.ref a9, .int 1, .int 0])), (a9, .inl (cI, j8, .inl j7)), (a_p1, .inr (3, [.int p1_round, .int p1_byTurns, .int p1_apart, .int p1_people, .int p1_women, .long p1_couples, .long p1_quarrels, .long p1_togethers, .long p1_barred, .ref a_p1_worths]))] → va_S A s.heap H locs → lv_has ls 3 [(0, .ref a_p0), (1, .ref a_p1)] → W p l e rm_X2_list s m ([.ref a_p0, .ref a_p1] : List Value).toArray below meth c H locs 1 5040 Q (F0 m 42 ls []) := by
      intro j7 j8 h a9 H locs ls hP hD hS hl
      have h := pw_jk2 hk10 h
      refine lv_aload_n hx hb dX2_list_42 rfl (lv_at hl 0 rfl) ?_
      refine lv_aload_n hx hb dX2_list_43 rfl (lv_at hl 1 rfl) ?_
      refine lv_iconst (v := 0) hx hb dX2_list_44 (by decide) ?_
      refine lv_iconst (v := 0) hx hb dX2_list_45 (by decide) ?_
      refine lv_iconst (v := 0) hx hb dX2_list_46 (by decide) ?_
      obtain ⟨xx14, hc13, h⟩ := pw_bd_e h
      refine pw_cv (wr := []) (va_runS (As := [.ref a_p0, .ref a_p1, .int 0, .int 0, .int 0]) (rest := []) ⟨hx, hb, hml, hown, hts⟩ (c_X2_seatFrom l dC dI cI cZ 9 H.size a_p0 a9 a_p1 a_p1_worths 1 0 j7 j8 p1_round p1_byTurns p1_apart p1_people p1_women p1_couples p1_quarrels p1_togethers p1_barred 0 0 0 xx14 hc13) (va_cwS 5 hts gX2_list_X2_seatFrom rfl rfl rfl (by decide +kernel) ⟨(Nat.le_of_ble_eq_true rfl), (Nat.le_of_ble_eq_true rfl)⟩) (pw_preS hK hP hD [0, 1, 2] rfl rfl (by decide)) rfl rfl hl.1 rfl (lv_room (Nat.le_of_ble_eq_true rfl)) dX2_list_47 ⟨(Nat.le_of_ble_eq_true rfl), (Nat.le_of_ble_eq_true rfl)⟩) hP hD hS hA [0, 1, 2] [] rfl rfl (by decide) (by decide) (fun u H locs hw hP hD hS => ?_)
      obtain ⟨o15, o16⟩ := u
      have ex : (o15, o16) = xx14 := Option.some.inj (hw.symm.trans hc13)
      subst ex
      have h := pw_u2_e h
      have hP : va_P (dC, dI) vwCl [(a_p0, .inr (2, [.ref a9, .int 1, .int o15])), (a9, .inl (cI, j8, .inl o16)), (a_p1, .inr (3, [.int p1_round, .int p1_byTurns, .int p1_apart, .int p1_people, .int p1_women, .long p1_couples, .long p1_quarrels, .long p1_togethers, .long p1_barred, .ref a_p1_worths]))] H := hP
      have hD : va_D A [(a_p0, .inr (2, [.ref a9, .int 1, .int o15])), (a9, .inl (cI, j8, .inl o16)), (a_p1, .inr (3, [.int p1_round, .int p1_byTurns, .int p1_apart, .int p1_people, .int p1_women, .long p1_couples, .long p1_quarrels, .long p1_togethers, .long p1_barred, .ref a_p1_worths]))] := hD
      rw [hQ]
      refine W.widen (k := 1) (n := 5040) (by decide) (by decide) ?_
      exact W.vret hx hb hr (fun t ht hW => ⟨⟨(a9, 1, o15, o16, j8), rfl, hc.trans h.symm, by rw [ht]; exact hP, va_K.moved hW.alike hK, hD⟩, hS.F ht⟩) hS.2.2 dX2_list_50
    refine lv_icmp_le (tgt := 42) hx hb dX2_list_32 (by decide) (fun c6 => ?_) (fun c6 => ?_)
    · have h := pw_cd_p c6 h
      have hl := lv_sub (l' := [(0, .ref a_p0), (1, .ref a_p1)]) hl [1, 2] rfl
      refine W.widen (k := 1) (n := 5040) (by decide) (by decide) ?_
      exact K11 p0_seatings_v p0_seatings_n h a_p0_seatings _ locs ls hP hD hS hl
    · have h := pw_cd_n c6 h
      refine lv_aload_n hx hb dX2_list_35 rfl (lv_at hl 1 rfl) ?_
      refine lv_iload_n hx hb dX2_list_36 rfl (lv_at hl 0 rfl) ?_
      obtain ⟨g17, h⟩ := pw_gd_e h
      have hcap := (hts _ lk_X2_list_acI)
      refine va_newa (atype := .int) (a0 := ((Int32.toNatClampNeg r2), .inl (fun _ => 0))) (ty := .int) (N' := (Int32.toNatClampNeg r2)) hx hb hcap rfl hK hP hD hS hA (fun cA => rfl) g17.1 rfl (by show (Int32.toNatClampNeg r2) * 4 ≤ 536870912; omega) (by show _ + 1 ≤ 1; omega) (by show _ + _ ≤ 5040; omega) dX2_list_37 (fun a18 cA H hK1 hP hD hS => ?_)
      have hcA := (pw_tysI hK1).symm
      subst hcA
      have hP : va_P (dC, dI) vwCl [(a_p0, .inr (2, [.ref a_p0_seatings, .int 1, .int 0])), (a_p0_seatings, .inl (cI, p0_seatings_n, .inl p0_seatings_v)), (a_p1, .inr (3, [.int p1_round, .int p1_byTurns, .int p1_apart, .int p1_people, .int p1_women, .long p1_couples, .long p1_quarrels, .long p1_togethers, .long p1_barred, .ref a_p1_worths])), (a18, .inl (cI, (Int32.toNatClampNeg r2), .inl (fun _ => 0)))] H := hP
      have hD : va_D A [(a_p0, .inr (2, [.ref a_p0_seatings, .int 1, .int 0])), (a_p0_seatings, .inl (cI, p0_seatings_n, .inl p0_seatings_v)), (a_p1, .inr (3, [.int p1_round, .int p1_byTurns, .int p1_apart, .int p1_people, .int p1_women, .long p1_couples, .long p1_quarrels, .long p1_togethers, .long p1_barred, .ref a_p1_worths])), (a18, .inl (cI, (Int32.toNatClampNeg r2), .inl (fun _ => 0)))] := hD
      refine W.widen (k := 1) (n := 5040) (by omega) (by omega) ?_
      refine va_put (D := (dC, dI)) (ci := 2) (v := .ref a18) (ty := (.array .int)) (C := RX2) (T := TX2) (N := 3) hx hb hts li_X2_list_X2 tyX2 tyX2_ok nmX2 hown hK hP hD hS 0 rfl rfl 0 (by decide) (hts _ lk_X2_list_9) (fun _ h9 => h9) rfl (by decide +kernel) rfl rfl (Nat.le_of_ble_eq_true rfl) dX2_list_39 (fun H locs hP hD hS => ?_)
      have hP := hP.sub (ws' := [(a_p0, .inr (2, [.ref a18, .int 1, .int 0])), (a_p1, .inr (3, [.int p1_round, .int p1_byTurns, .int p1_apart, .int p1_people, .int p1_women, .long p1_couples, .long p1_quarrels, .long p1_togethers, .long p1_barred, .ref a_p1_worths])), (a18, .inl (cI, (Int32.toNatClampNeg r2), .inl (fun _ => 0)))]) [0, 2, 3] rfl
      have hD := hD.sub (ws' := [(a_p0, .inr (2, [.ref a18, .int 1, .int 0])), (a_p1, .inr (3, [.int p1_round, .int p1_byTurns, .int p1_apart, .int p1_people, .int p1_women, .long p1_couples, .long p1_quarrels, .long p1_togethers, .long p1_barred, .ref a_p1_worths])), (a18, .inl (cI, (Int32.toNatClampNeg r2), .inl (fun _ => 0)))]) [0, 2, 3] (by decide) rfl
      have hP : va_P (dC, dI) vwCl [(a_p0, .inr (2, [.ref a18, .int 1, .int 0])), (a_p1, .inr (3, [.int p1_round, .int p1_byTurns, .int p1_apart, .int p1_people, .int p1_women, .long p1_couples, .long p1_quarrels, .long p1_togethers, .long p1_barred, .ref a_p1_worths])), (a18, .inl (cI, (Int32.toNatClampNeg r2), .inl (fun _ => 0)))] H := hP
      have hD : va_D A [(a_p0, .inr (2, [.ref a18, .int 1, .int 0])), (a_p1, .inr (3, [.int p1_round, .int p1_byTurns, .int p1_apart, .int p1_people, .int p1_women, .long p1_couples, .long p1_quarrels, .long p1_togethers, .long p1_barred, .ref a_p1_worths])), (a18, .inl (cI, (Int32.toNatClampNeg r2), .inl (fun _ => 0)))] := hD
      have hP := hP.sub (ws' := [(a_p0, .inr (2, [.ref a18, .int 1, .int 0])), (a18, .inl (cI, (Int32.toNatClampNeg r2), .inl (fun _ => 0))), (a_p1, .inr (3, [.int p1_round, .int p1_byTurns, .int p1_apart, .int p1_people, .int p1_women, .long p1_couples, .long p1_quarrels, .long p1_togethers, .long p1_barred, .ref a_p1_worths]))]) [0, 2, 1] rfl
      have hD := hD.sub (ws' := [(a_p0, .inr (2, [.ref a18, .int 1, .int 0])), (a18, .inl (cI, (Int32.toNatClampNeg r2), .inl (fun _ => 0))), (a_p1, .inr (3, [.int p1_round, .int p1_byTurns, .int p1_apart, .int p1_people, .int p1_women, .long p1_couples, .long p1_quarrels, .long p1_togethers, .long p1_barred, .ref a_p1_worths]))]) [0, 2, 1] (by decide) rfl
      have hl := lv_sub (l' := [(0, .ref a_p0), (1, .ref a_p1)]) hl [1, 2] rfl
      exact K11 (fun _ => 0) (Int32.toNatClampNeg r2) h a18 _ locs ls hP hD hS hl
  · have h := pw_cd_n c1 h
    rw [hQ]
    refine W.widen (k := 1) (n := 5040) (by decide) (by decide) ?_
    exact W.vret hx hb hr (fun t ht hW => ⟨⟨(a_p0_seatings, p0_listed, p0_size, p0_seatings_v, p0_seatings_n), rfl, hc.trans h.symm, by rw [ht]; exact hP, va_K.moved hW.alike hK, hD⟩, hS.F ht⟩) hS.2.2 dX2_list_7
