/-! the start -/
def sx0 : SX := (((fun _ => 0), 0), (0, 0, 0, 0), ((fun _ => 0), 1, 0, 0), ((fun _ => 0), 0, 0), ((fun _ => 0), (fun _ => 0), 0), ((fun _ => 0), 0, 0), ((fun _ => 0), 0, 0), ((fun _ => 0), (fun _ => 0), (fun _ => 0), 0), ((fun _ => 0), 1, (fun _ => 0), 1, 0), (0, 0, 0, 0, 0, 0, 0, 0, 0, (fun _ => 0)), (0, 0, 0, 0, 0, 0, 0, 0, 0, (fun _ => 0)), 0)
def sm0 : SM := ((fun _ => 0), (fun _ => 0), (fun _ => 0), (fun _ => 0), (fun _ => 0), 0, 0, 0, 0, (fun _ => 0), (fun _ => 0), (fun _ => 0), (fun _ => 0), (fun _ => 0), 0, 0, 0, 0, (fun _ => 0), (fun _ => 0), (fun _ => 0), 0, 0, 0, (fun _ => 0), 0, 0, (fun _ => 0), 0, (fun _ => 0), (fun _ => 0), 0, (fun _ => 0), (fun _ => 0), (fun _ => 0), 0, (fun _ => 0), (fun _ => 0), (fun _ => 0), (fun _ => 0), (fun _ => 0), (fun _ => 0))
theorem pw_nest_warm {s U : State} (hW : s.WarmedH U.vm) (h : pw_nest s) : pw_nest U := by
  obtain ⟨a0, a1, a2, a3, a4, a5, a6, a7⟩ := h
  exact ⟨va_Nw.warmM hW a0, va_Nw.warmM hW a1, va_Nw.warmM hW a2, va_Nw.warmM hW a3, va_Nw.warmM hW a4, va_Nw.warmM hW a5, va_Nw.warmM hW a6, va_Nw.warmM hW a7⟩
theorem pw_nest_calling {U : State} {g : JFrame} {mk : Option Addr} {a : Array Value} {V : State} (hV : U.vm = V.vm) (h : pw_nest U) : pw_nest V := by
  obtain ⟨a0, a1, a2, a3, a4, a5, a6, a7⟩ := h
  exact ⟨va_Nw.same rfl hV a0, va_Nw.same rfl hV a1, va_Nw.same rfl hV a2, va_Nw.same rfl hV a3, va_Nw.same rfl hV a4, va_Nw.same rfl hV a5, va_Nw.same rfl hV a6, va_Nw.same rfl hV a7⟩
theorem pw_preSN {s : State} {H : Heap} {D : va_G} {cI cZ : ClassId} {ws wc : va_W} {A : Nat → Prop} {As : List Value} (hN : pw_nest s) (hK : va_K D vwCl [(cI, .int), (cZ, .boolean)] s) (hP : va_P D vwCl ws H) (hD : va_D A ws) (isC : List Nat) (hC : isC.map (fun i => ws[i]?) = wc.map some) (hCP : isC.filterMap (fun i => ws[i]?) = wc) (hn : va_nd isC = true) : PreS s H (va_Pc As (fun U => pw_pre D cI cZ wc H.size U ∧ pw_nest U)) As :=
  ⟨fun a U g mk q => by
    obtain ⟨q0, ⟨q1, qP, qK, qD⟩, qN⟩ := q
    exact ⟨q0, ⟨q1, qP, va_K.moved (u := U) (U := U.calling g mk a) (Vm.Alike.refl U.vm) qK, qD⟩, pw_nest_calling (g := default) (mk := none) (a := a) (V := U.calling g mk a) rfl qN⟩,
   fun U hU hW => ⟨rfl, ⟨by rw [hU], by rw [hU]; exact hP.sub isC hCP, va_K.moved hW.alike hK, (hD.sub isC hn hC).weaken (fun _ _ _ _ => trivial)⟩, pw_nest_warm hW hN⟩⟩
theorem lt_nest9 : Cond.methodLinkNest RX10 9 yX9_init RX10 ∈ lw_tbl := by decide +kernel
theorem lt_nest18 : Cond.methodLinkNest RX10 18 yX5_init RX10 ∈ lw_tbl := by decide +kernel
theorem lt_nest25 : Cond.methodLinkNest RX10 25 yX2_init RX10 ∈ lw_tbl := by decide +kernel
theorem lt_nest32 : Cond.methodLinkNest RX10 32 yX8_init RX10 ∈ lw_tbl := by decide +kernel
theorem lt_nest39 : Cond.methodLinkNest RX10 39 yX0_init RX10 ∈ lw_tbl := by decide +kernel
theorem lt_nest52 : Cond.methodLinkNest RX10 52 yX1_init RX10 ∈ lw_tbl := by decide +kernel
theorem lt_nest59 : Cond.methodLinkNest RX10 59 yX6_init RX10 ∈ lw_tbl := by decide +kernel
theorem lt_nest66 : Cond.methodLinkNest RX10 66 yX4_init RX10 ∈ lw_tbl := by decide +kernel
theorem lt_lays : Cond.laysStatic "NoWifeBeside$Seating" "FACTORIALS" "[I" ∈ lw_tbl := by decide +kernel
theorem lt_ini : Cond.initialized "NoWifeBeside$Seating" ∈ lw_tbl := by decide +kernel
theorem lt_aI : Cond.arrayClass .int ∈ lw_tbl := by decide +kernel
theorem lt_aZ : Cond.arrayClass .boolean ∈ lw_tbl := by decide +kernel
theorem lk_L_clX10 : Cond.classLink RL 7 RX10 ∈ wsL_law := by decide +kernel
theorem lk_L_iiX10 : Cond.initialized RX10 ∈ wsL_law := by decide +kernel
theorem lk_L_imX10 : Cond.instanceMethod yX10_init ∈ wsL_law := by decide +kernel
theorem lk_L_clX11 : Cond.classLink RL 10 RX11 ∈ wsL_law := by decide +kernel
theorem lk_L_iiX11 : Cond.initialized RX11 ∈ wsL_law := by decide +kernel
theorem lk_L_imX11 : Cond.instanceMethod yX11_init ∈ wsL_law := by decide +kernel
theorem lk_L_ml11 : Cond.methodLink RL 12 yX11_init ∈ wsL_law := by decide +kernel
theorem lk_L_ml10 : Cond.methodLink RL 9 yX10_init ∈ wsL_law := by decide +kernel
theorem lk_L_inX0 : Cond.instantiable RX0 3 ∈ wsL_law := by decide +kernel
theorem lk_L_inX1 : Cond.instantiable RX1 4 ∈ wsL_law := by decide +kernel
theorem lk_L_inX2 : Cond.instantiable RX2 3 ∈ wsL_law := by decide +kernel
theorem lk_L_inX4 : Cond.instantiable RX4 10 ∈ wsL_law := by decide +kernel
theorem lk_L_inX5 : Cond.instantiable RX5 4 ∈ wsL_law := by decide +kernel
theorem lk_L_inX6 : Cond.instantiable RX6 3 ∈ wsL_law := by decide +kernel
theorem lk_L_inX8 : Cond.instantiable RX8 3 ∈ wsL_law := by decide +kernel
theorem lk_L_inX9 : Cond.instantiable RX9 2 ∈ wsL_law := by decide +kernel
theorem lk_L_inX10 : Cond.instantiable RX10 12 ∈ wsL_law := by decide +kernel
theorem lk_L_inX11 : Cond.instantiable RX11 42 ∈ wsL_law := by decide +kernel
theorem pw_fac_of {b : Nat} {s : State} (hts0 : ∀ w ∈ lw_tbl, w.before #[Value.ref b] s = true) (hgv : (Jvm.Cond.and given_1 narrow_1).before #[Value.ref b] s = true) : pw_fac (fun q : Nat => s.heap.size ≤ q) s s.heap := by
  have hs := flat_of_before _ hgv
  have hA : ∀ a : Nat, a < s.heap.size → ¬ (fun q : Nat => s.heap.size ≤ q) a := fun a h => Nat.not_le.mpr h
  have harr : (Cond.arrayOf (.static "NoWifeBeside$Seating" "FACTORIALS" "[I") .int).before #[Value.ref b] s = true := hs _ (by decide +kernel)
  have hlen : (Cond.eq (.length (.static "NoWifeBeside$Seating" "FACTORIALS" "[I")) (.int 8)).before #[Value.ref b] s = true := hs _ (by decide +kernel)
  have he0 : (Cond.eq (.elem (.static "NoWifeBeside$Seating" "FACTORIALS" "[I") (.int 0)) (.int 1)).before #[Value.ref b] s = true := hs _ (by decide +kernel)
  have he1 : (Cond.eq (.elem (.static "NoWifeBeside$Seating" "FACTORIALS" "[I") (.int 1)) (.int 1)).before #[Value.ref b] s = true := hs _ (by decide +kernel)
  have he2 : (Cond.eq (.elem (.static "NoWifeBeside$Seating" "FACTORIALS" "[I") (.int 2)) (.int 2)).before #[Value.ref b] s = true := hs _ (by decide +kernel)
  have he3 : (Cond.eq (.elem (.static "NoWifeBeside$Seating" "FACTORIALS" "[I") (.int 3)) (.int 6)).before #[Value.ref b] s = true := hs _ (by decide +kernel)
  have he4 : (Cond.eq (.elem (.static "NoWifeBeside$Seating" "FACTORIALS" "[I") (.int 4)) (.int 24)).before #[Value.ref b] s = true := hs _ (by decide +kernel)
  have he5 : (Cond.eq (.elem (.static "NoWifeBeside$Seating" "FACTORIALS" "[I") (.int 5)) (.int 120)).before #[Value.ref b] s = true := hs _ (by decide +kernel)
  have he6 : (Cond.eq (.elem (.static "NoWifeBeside$Seating" "FACTORIALS" "[I") (.int 6)) (.int 720)).before #[Value.ref b] s = true := hs _ (by decide +kernel)
  have he7 : (Cond.eq (.elem (.static "NoWifeBeside$Seating" "FACTORIALS" "[I") (.int 7)) (.int 5040)).before #[Value.ref b] s = true := hs _ (by decide +kernel)
  obtain ⟨t, ht, hT⟩ := va_Tof (N := 8) (f := fun k => .int (pw_facv k)) (A := fun q : Nat => s.heap.size ≤ q) (by decide) harr (va_eqt hlen) (fun j hj => by
    rcases (show j = 0 ∨ j = 1 ∨ j = 2 ∨ j = 3 ∨ j = 4 ∨ j = 5 ∨ j = 6 ∨ j = 7 by omega) with rfl | rfl | rfl | rfl | rfl | rfl | rfl | rfl
    · exact va_eqt he0
    · exact va_eqt he1
    · exact va_eqt he2
    · exact va_eqt he3
    · exact va_eqt he4
    · exact va_eqt he5
    · exact va_eqt he6
    · exact va_eqt he7) hA
  exact ⟨t, va_Zref (hts0 _ lt_lays) (hts0 _ lt_ini) ht hA, hT⟩
theorem pw_arrK {b : Nat} {s : State} {ty : FieldType} (h : (Cond.arrayClass ty).before #[Value.ref b] s = true) : ∃ cA : ClassId, ArrOfT s cA ty ∧ s.vm.findClass ("[" ++ ty.toString) = some cA := by
  obtain ⟨cA, kA, comp, h1, h2, h3⟩ := Cond.arrayClass_spec h
  exact ⟨cA, fun n z => ⟨fun k h => (by cases h), kA, h2, comp, h3⟩, h1⟩
set_option maxRecDepth 100000 in
set_option maxHeartbeats 8000000 in
theorem whole_open (Inv : SX → SM → Prop) (h0 : Inv sx0 sm0) (h_write : Sim_write Inv) (h_wipe : Sim_wipe Inv) (h_fault : Sim_fault Inv) (h_party : Sim_party Inv) (h_person : Sim_person Inv) (h_chair : Sim_chair Inv) (h_worth : Sim_worth Inv) (h_dined : Sim_dined Inv) (h_many : Sim_many Inv) (h_luck : Sim_luck Inv) (h_rank : Sim_rank Inv) (h_nth : Sim_nth Inv) (h_wrong : Sim_wrong Inv) (h_draw : Sim_draw Inv) (h_take : Sim_take Inv) (h_swap : Sim_swap Inv) (h_course : Sim_course Inv) (h_dinner : Sim_dinner Inv) (h_undo : Sim_undo Inv) (h_good : Sim_good Inv) (h_worthOf : Sim_worthOf Inv) (h_bestAt : Sim_bestAt Inv) (h_few : Sim_few Inv) (h_fewAt : Sim_fewAt Inv) (h_changes : Sim_changes Inv) (h_gossip : Sim_gossip Inv) (h_hush : Sim_hush Inv) (h_fits : Sim_fits Inv) (h_sat : Sim_sat Inv) (h_seed : Sim_seed Inv) (h_keep : Sim_keep Inv) (h_again : Sim_again Inv) (h_count : Sim_count Inv) {p : Program} {e : Env} {s : State} {m : MethodId} {below : List Frame} {meth : Method} {c : Code} (l : Launch) {b L : Nat} {xs : Nat → Int32} (hL : L ≤ 2048) (C0 : lw_At p s m meth c b L xs) : W p l e room_1 s m #[Value.ref b] below meth c s.heap [] 0 0 (lw_Z below #[Value.ref b] s) (entryFrame m ([Value.ref b] : List Value).toArray 4) := by
  obtain ⟨hx, hb, hr, hml, hown, hts0, hX, hbl, hlocks, hgv⟩ := id C0
  have hts : ∀ w ∈ wsL_law, w.before #[Value.ref b] s = true := fun w h => hts0 w (wsL_law_in w h)
  have hown : s.vm.findClass RL = some m.cls := hown
  have hA : ∀ q : Nat, s.heap.size ≤ q → (fun q : Nat => s.heap.size ≤ q) q := fun _ h => h
  have hF := pw_fac_of hts0 hgv
  have hN : pw_nest s := ⟨va_Nw.of rfl (hts0 _ lt_nest9), va_Nw.of rfl (hts0 _ lt_nest18), va_Nw.of rfl (hts0 _ lt_nest25), va_Nw.of rfl (hts0 _ lt_nest32), va_Nw.of rfl (hts0 _ lt_nest39), va_Nw.of rfl (hts0 _ lt_nest52), va_Nw.of rfl (hts0 _ lt_nest59), va_Nw.of rfl (hts0 _ lt_nest66)⟩
  obtain ⟨c0, iS0, hKn0⟩ := u_known (C := RX0) (T := TX0) (N := 3) (n := 3) hts inlX0 (hts _ lk_L_inX0)
  obtain ⟨c1, iS1, hKn1⟩ := u_known (C := RX1) (T := TX1) (N := 4) (n := 4) hts inlX1 (hts _ lk_L_inX1)
  obtain ⟨c2, iS2, hKn2⟩ := u_known (C := RX2) (T := TX2) (N := 3) (n := 3) hts inlX2 (hts _ lk_L_inX2)
  obtain ⟨c3, iS3, hKn3⟩ := u_known (C := RX4) (T := TX4) (N := 10) (n := 10) hts inlX4 (hts _ lk_L_inX4)
  obtain ⟨c4, iS4, hKn4⟩ := u_known (C := RX5) (T := TX5) (N := 4) (n := 4) hts inlX5 (hts _ lk_L_inX5)
  obtain ⟨c5, iS5, hKn5⟩ := u_known (C := RX6) (T := TX6) (N := 3) (n := 3) hts inlX6 (hts _ lk_L_inX6)
  obtain ⟨c6, iS6, hKn6⟩ := u_known (C := RX8) (T := TX8) (N := 3) (n := 3) hts inlX8 (hts _ lk_L_inX8)
  obtain ⟨c7, iS7, hKn7⟩ := u_known (C := RX9) (T := TX9) (N := 2) (n := 2) hts inlX9 (hts _ lk_L_inX9)
  obtain ⟨c8, iS8, hKn8⟩ := u_known (C := RX10) (T := TX10) (N := 12) (n := 12) hts inlX10 (hts _ lk_L_inX10)
  obtain ⟨c9, iS9, hKn9⟩ := u_known (C := RX11) (T := TX11) (N := 42) (n := 42) hts inlX11 (hts _ lk_L_inX11)
  obtain ⟨dC, dI, hKc⟩ : ∃ (dC : Nat → ClassId) (dI : Nat → Nat → Nat), ∀ (k : Nat) (q : vw_C), vwCl[k]? = some q → u_Kn s q.1 q.2.1 q.2.2 (dC k) (dI k) := by
    refine ⟨fun k => if k = 0 then c0 else if k = 1 then c1 else if k = 2 then c2 else if k = 3 then c3 else if k = 4 then c4 else if k = 5 then c5 else if k = 6 then c6 else if k = 7 then c7 else if k = 8 then c8 else c9, fun k => if k = 0 then iS0 else if k = 1 then iS1 else if k = 2 then iS2 else if k = 3 then iS3 else if k = 4 then iS4 else if k = 5 then iS5 else if k = 6 then iS6 else if k = 7 then iS7 else if k = 8 then iS8 else iS9, ?_⟩
    intro k q hq
    match k, hq with
    | 0, hq => cases hq; exact hKn0
    | 1, hq => cases hq; exact hKn1
    | 2, hq => cases hq; exact hKn2
    | 3, hq => cases hq; exact hKn3
    | 4, hq => cases hq; exact hKn4
    | 5, hq => cases hq; exact hKn5
    | 6, hq => cases hq; exact hKn6
    | 7, hq => cases hq; exact hKn7
    | 8, hq => cases hq; exact hKn8
    | 9, hq => cases hq; exact hKn9
    | k + 10, hq => simp [vwCl] at hq
  obtain ⟨cI, hI1, hI2⟩ := pw_arrK (hts0 _ lt_aI)
  obtain ⟨cZ, hZ1, hZ2⟩ := pw_arrK (hts0 _ lt_aZ)
  have hK : va_K (dC, dI) vwCl [(cI, .int), (cZ, .boolean)] s := ⟨hKc, fun k q h => by
    match k, h with
    | 0, h => cases h; exact ⟨hI1, hI2⟩
    | 1, h => cases h; exact ⟨hZ1, hZ2⟩
    | k + 2, h => simp at h⟩
  have hS : va_S (fun q : Nat => s.heap.size ≤ q) s.heap s.heap [] := va_S.rf
  have hP : va_P (dC, dI) vwCl [] s.heap := fun k q h => by simp at h
  have hD : va_D (fun q : Nat => s.heap.size ≤ q) [] := ⟨fun i j p q h => by simp at h, fun k q h => by simp at h⟩
  have hl := lv_entry ([.ref b]) (n := 4) (Nat.le_of_ble_eq_true rfl)
  rw [lg_entry_eq]
  generalize (lg_sl ([.ref b]) ++ List.replicate (4 - (lg_sl ([.ref b])).length) Slot.unset).toArray = ls at hl ⊢
  have hl : lv_has ls 4 [(0, .ref b)] := hl
  refine va_new (ci := 8) (fs := [.null, .null, .null, .null, .null, .null, .null, .null, .null, .null, .null, .long 0]) (C := RX10) (T := TX10) (N := 12) hx hb hts inlX10 tyX10 tyX10_ok hown (hts _ lk_L_clX10) (hts _ lk_L_inX10) (hts _ lk_L_iiX10) hK hP hD hS hA rfl (fun j hj => by rcases (show j = 0 ∨ j = 1 ∨ j = 2 ∨ j = 3 ∨ j = 4 ∨ j = 5 ∨ j = 6 ∨ j = 7 ∨ j = 8 ∨ j = 9 ∨ j = 10 ∨ j = 11 by omega) with rfl | rfl | rfl | rfl | rfl | rfl | rfl | rfl | rfl | rfl | rfl | rfl <;> rfl) (Nat.le_of_ble_eq_true rfl) (Nat.le_of_ble_eq_true rfl) dL_law_0 (fun ax H hP hD hS => ?_)
  have hP : va_P (dC, dI) vwCl [(ax, .inr (8, [.null, .null, .null, .null, .null, .null, .null, .null, .null, .null, .null, .long 0]))] H := hP
  have hD : va_D (fun q : Nat => s.heap.size ≤ q) [(ax, .inr (8, [.null, .null, .null, .null, .null, .null, .null, .null, .null, .null, .null, .long 0]))] := hD
  refine lv_dup hx hb dL_law_3 rfl ?_
  refine pw_cv (wr := []) (va_runI (As := []) (rest := [.ref ax]) ⟨hx, hb, hml, hown, hts⟩ (c_X10_init l dC dI cI cZ H.size ax) (cwI 0 hts gL_law_X10_init rfl rfl rfl (hts _ lk_L_iiX10) (hts _ lk_L_ml10) (hts _ lk_L_imX10) rfl (by decide +kernel) ⟨(Nat.le_of_ble_eq_true rfl), (Nat.le_of_ble_eq_true rfl)⟩) (pw_preSN hN hK hP hD [0] rfl rfl (by decide)) rfl rfl hl.1 rfl (lv_room (Nat.le_of_ble_eq_true rfl)) dL_law_4 ⟨(Nat.le_of_ble_eq_true rfl), (Nat.le_of_ble_eq_true rfl)⟩) hP hD hS hA [0] [] rfl rfl (by decide) (by decide) (fun u H locs hw hP hD hS => ?_)
  obtain ⟨ax_text, ax_text_signs, ax_reader, ax_lawful, ax_lawful_seatings, ax_table, ax_table_dined, ax_acts, ax_acts_before, ax_acts_dinners, ax_slot0, ax_slot0_dined, ax_slot1, ax_slot1_dined, ax_gossips, ax_gossips_ones, ax_gossips_others, ax_gossips_besides, ax_search, ax_search_queue, ax_search_swaps, ax_guests, ax_guests_worths, ax_draft, ax_draft_worths⟩ := u
  have hP : va_P (dC, dI) vwCl (wX cI cZ ax ax_text ax_text_signs ax_reader ax_lawful ax_lawful_seatings ax_table ax_table_dined ax_acts ax_acts_before ax_acts_dinners ax_slot0 ax_slot0_dined ax_slot1 ax_slot1_dined ax_gossips ax_gossips_ones ax_gossips_others ax_gossips_besides ax_search ax_search_queue ax_search_swaps ax_guests ax_guests_worths ax_draft ax_draft_worths sx0) H := hP
  have hD : va_D (fun q : Nat => s.heap.size ≤ q) (wX cI cZ ax ax_text ax_text_signs ax_reader ax_lawful ax_lawful_seatings ax_table ax_table_dined ax_acts ax_acts_before ax_acts_dinners ax_slot0 ax_slot0_dined ax_slot1 ax_slot1_dined ax_gossips ax_gossips_ones ax_gossips_others ax_gossips_besides ax_search ax_search_queue ax_search_swaps ax_guests ax_guests_worths ax_draft ax_draft_worths sx0) := hD
  refine W.widen (k := 26) (n := 503) (by decide) (by decide) ?_
  refine lv_astore_n (lv' := [(1, .ref ax), (0, .ref b)]) hx hb dL_law_7 rfl hl (by decide) rfl (fun ls hl => ?_)
  refine va_new (ci := 9) (fs := [.null, .null, .null, .null, .null, .int 0, .int 0, .int 0, .int 0, .null, .null, .null, .null, .null, .int 0, .int 0, .int 0, .int 0, .null, .null, .null, .int 0, .int 0, .int 0, .null, .int 0, .int 0, .null, .long 0, .null, .null, .int 0, .null, .null, .null, .int 0, .null, .null, .null, .null, .null, .null]) (C := RX11) (T := TX11) (N := 42) hx hb hts inlX11 tyX11 tyX11_ok hown (hts _ lk_L_clX11) (hts _ lk_L_inX11) (hts _ lk_L_iiX11) hK hP hD hS hA rfl (fun j hj => by rcases (show j = 0 ∨ j = 1 ∨ j = 2 ∨ j = 3 ∨ j = 4 ∨ j = 5 ∨ j = 6 ∨ j = 7 ∨ j = 8 ∨ j = 9 ∨ j = 10 ∨ j = 11 ∨ j = 12 ∨ j = 13 ∨ j = 14 ∨ j = 15 ∨ j = 16 ∨ j = 17 ∨ j = 18 ∨ j = 19 ∨ j = 20 ∨ j = 21 ∨ j = 22 ∨ j = 23 ∨ j = 24 ∨ j = 25 ∨ j = 26 ∨ j = 27 ∨ j = 28 ∨ j = 29 ∨ j = 30 ∨ j = 31 ∨ j = 32 ∨ j = 33 ∨ j = 34 ∨ j = 35 ∨ j = 36 ∨ j = 37 ∨ j = 38 ∨ j = 39 ∨ j = 40 ∨ j = 41 by omega) with rfl | rfl | rfl | rfl | rfl | rfl | rfl | rfl | rfl | rfl | rfl | rfl | rfl | rfl | rfl | rfl | rfl | rfl | rfl | rfl | rfl | rfl | rfl | rfl | rfl | rfl | rfl | rfl | rfl | rfl | rfl | rfl | rfl | rfl | rfl | rfl | rfl | rfl | rfl | rfl | rfl | rfl <;> rfl) (Nat.le_of_ble_eq_true rfl) (Nat.le_of_ble_eq_true rfl) dL_law_8 (fun am H hP hD hS => ?_)
  have hP : va_P (dC, dI) vwCl (wX cI cZ ax ax_text ax_text_signs ax_reader ax_lawful ax_lawful_seatings ax_table ax_table_dined ax_acts ax_acts_before ax_acts_dinners ax_slot0 ax_slot0_dined ax_slot1 ax_slot1_dined ax_gossips ax_gossips_ones ax_gossips_others ax_gossips_besides ax_search ax_search_queue ax_search_swaps ax_guests ax_guests_worths ax_draft ax_draft_worths sx0 ++ [(am, .inr (9, [.null, .null, .null, .null, .null, .int 0, .int 0, .int 0, .int 0, .null, .null, .null, .null, .null, .int 0, .int 0, .int 0, .int 0, .null, .null, .null, .int 0, .int 0, .int 0, .null, .int 0, .int 0, .null, .long 0, .null, .null, .int 0, .null, .null, .null, .int 0, .null, .null, .null, .null, .null, .null]))]) H := hP
  have hD : va_D (fun q : Nat => s.heap.size ≤ q) (wX cI cZ ax ax_text ax_text_signs ax_reader ax_lawful ax_lawful_seatings ax_table ax_table_dined ax_acts ax_acts_before ax_acts_dinners ax_slot0 ax_slot0_dined ax_slot1 ax_slot1_dined ax_gossips ax_gossips_ones ax_gossips_others ax_gossips_besides ax_search ax_search_queue ax_search_swaps ax_guests ax_guests_worths ax_draft ax_draft_worths sx0 ++ [(am, .inr (9, [.null, .null, .null, .null, .null, .int 0, .int 0, .int 0, .int 0, .null, .null, .null, .null, .null, .int 0, .int 0, .int 0, .int 0, .null, .null, .null, .int 0, .int 0, .int 0, .null, .int 0, .int 0, .null, .long 0, .null, .null, .int 0, .null, .null, .null, .int 0, .null, .null, .null, .null, .null, .null]))]) := hD
  refine lv_dup hx hb dL_law_11 rfl ?_
  refine pw_cv (wr := wX cI cZ ax ax_text ax_text_signs ax_reader ax_lawful ax_lawful_seatings ax_table ax_table_dined ax_acts ax_acts_before ax_acts_dinners ax_slot0 ax_slot0_dined ax_slot1 ax_slot1_dined ax_gossips ax_gossips_ones ax_gossips_others ax_gossips_besides ax_search ax_search_queue ax_search_swaps ax_guests ax_guests_worths ax_draft ax_draft_worths sx0) (va_runI (As := []) (rest := [.ref am]) ⟨hx, hb, hml, hown, hts⟩ (c_X11_init l dC dI cI cZ H.size am) (cwI 0 hts gL_law_X11_init rfl rfl rfl (hts _ lk_L_iiX11) (hts _ lk_L_ml11) (hts _ lk_L_imX11) rfl (by decide +kernel) ⟨(Nat.le_of_ble_eq_true rfl), (Nat.le_of_ble_eq_true rfl)⟩) (pw_preS hK hP hD [26] rfl rfl (by decide)) rfl rfl hl.1 rfl (lv_room (Nat.le_of_ble_eq_true rfl)) dL_law_12 ⟨(Nat.le_of_ble_eq_true rfl), (Nat.le_of_ble_eq_true rfl)⟩) hP hD hS hA [26] [0, 1, 2, 3, 4, 5, 6, 7, 8, 9, 10, 11, 12, 13, 14, 15, 16, 17, 18, 19, 20, 21, 22, 23, 24, 25] rfl rfl (by decide) (by decide) (fun u H locs hw hP hD hS => ?_)
  obtain ⟨am_readWoman, am_readMate, am_readQuarrel, am_readJoined, am_readWorth, am_woman, am_mate, am_quarrel, am_joined, am_worths, am_seat, am_dines, am_text, am_perm, am_row, am_places, am_found, am_queue, am_steps, am_digits, am_toldOne, am_toldOther, am_toldBeside, am_sats, am_isKept, am_kept⟩ := u
  have hP : va_P (dC, dI) vwCl (wX cI cZ ax ax_text ax_text_signs ax_reader ax_lawful ax_lawful_seatings ax_table ax_table_dined ax_acts ax_acts_before ax_acts_dinners ax_slot0 ax_slot0_dined ax_slot1 ax_slot1_dined ax_gossips ax_gossips_ones ax_gossips_others ax_gossips_besides ax_search ax_search_queue ax_search_swaps ax_guests ax_guests_worths ax_draft ax_draft_worths sx0 ++ wM cI cZ am am_readWoman am_readMate am_readQuarrel am_readJoined am_readWorth am_woman am_mate am_quarrel am_joined am_worths am_seat am_dines am_text am_perm am_row am_places am_found am_queue am_steps am_digits am_toldOne am_toldOther am_toldBeside am_sats am_isKept am_kept sm0) H := hP
  have hD : va_D (fun q : Nat => s.heap.size ≤ q) (wX cI cZ ax ax_text ax_text_signs ax_reader ax_lawful ax_lawful_seatings ax_table ax_table_dined ax_acts ax_acts_before ax_acts_dinners ax_slot0 ax_slot0_dined ax_slot1 ax_slot1_dined ax_gossips ax_gossips_ones ax_gossips_others ax_gossips_besides ax_search ax_search_queue ax_search_swaps ax_guests ax_guests_worths ax_draft ax_draft_worths sx0 ++ wM cI cZ am am_readWoman am_readMate am_readQuarrel am_readJoined am_readWorth am_woman am_mate am_quarrel am_joined am_worths am_seat am_dines am_text am_perm am_row am_places am_found am_queue am_steps am_digits am_toldOne am_toldOther am_toldBeside am_sats am_isKept am_kept sm0) := hD
  refine W.widen (k := 53) (n := 3328) (by decide) (by decide) ?_
  refine lv_astore_n (lv' := [(2, .ref am), (1, .ref ax), (0, .ref b)]) hx hb dL_law_15 rfl hl (by decide) rfl (fun ls hl => ?_)
  refine lv_iconst (v := 0) hx hb dL_law_16 (by decide) ?_
  refine lv_istore_n (lv' := [(3, .int 0), (2, .ref am), (1, .ref ax), (0, .ref b)]) hx hb dL_law_17 rfl hl (by decide) rfl (fun ls hl => ?_)
  exact law_loop hx hb hml hown hts hX hbl hK hF hr hlocks hL Inv h_write h_wipe h_fault h_party h_person h_chair h_worth h_dined h_many h_luck h_rank h_nth h_wrong h_draw h_take h_swap h_course h_dinner h_undo h_good h_worthOf h_bestAt h_few h_fewAt h_changes h_gossip h_hush h_fits h_sat h_seed h_keep h_again h_count 513 0 (by omega) (by omega) ax ax_text ax_text_signs ax_reader ax_lawful ax_lawful_seatings ax_table ax_table_dined ax_acts ax_acts_before ax_acts_dinners ax_slot0 ax_slot0_dined ax_slot1 ax_slot1_dined ax_gossips ax_gossips_ones ax_gossips_others ax_gossips_besides ax_search ax_search_queue ax_search_swaps ax_guests ax_guests_worths ax_draft ax_draft_worths am am_readWoman am_readMate am_readQuarrel am_readJoined am_readWorth am_woman am_mate am_quarrel am_joined am_worths am_seat am_dines am_text am_perm am_row am_places am_found am_queue am_steps am_digits am_toldOne am_toldOther am_toldBeside am_sats am_isKept am_kept sx0 sm0 h0 _ locs ls hP hD hS (lv_sub hl [3, 2, 1, 0] rfl)
