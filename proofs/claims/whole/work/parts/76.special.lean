/-! the static row of factorials: outside of every method's own cells -/
def pw_fac (A : Nat → Prop) (U : State) (H : Heap) : Prop := ∃ t : Nat, va_Z "NoWifeBeside$Seating" "FACTORIALS" "[I" (.ref t) A U H ∧ va_T .int t 8 (fun k => .int (pw_facv k)) A U H
theorem pw_fac.moved {A : Nat → Prop} {u U : State} {H : Heap} (hvm : u.vm.Alike U.vm) (h : pw_fac A u H) : pw_fac A U H := by
  obtain ⟨t, h1, h2⟩ := h
  exact ⟨t, va_Z.moved hvm h1, va_T.moved hvm h2⟩
theorem pw_fac.at {A B : Nat → Prop} {U : State} {H0 H : Heap} {locs : List Loc} (h : pw_fac A U H0) (hS : va_S A H0 H locs) (hAB : ∀ q, B q → A q) : pw_fac B U H := by
  obtain ⟨t, h1, h2⟩ := h
  exact ⟨t, (va_Z.kept h1 hS.2.1).narrow hAB, (va_T.kept h2 hS.2.1).narrow hAB⟩
def pw_preF (D : va_G) (cI cZ : ClassId) (ws : va_W) (sz : Nat) (U : State) : Prop := pw_pre D cI cZ ws sz U ∧ pw_fac (va_A ws sz) U U.heap
theorem pw_fbF {av : List Value} {D : va_G} {cI cZ : ClassId} {ws : va_W} {sz : Nat} : FrameBlind (va_Pc av (pw_preF D cI cZ ws sz)) := fun a U g mk q => by
  obtain ⟨q0, ⟨q1, qP, qK, qD⟩, qF⟩ := q
  exact ⟨q0, ⟨q1, qP, va_K.moved (u := U) (U := U.calling g mk a) (Vm.Alike.refl U.vm) qK, qD⟩, pw_fac.moved (u := U) (U := U.calling g mk a) (Vm.Alike.refl U.vm) qF⟩
section KF
variable {p : Program} {l : Launch} {e : Env} {R : Room} {s : State} {m : MethodId} {args : Array Value} {below : List Frame} {meth : Method} {c : Code} {H : Heap} {locs : List Loc} {cells slots : Nat} {Q : State → Prop}
theorem pw_preVF {D : va_G} {cI cZ : ClassId} {ws wc : va_W} {A : Nat → Prop} {b : Nat} {As : List Value} {q : vw_C} {fs : List Value} (hF : pw_fac A s s.heap) (hS : va_S A s.heap H locs) (hA : ∀ q, s.heap.size ≤ q → A q) (hK : va_K D vwCl [(cI, .int), (cZ, .boolean)] s) (hP : va_P D vwCl ws H) (hD : va_D A ws) (isC : List Nat) (hC : isC.map (fun i => ws[i]?) = wc.map some) (hCP : isC.filterMap (fun i => ws[i]?) = wc) (hn : va_nd isC = true) (ci : Nat) (hc : vwCl[ci]? = some q) (he : wc[0]? = some (b, .inr (ci, fs))) : PreV s H q.1 b (va_Pc (.ref b :: As) (pw_preF D cI cZ wc H.size)) As :=
  ⟨pw_fbF, va_recv hK (hP.sub isC hCP) hc he, fun U hU hW => ⟨rfl, ⟨by rw [hU], by rw [hU]; exact hP.sub isC hCP, va_K.moved hW.alike hK, (hD.sub isC hn hC).weaken (fun _ _ _ _ => trivial)⟩, by rw [hU]; exact pw_fac.moved hW.alike (pw_fac.at hF hS (va_free (wc := wc) hD hS hA isC hC))⟩⟩
theorem pw_preSF {D : va_G} {cI cZ : ClassId} {ws wc : va_W} {A : Nat → Prop} {As : List Value} (hF : pw_fac A s s.heap) (hS : va_S A s.heap H locs) (hA : ∀ q, s.heap.size ≤ q → A q) (hK : va_K D vwCl [(cI, .int), (cZ, .boolean)] s) (hP : va_P D vwCl ws H) (hD : va_D A ws) (isC : List Nat) (hC : isC.map (fun i => ws[i]?) = wc.map some) (hCP : isC.filterMap (fun i => ws[i]?) = wc) (hn : va_nd isC = true) : PreS s H (va_Pc As (pw_preF D cI cZ wc H.size)) As :=
  ⟨pw_fbF, fun U hU hW => ⟨rfl, ⟨by rw [hU], by rw [hU]; exact hP.sub isC hCP, va_K.moved hW.alike hK, (hD.sub isC hn hC).weaken (fun _ _ _ _ => trivial)⟩, by rw [hU]; exact pw_fac.moved hW.alike (pw_fac.at hF hS (va_free (wc := wc) hD hS hA isC hC))⟩⟩
variable {D : va_G} {cI cZ : ClassId} {ws wc wr : va_W} {A : Nat → Prop} {S : Type} {w1 : S → va_W} {mc ms pc : Nat} {ls : Array Slot} {st0 rest : List Value} {a : Array Value}
theorem pw_cr {post : S → Prop} {g : Nat} (hr : va_Run p l e R s m args below meth c H locs cells slots mc ms (F0 m pc ls st0) rest (va_Qr post (fun u ra t => ra = g ∧ pw_post D cI cZ (va_A wc H.size) (w1 u) t) (va_A wc H.size) a) (va_A wc H.size)) (hP : va_P D vwCl ws H) (hD : va_D A ws) (hS : va_S A s.heap H locs) (hA : ∀ q, s.heap.size ≤ q → A q) (isC isR : List Nat) (hC : isC.map (fun i => ws[i]?) = wc.map some) (hR : isR.map (fun i => ws[i]?) = wr.map some) (hn : va_nd isR = true) (hdis : ∀ i ∈ isR, i ∉ isC)
    (kk : ∀ (u : S) (H1 : Heap) (locs1 : List Loc), post u → va_P D vwCl (wr ++ w1 u) H1 → va_D A (wr ++ w1 u) → va_S A s.heap H1 locs1 → W p l e R s m args below meth c H1 locs1 (cells + mc) (slots + ms) Q (F0 m (pc + 3) ls (.ref g :: rest))) : W p l e R s m args below meth c H locs cells slots Q (F0 m pc ls st0) := by
  have hFc := va_free (wc := wc) hD hS hA isC hC
  refine va_callr hr hS (fun q _ h => hFc q h) hFc (fun u ra t H1 locs1 ht hvm hw hB hz1 hk1 hS1 => ?_)
  obtain ⟨hra, hP1, hK1, hD1⟩ := hB
  subst hra
  rw [ht] at hP1
  obtain ⟨h1, h2⟩ := va_join hP hD isC isR hC hR hn hdis hk1 hFc hP1 hD1
  exact kk u H1 locs1 hw h1 h2 hS1
end KF
theorem lk_X7_howMany_9 : Cond.fieldLink RX7 9 "NoWifeBeside$Seating" "FACTORIALS" "[I" ∈ wsX7_howMany := by decide +kernel
abbrev rm_X7_howMany : Room := { frames := 0, cells := 0, slots := 0, locals := 0 }
set_option maxRecDepth 100000 in
set_option maxHeartbeats 4000000 in
theorem c_X7_howMany (l : Launch) (dC : Nat → ClassId) (dI : Nat → Nat → Nat) (cI cZ : ClassId) (sz : Nat) (x0 : Int32) (xx : Int32) (hc : f_X7_howMany x0 = some xx) : Met l yX7_howMany wsX7_howMany rm_X7_howMany (va_Pc [.int x0] (pw_preF (dC, dI) cI cZ [] sz)) (va_Qi (fun (r : Int32) (u : Unit) => f_X7_howMany x0 = some r) (fun u t => pw_post (dC, dI) cI cZ (va_A [] sz) [] t) (va_A [] sz)) 0 0 (va_A [] sz) := by
  refine Met.ofW (cc := cX7_howMany) (maxL := 1) (ret := (some .int)) (by decide) rfl ?_
  intro p e s m args below meth c s₁ B hml hv
  obtain ⟨rfl, ⟨hsz, hP, hK, hD0⟩, hF⟩ := hv
  have hx := B.exec
  have hb := B.bytes
  have hr := B.returns
  have hts := atoms_spec (ws := wsX7_howMany) B.pre
  have hown : s.vm.findClass RX7 = some m.cls := findClass_of_methodNamed B.named
  have hlocks := B.notSynchronized
  subst hsz
  have hD := hD0.self (sz := s.heap.size)
  generalize hAe : va_A [] s.heap.size = A at hD hF ⊢
  have hA : ∀ q : Nat, s.heap.size ≤ q → A q := fun q h => by rw [← hAe]; exact Or.inr h
  have hS : va_S A s.heap s.heap [] := va_S.rf
  have hP : va_P (dC, dI) vwCl [] s.heap := hP
  have hl := lv_entry ([.int x0]) (n := 1) (Nat.le_of_ble_eq_true rfl)
  rw [lg_entry_eq]
  generalize (lg_sl ([.int x0]) ++ List.replicate (1 - (lg_sl ([.int x0])).length) Slot.unset).toArray = ls at hl ⊢
  have hl : lv_has ls 1 [(0, .int x0)] := hl
  obtain ⟨t, hZ, hT⟩ := hF
  have h := hc
  unfold f_X7_howMany at h
  obtain ⟨g, h⟩ := pw_gd_e h
  refine va_gets (C := "NoWifeBeside$Seating") (n := "FACTORIALS") (d := "[I") hx hb hZ hS hown (hts _ lk_X7_howMany_9) (fun _ h9 => h9) dX7_howMany_0 ?_
  refine lv_iload_n hx hb dX7_howMany_3 rfl (lv_at hl 0 rfl) ?_
  refine lv_bipush (v := 7) hx hb dX7_howMany_4 (by decide) ?_
  refine lv_iand hx hb dX7_howMany_6 ?_
  refine va_ti hx hb hT hS g (v := .int (pw_facv (Int32.toNatClampNeg (x0 &&& 7)))) rfl dX7_howMany_7 ?_
  exact W.iret (v := pw_facv (Int32.toNatClampNeg (x0 &&& 7))) hx hb hr (fun t ht hW => ⟨⟨_, (), rfl, hc.trans h.symm, by rw [ht]; exact hP, va_K.moved hW.alike hK, hD⟩, hS.F ht⟩) hS.2.2 dX7_howMany_8
theorem li_X10_slotOf_X10 : ∀ w ∈ u_ws RX10 TX10 12, w ∈ wsX10_slotOf := fun w h => List.mem_cons_of_mem _ (List.mem_append_right _ h)
theorem lk_X10_slotOf_44 : Cond.fieldLink RX10 44 "NoWifeBeside" "slot0" "LNoWifeBeside$Table;" ∈ wsX10_slotOf := by decide +kernel
theorem lk_X10_slotOf_47 : Cond.fieldLink RX10 47 "NoWifeBeside" "slot1" "LNoWifeBeside$Table;" ∈ wsX10_slotOf := by decide +kernel
abbrev rm_X10_slotOf : Room := { frames := 0, cells := 0, slots := 0, locals := 0 }
set_option maxRecDepth 100000 in
set_option maxHeartbeats 4000000 in
theorem c_X10_slotOf (l : Launch) (dC : Nat → ClassId) (dI : Nat → Nat → Nat) (cI cZ : ClassId) (sz : Nat) (a_p0 : Nat) (a_p0_text : Nat) (a_p0_reader : Nat) (a_p0_lawful : Nat) (a_p0_table : Nat) (a_p0_acts : Nat) (a_p0_slot0 : Nat) (a_p0_slot1 : Nat) (a_p0_gossips : Nat) (a_p0_search : Nat) (a_p0_guests : Nat) (a_p0_draft : Nat) (p0_drawnBy : Int64) (x1 : Int32) : Met l yX10_slotOf wsX10_slotOf rm_X10_slotOf (va_Pc [.ref a_p0, .int x1] (pw_pre (dC, dI) cI cZ [(a_p0, .inr (8, [.ref a_p0_text, .ref a_p0_reader, .ref a_p0_lawful, .ref a_p0_table, .ref a_p0_acts, .ref a_p0_slot0, .ref a_p0_slot1, .ref a_p0_gossips, .ref a_p0_search, .ref a_p0_guests, .ref a_p0_draft, .long p0_drawnBy]))] sz)) (va_Qr (fun (u : Unit) => True) (fun u ra t => ra = (if x1 = 0 then a_p0_slot0 else a_p0_slot1) ∧ pw_post (dC, dI) cI cZ (va_A [(a_p0, .inr (8, [.ref a_p0_text, .ref a_p0_reader, .ref a_p0_lawful, .ref a_p0_table, .ref a_p0_acts, .ref a_p0_slot0, .ref a_p0_slot1, .ref a_p0_gossips, .ref a_p0_search, .ref a_p0_guests, .ref a_p0_draft, .long p0_drawnBy]))] sz) [(a_p0, .inr (8, [.ref a_p0_text, .ref a_p0_reader, .ref a_p0_lawful, .ref a_p0_table, .ref a_p0_acts, .ref a_p0_slot0, .ref a_p0_slot1, .ref a_p0_gossips, .ref a_p0_search, .ref a_p0_guests, .ref a_p0_draft, .long p0_drawnBy]))] t) (va_A [(a_p0, .inr (8, [.ref a_p0_text, .ref a_p0_reader, .ref a_p0_lawful, .ref a_p0_table, .ref a_p0_acts, .ref a_p0_slot0, .ref a_p0_slot1, .ref a_p0_gossips, .ref a_p0_search, .ref a_p0_guests, .ref a_p0_draft, .long p0_drawnBy]))] sz)) 0 0 (va_A [(a_p0, .inr (8, [.ref a_p0_text, .ref a_p0_reader, .ref a_p0_lawful, .ref a_p0_table, .ref a_p0_acts, .ref a_p0_slot0, .ref a_p0_slot1, .ref a_p0_gossips, .ref a_p0_search, .ref a_p0_guests, .ref a_p0_draft, .long p0_drawnBy]))] sz) := by
  refine Met.ofW (cc := cX10_slotOf) (maxL := 2) (ret := (some (.object "NoWifeBeside$Table"))) (by decide) rfl ?_
  intro p e s m args below meth c s₁ B hml hv
  obtain ⟨rfl, hsz, hP, hK, hD0⟩ := hv
  have hx := B.exec
  have hb := B.bytes
  have hr := B.returns
  have hts := atoms_spec (ws := wsX10_slotOf) B.pre
  have hown : s.vm.findClass RX10 = some m.cls := findClass_of_methodNamed B.named
  have hlocks := B.notSynchronized
  subst hsz
  have hD := hD0.self (sz := s.heap.size)
  generalize hAe : va_A [(a_p0, .inr (8, [.ref a_p0_text, .ref a_p0_reader, .ref a_p0_lawful, .ref a_p0_table, .ref a_p0_acts, .ref a_p0_slot0, .ref a_p0_slot1, .ref a_p0_gossips, .ref a_p0_search, .ref a_p0_guests, .ref a_p0_draft, .long p0_drawnBy]))] s.heap.size = A at hD ⊢
  have hS : va_S A s.heap s.heap [] := va_S.rf
  have hP : va_P (dC, dI) vwCl [(a_p0, .inr (8, [.ref a_p0_text, .ref a_p0_reader, .ref a_p0_lawful, .ref a_p0_table, .ref a_p0_acts, .ref a_p0_slot0, .ref a_p0_slot1, .ref a_p0_gossips, .ref a_p0_search, .ref a_p0_guests, .ref a_p0_draft, .long p0_drawnBy]))] s.heap := hP
  have hl := lv_entry ([.ref a_p0, .int x1]) (n := 2) (Nat.le_of_ble_eq_true rfl)
  rw [lg_entry_eq]
  generalize (lg_sl ([.ref a_p0, .int x1]) ++ List.replicate (2 - (lg_sl ([.ref a_p0, .int x1])).length) Slot.unset).toArray = ls at hl ⊢
  have hl : lv_has ls 2 [(0, .ref a_p0), (1, .int x1)] := hl
  refine lv_iload_n hx hb dX10_slotOf_0 rfl (lv_at hl 1 rfl) ?_
  refine lv_if_ne (tgt := 11) hx hb dX10_slotOf_1 (by decide) (fun c1 => ?_) (fun c1 => ?_)
  · refine lv_aload_n hx hb dX10_slotOf_11 rfl (lv_at hl 0 rfl) ?_
    refine va_get (D := (dC, dI)) (ci := 8) (v := .ref a_p0_slot1) (C := RX10) (T := TX10) (N := 12) hx hb hts li_X10_slotOf_X10 hown hK hP 0 rfl rfl 6 (by decide) (hts _ lk_X10_slotOf_47) (fun _ h9 => h9) rfl dX10_slotOf_12 ?_
    exact W.aret (v := .ref a_p0_slot1) hx hb hr (Or.inl ⟨_, rfl⟩) (Or.inr ⟨_, rfl⟩) (fun t ht hW => ⟨⟨(), a_p0_slot1, rfl, trivial, (if_neg c1).symm, by rw [ht]; exact hP, va_K.moved hW.alike hK, hD⟩, hS.F ht⟩) hS.2.2 dX10_slotOf_15
  · refine lv_aload_n hx hb dX10_slotOf_4 rfl (lv_at hl 0 rfl) ?_
    refine va_get (D := (dC, dI)) (ci := 8) (v := .ref a_p0_slot0) (C := RX10) (T := TX10) (N := 12) hx hb hts li_X10_slotOf_X10 hown hK hP 0 rfl rfl 5 (by decide) (hts _ lk_X10_slotOf_44) (fun _ h9 => h9) rfl dX10_slotOf_5 ?_
    refine lv_goto (tgt := 15) hx hb dX10_slotOf_8 (by decide) ?_
    exact W.aret (v := .ref a_p0_slot0) hx hb hr (Or.inl ⟨_, rfl⟩) (Or.inr ⟨_, rfl⟩) (fun t ht hW => ⟨⟨(), a_p0_slot0, rfl, trivial, (if_pos c1).symm, by rw [ht]; exact hP, va_K.moved hW.alike hK, hD⟩, hS.F ht⟩) hS.2.2 dX10_slotOf_15
