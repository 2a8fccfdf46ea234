theorem lk_L_law_k13 : Cond.constantLong RL 13 4294967295 ∈ wsL_law := by decide +kernel
theorem pw_restR (ws : va_W) (isR : List Nat) {wr : va_W} (h : isR.filterMap (fun i => ws[i]?) = wr ∧ isR.all (fun i => (ws[i]?).isSome) = true) : isR.map (fun i => ws[i]?) = wr.map some := by
  obtain ⟨rfl, h2⟩ := h
  induction isR with
  | nil => rfl
  | cons i r ih =>
    simp only [List.all_cons, Bool.and_eq_true] at h2
    obtain ⟨x, hx⟩ := Option.isSome_iff_exists.mp h2.1
    simp only [List.map_cons, List.filterMap_cons, hx]
    exact congrArg _ (ih h2.2)
theorem pw_cmpself (r : Int64) : lg_cmp r r = 0 := by unfold lg_cmp; simp
section PZ
variable {p : Program} {l : Launch} {e : Env} {R : Room} {s : State} {m : MethodId} {args : Array Value} {below : List Frame} {meth : Method} {c : Code} {H : Heap} {locs : List Loc} {cells slots : Nat} {Q : State → Prop}
theorem pw_ifz {cc : ByteArray} {pc : Nat} {ls : Array Slot} {rest : List Value} {v : Int32} (hx : p.tables.exec = Jvm.exec) (hb : c.code = cc) (d1 : decode cc pc = .ok (.ifCond .eq 7, 3)) (d2 : decode cc (pc + 3) = .ok (.iconst 1, 1)) (d3 : decode cc (pc + 3 + 1) = .ok (.goto 4, 3)) (d4 : decode cc (pc + 7) = .ok (.iconst 0, 1)) (k : W p l e R s m args below meth c H locs cells slots Q (F0 m (pc + 8) ls (.int (pw_nz v) :: rest))) : W p l e R s m args below meth c H locs cells slots Q (F0 m pc ls (.int v :: rest)) := by
  refine lv_if_eq (tgt := pc + 7) hx hb d1 (by omega) (fun c1 => ?_) (fun c1 => ?_)
  · refine lv_iconst (v := 0) hx hb d4 (by decide) ?_
    have e1 : pw_nz v = 0 := if_pos c1
    rw [e1] at k
    exact k
  · refine lv_iconst (v := 1) hx hb d2 (by decide) ?_
    refine lv_goto (tgt := pc + 8) hx hb d3 (by omega) ?_
    have e1 : pw_nz v = 1 := if_neg c1
    rw [e1] at k
    exact k
end PZ
