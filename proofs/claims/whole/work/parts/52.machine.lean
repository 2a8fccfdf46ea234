/-! the machine's side: a contract's start and end, calls -/
def pw_pre (D : va_G) (cI cZ : ClassId) (ws : va_W) (sz : Nat) (U : State) : Prop := U.heap.size = sz ∧ va_P D vwCl ws U.heap ∧ va_K D vwCl [(cI, .int), (cZ, .boolean)] U ∧ va_D (fun _ => True) ws
def pw_post (D : va_G) (cI cZ : ClassId) (A : Nat → Prop) (ws : va_W) (t : State) : Prop := va_P D vwCl ws t.heap ∧ va_K D vwCl [(cI, .int), (cZ, .boolean)] t ∧ va_D A ws
theorem pw_tysI {D : va_G} {cI cZ cA : ClassId} {U : State} (h : va_K D vwCl ([(cI, .int), (cZ, .boolean)] ++ [(cA, .int)]) U) : cA = cI := Option.some.inj ((h.2 2 _ rfl).2.symm.trans (h.2 0 _ rfl).2)
theorem pw_tysZ {D : va_G} {cI cZ cA : ClassId} {U : State} (h : va_K D vwCl ([(cI, .int), (cZ, .boolean)] ++ [(cA, .boolean)]) U) : cA = cZ := Option.some.inj ((h.2 2 _ rfl).2.symm.trans (h.2 1 _ rfl).2)
theorem pw_fb {av : List Value} {D : va_G} {cI cZ : ClassId} {ws : va_W} {sz : Nat} : FrameBlind (va_Pc av (pw_pre D cI cZ ws sz)) := fun a U g mk q => by
  obtain ⟨q0, q1, qP, qK, qD⟩ := q
  exact ⟨q0, q1, qP, va_K.moved (u := U) (U := U.calling g mk a) (Vm.Alike.refl U.vm) qK, qD⟩
section KC
variable {p : Program} {l : Launch} {e : Env} {R : Room} {s : State} {m : MethodId} {args : Array Value} {below : List Frame} {meth : Method} {c : Code} {H : Heap} {locs : List Loc} {cells slots : Nat} {Q : State → Prop}
theorem pw_Wq {Q0 : State → Prop} {g : JFrame} (h : ∀ Q, Q = Q0 → W p l e R s m args below meth c H locs cells slots Q g) : W p l e R s m args below meth c H locs cells slots Q0 g := h Q0 rfl
theorem pw_preV {D : va_G} {cI cZ : ClassId} {ws wc : va_W} {A : Nat → Prop} {b : Nat} {As : List Value} {q : vw_C} {fs : List Value} (hK : va_K D vwCl [(cI, .int), (cZ, .boolean)] s) (hP : va_P D vwCl ws H) (hD : va_D A ws) (isC : List Nat) (hC : isC.map (fun i => ws[i]?) = wc.map some) (hCP : isC.filterMap (fun i => ws[i]?) = wc) (hn : va_nd isC = true) (ci : Nat) (hc : vwCl[ci]? = some q) (he : wc[0]? = some (b, .inr (ci, fs))) : PreV s H q.1 b (va_Pc (.ref b :: As) (pw_pre D cI cZ wc H.size)) As :=
  ⟨pw_fb, va_recv hK (hP.sub isC hCP) hc he, fun U hU hW => ⟨rfl, by rw [hU], by rw [hU]; exact hP.sub isC hCP, va_K.moved hW.alike hK, (hD.sub isC hn hC).weaken (fun _ _ _ _ => trivial)⟩⟩
theorem pw_preS {D : va_G} {cI cZ : ClassId} {ws wc : va_W} {A : Nat → Prop} {As : List Value} (hK : va_K D vwCl [(cI, .int), (cZ, .boolean)] s) (hP : va_P D vwCl ws H) (hD : va_D A ws) (isC : List Nat) (hC : isC.map (fun i => ws[i]?) = wc.map some) (hCP : isC.filterMap (fun i => ws[i]?) = wc) (hn : va_nd isC = true) : PreS s H (va_Pc As (pw_pre D cI cZ wc H.size)) As :=
  ⟨pw_fb, fun U hU hW => ⟨rfl, by rw [hU], by rw [hU]; exact hP.sub isC hCP, va_K.moved hW.alike hK, (hD.sub isC hn hC).weaken (fun _ _ _ _ => trivial)⟩⟩
variable {D : va_G} {cI cZ : ClassId} {ws wc wr : va_W} {A : Nat → Prop} {S : Type} {w1 : S → va_W} {mc ms pc : Nat} {ls : Array Slot} {st0 rest : List Value} {a : Array Value}
theorem pw_ci {post : Int32 → S → Prop} (hr : va_Run p l e R s m args below meth c H locs cells slots mc ms (F0 m pc ls st0) rest (va_Qi post (fun u t => pw_post D cI cZ (va_A wc H.size) (w1 u) t) (va_A wc H.size) a) (va_A wc H.size)) (hP : va_P D vwCl ws H) (hD : va_D A ws) (hS : va_S A s.heap H locs) (hA : ∀ q, s.heap.size ≤ q → A q) (isC isR : List Nat) (hC : isC.map (fun i => ws[i]?) = wc.map some) (hR : isR.map (fun i => ws[i]?) = wr.map some) (hn : va_nd isR = true) (hdis : ∀ i ∈ isR, i ∉ isC)
    (kk : ∀ (r : Int32) (u : S) (H1 : Heap) (locs1 : List Loc), post r u → va_P D vwCl (wr ++ w1 u) H1 → va_D A (wr ++ w1 u) → va_S A s.heap H1 locs1 → W p l e R s m args below meth c H1 locs1 (cells + mc) (slots + ms) Q (F0 m (pc + 3) ls (.int r :: rest))) : W p l e R s m args below meth c H locs cells slots Q (F0 m pc ls st0) := by
  have hFc := va_free (wc := wc) hD hS hA isC hC
  refine va_calli hr hS (fun q _ h => hFc q h) hFc (fun r u t H1 locs1 ht hvm hw hB hz1 hk1 hS1 => ?_)
  obtain ⟨hP1, hK1, hD1⟩ := hB
  rw [ht] at hP1
  obtain ⟨h1, h2⟩ := va_join hP hD isC isR hC hR hn hdis hk1 hFc hP1 hD1
  exact kk r u H1 locs1 hw h1 h2 hS1
theorem pw_cl {post : Int64 → S → Prop} (hr : va_Run p l e R s m args below meth c H locs cells slots mc ms (F0 m pc ls st0) rest (va_Ql post (fun u t => pw_post D cI cZ (va_A wc H.size) (w1 u) t) (va_A wc H.size) a) (va_A wc H.size)) (hP : va_P D vwCl ws H) (hD : va_D A ws) (hS : va_S A s.heap H locs) (hA : ∀ q, s.heap.size ≤ q → A q) (isC isR : List Nat) (hC : isC.map (fun i => ws[i]?) = wc.map some) (hR : isR.map (fun i => ws[i]?) = wr.map some) (hn : va_nd isR = true) (hdis : ∀ i ∈ isR, i ∉ isC)
    (kk : ∀ (r : Int64) (u : S) (H1 : Heap) (locs1 : List Loc), post r u → va_P D vwCl (wr ++ w1 u) H1 → va_D A (wr ++ w1 u) → va_S A s.heap H1 locs1 → W p l e R s m args below meth c H1 locs1 (cells + mc) (slots + ms) Q (F0 m (pc + 3) ls (.long r :: rest))) : W p l e R s m args below meth c H locs cells slots Q (F0 m pc ls st0) := by
  have hFc := va_free (wc := wc) hD hS hA isC hC
  refine va_calll hr hS (fun q _ h => hFc q h) hFc (fun r u t H1 locs1 ht hvm hw hB hz1 hk1 hS1 => ?_)
  obtain ⟨hP1, hK1, hD1⟩ := hB
  rw [ht] at hP1
  obtain ⟨h1, h2⟩ := va_join hP hD isC isR hC hR hn hdis hk1 hFc hP1 hD1
  exact kk r u H1 locs1 hw h1 h2 hS1
theorem pw_cv {post : S → Prop} (hr : va_Run p l e R s m args below meth c H locs cells slots mc ms (F0 m pc ls st0) rest (va_Qv post (fun u t => pw_post D cI cZ (va_A wc H.size) (w1 u) t) (va_A wc H.size) a) (va_A wc H.size)) (hP : va_P D vwCl ws H) (hD : va_D A ws) (hS : va_S A s.heap H locs) (hA : ∀ q, s.heap.size ≤ q → A q) (isC isR : List Nat) (hC : isC.map (fun i => ws[i]?) = wc.map some) (hR : isR.map (fun i => ws[i]?) = wr.map some) (hn : va_nd isR = true) (hdis : ∀ i ∈ isR, i ∉ isC)
    (kk : ∀ (u : S) (H1 : Heap) (locs1 : List Loc), post u → va_P D vwCl (wr ++ w1 u) H1 → va_D A (wr ++ w1 u) → va_S A s.heap H1 locs1 → W p l e R s m args below meth c H1 locs1 (cells + mc) (slots + ms) Q (F0 m (pc + 3) ls rest)) : W p l e R s m args below meth c H locs cells slots Q (F0 m pc ls st0) := by
  have hFc := va_free (wc := wc) hD hS hA isC hC
  refine va_callv hr hS (fun q _ h => hFc q h) hFc (fun u t H1 locs1 ht hvm hw hB hz1 hk1 hS1 => ?_)
  obtain ⟨hP1, hK1, hD1⟩ := hB
  rw [ht] at hP1
  obtain ⟨h1, h2⟩ := va_join hP hD isC isR hC hR hn hdis hk1 hFc hP1 hD1
  exact kk u H1 locs1 hw h1 h2 hS1
end KC
/-! an index that is a number -/
theorem pw_inlit {i : Int32} {n : Nat} (h : decide (¬ (i < 0 ∨ n ≤ i.toNatClampNeg)) = true) : vp_in i n := by
  have h2 := of_decide_eq_true h
  exact h2
