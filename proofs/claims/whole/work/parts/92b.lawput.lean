theorem pw_put {ws wr w1 : va_W} (isR isP : List Nat) (h : isR.map (fun i => ws[i]?) = wr.map some) : isP.filterMap (fun i => (wr ++ w1)[i]?) = isP.filterMap (fun j => match isR[j]? with | some k => ws[k]? | none => w1[j - isR.length]?) := by
  have hl : isR.length = wr.length := by
    have := congrArg List.length h
    simpa using this
  congr 1
  funext j
  have hj := congrArg (fun x => x[j]?) h
  simp only [List.getElem?_map] at hj
  cases hk : isR[j]? with
  | none =>
    have : wr.length ≤ j := by rw [← hl]; exact List.getElem?_eq_none_iff.mp hk
    rw [List.getElem?_append_right this, hl]
  | some k =>
    have hlt : j < wr.length := by rw [← hl]; exact (List.getElem?_eq_some_iff.mp hk).1
    rw [List.getElem?_append_left hlt]
    rw [hk] at hj
    obtain ⟨x, hx⟩ : ∃ x, wr[j]? = some x := ⟨wr[j], List.getElem?_eq_getElem hlt⟩
    rw [hx] at hj ⊢
    simp only [Option.map_some, Option.some.injEq] at hj
    exact hj.symm
theorem pw_allL {ws : va_W} : ∀ {is : List Nat}, (is.filterMap (fun i => ws[i]?)).length = is.length → is.all (fun i => (ws[i]?).isSome) = true := by
  intro is
  induction is with
  | nil => intro _; rfl
  | cons i r ih =>
    intro h
    cases hx : ws[i]? with
    | none =>
      simp only [List.filterMap_cons, hx, List.length_cons] at h
      have := List.length_filterMap_le (fun i => ws[i]?) r
      omega
    | some x =>
      simp only [List.filterMap_cons, hx, List.length_cons] at h
      simp only [List.all_cons, hx, Option.isSome_some, Bool.true_and]
      exact ih (by omega)
theorem pw_restH {D : va_G} {ws : va_W} {H : Heap} (_ : va_P D vwCl ws H) (isR : List Nat) (h : isR.all (fun i => (ws[i]?).isSome) = true) : isR.map (fun i => ws[i]?) = (isR.filterMap (fun i => ws[i]?)).map some := pw_restR ws isR ⟨rfl, h⟩
theorem pw_subPD {D : va_G} {A : Nat → Prop} {H : Heap} {ws wr w1 ws' : va_W} {isR : List Nat} (hR : isR.map (fun i => ws[i]?) = wr.map some) (hP : va_P D vwCl (wr ++ w1) H) (hD : va_D A (wr ++ w1)) (isP : List Nat) (hn : va_nd isP = true) (hq : isP.filterMap (fun j => match isR[j]? with | some k => ws[k]? | none => w1[j - isR.length]?) = ws') (hl : ws'.length = isP.length) : va_P D vwCl ws' H ∧ va_D A ws' := by
  have e := (pw_put (w1 := w1) isR isP hR).trans hq
  exact ⟨hP.sub isP e, hD.sub isP hn (pw_restR _ _ ⟨e, pw_allL (by rw [e]; exact hl)⟩)⟩
