/-! ===== where somebody sits ===== -/
theorem chairX_loop {d : PD} (hn : pdn d ≤ 7) {σ : Nat → Nat} (hst : ST d σ) {c : Nat} (hc : c < pdn d) : ∀ (m k : Nat), k ≤ c → c - k < m → lf_X7_chairOf_2 (nI (pk σ)) (nI (σ c)) (nI (pdn d)) m (nI k) = some (.inl (nI c)) := by
  intro m
  induction m with
  | zero => intro k h1 h2; omega
  | succ m ih =>
    intro k h1 h2
    rw [lf_X7_chairOf_2, qs_f (nI_ge (a := k) (by omega) (by omega)), qs_f (c := (7 : Int32) ≤ nI k) (nI_ge (b := 7) (by omega) (by omega)), qs_lt, on_pk (ST_lt8 hn hst) (by omega), nI_1]
    have hsk := hst.2.1 k (by omega)
    have hsc := hst.2.1 c hc
    by_cases hk : k = c
    · subst hk
      rw [qs_f (fun g => g rfl)]
    · rw [qs_t (c := ¬ nI (σ k) = nI (σ c)) (fun g => hk (hst.2.2 k c (by omega) hc ((nI_eq (by omega) (by omega)).mp g)))]
      exact ih (k + 1) (by omega) (by omega)
theorem chairX {d : PD} (hn : pdn d ≤ 7) {σ : Nat → Nat} (hst : ST d σ) {c : Nat} (hc : c < pdn d) : f_X7_chairOf (nI (pk σ)) (nI (σ c)) (nI (pdn d)) = some (nI c) := by
  unfold f_X7_chairOf
  have e : lf_X7_chairOf_2 (nI (pk σ)) (nI (σ c)) (nI (pdn d)) pw_FU 0 = some (.inl (nI c)) := chairX_loop hn hst hc pw_FU 0 (by omega) (by unfold pw_FU; omega)
  rw [e, qs_bl, qs_u1]
theorem chairM_loop {d : PD} (hn : pdn d ≤ 7) {σ : Nat → Nat} (hst : ST d σ) {seat : Nat → Int32} (hrow : RowM d σ seat) {c : Nat} (hc : c < pdn d) : ∀ (m k : Nat) (r : Int32), k ≤ pdn d → pdn d - k < m → (c < k → r = nI c) → lf_X11_chairOf_4 (nI (σ c)) (nI (pdn d)) seat m r (nI k) = some (nI c) := by
  intro m
  induction m with
  | zero => intro k r h1 h2; omega
  | succ m ih =>
    intro k r h1 h2 hr
    rw [lf_X11_chairOf_4]
    by_cases hk : pdn d ≤ k
    · rw [qs_t (nI_le hk (by omega)), hr (by omega)]
    · have hk' : k < pdn d := by omega
      have hsk := hst.2.1 k (by omega)
      have hsc := hst.2.1 c hc
      rw [qs_f (nI_ge hk' (by omega))]
      simp (disch := omega) only [qs_cl, qg_in2, hrow k hk', nI_1]
      by_cases hkc : k = c
      · subst hkc
        rw [qs_f (fun g => g rfl)]
        exact ih (k + 1) _ (by omega) (by omega) (fun _ => rfl)
      · rw [qs_t (c := ¬ nI (σ k) = nI (σ c)) (fun g => hkc (hst.2.2 k c (by omega) hc ((nI_eq (by omega) (by omega)).mp g)))]
        exact ih (k + 1) _ (by omega) (by omega) (fun h => hr (by omega))
theorem chairM {d : PD} (hn : pdn d ≤ 7) {σ : Nat → Nat} (hst : ST d σ) {seat : Nat → Int32} (hrow : RowM d σ seat) {c : Nat} (hc : c < pdn d) : f_X11_chairOf (nI (σ c)) (nI (pdn d)) seat = some (nI c) := by
  unfold f_X11_chairOf
  have e : lf_X11_chairOf_4 (nI (σ c)) (nI (pdn d)) seat pw_FU 0 0 = some (nI c) := chairM_loop hn hst hrow hc pw_FU 0 0 (by omega) (by unfold pw_FU; omega) (fun h => by omega)
  rw [e, qs_bd, qs_u1]
