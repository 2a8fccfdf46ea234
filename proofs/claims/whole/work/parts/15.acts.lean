/-! ===== the row of acts ===== -/
theorem rem16 {a : Nat} (ha : a < 1000) : nI a - nI a / 16 * 16 = nI (a % 16) := by
  show nI a - nI a / nI 16 * nI 16 = _
  exact pk_rem (by omega) (by omega) (by omega)
theorem ff_loop : ∀ (m k : Nat) (b e : Nat → Int32), 1 ≤ k → k ≤ 16 → 16 - k < m → (∀ j, j < 16 → e j = 0 ∨ e j = 1) → ∃ rb re, lf_X0_forgetFirst_2 m (nI k) b e = some (rb, re) ∧ (∀ j, k ≤ j + 1 → j < 15 → rb j = b (j + 1) ∧ re j = e (j + 1)) ∧ ∀ j, j + 1 < k → rb j = b j ∧ re j = e j := by
  intro m
  induction m with
  | zero => intro k b e h0 h1 h2; omega
  | succ m ih =>
    intro k b e h0 h1 h2 h01
    rw [lf_X0_forgetFirst_2]
    by_cases hk : 16 ≤ k
    · rw [qs_t (c := (16 : Int32) ≤ nI k) (nI_le (a := 16) hk (by omega))]
      exact ⟨b, e, rfl, fun j a c => by omega, fun j _ => ⟨rfl, rfl⟩⟩
    · have hk' : k < 16 := by omega
      rw [qs_f (c := (16 : Int32) ≤ nI k) (nI_ge (b := 16) hk' (by omega))]
      simp (disch := omega) only [nI_sub1, qs_cl, qg_in2, qs_lt, nI_1, nar_b (h01 k hk')]
      obtain ⟨rb, re, e1, g1, g2⟩ := ih (k + 1) (upd b (k - 1) (b k)) (upd e (k - 1) (e k)) (by omega) (by omega) (by omega) (fun j hj => by
        by_cases hj2 : j = k - 1
        · subst hj2; rw [pk_us]; exact h01 k hk'
        · rw [pk_un hj2]; exact h01 j hj)
      refine ⟨rb, re, e1, fun j a c => ?_, fun j a => ?_⟩
      · by_cases hj : j + 1 = k
        · have := g2 j (by omega)
          have ej : j = k - 1 := by omega
          rw [this.1, this.2, ej, pk_us, pk_us]
          have : k - 1 + 1 = k := by omega
          rw [this]; exact ⟨rfl, rfl⟩
        · have := g1 j (by omega) c
          rw [this.1, this.2, pk_un (by omega), pk_un (by omega)]; exact ⟨rfl, rfl⟩
      · have := g2 j (by omega)
        rw [this.1, this.2, pk_un (by omega), pk_un (by omega)]; exact ⟨rfl, rfl⟩
/-- one more act in the class: k' of them, what was is moved on by h -/
theorem addX {v : Int32} {b : Bool} {before dinners : Nat → Int32} {k : Nat} (hk : k ≤ 16) (h01 : ∀ j, j < k → dinners j = 0 ∨ dinners j = 1) : ∃ (k' h : Nat) (bf df : Nat → Int32), f_X0_add v (b2i b) (nI k) before dinners = some (nI k', bf, df) ∧ 1 ≤ k' ∧ k' ≤ 16 ∧ k' + h = k + 1 ∧ (h = if k < 16 then 0 else 1) ∧ (∀ j, j + 1 < k' → bf j = before (j + h) ∧ df j = dinners (j + h)) ∧ bf (k' - 1) = v ∧ df (k' - 1) = b2i b := by
  have hb : b2i b = 0 ∨ b2i b = 1 := by cases b <;> decide
  unfold f_X0_add
  rw [qs_jn]
  by_cases h16 : k < 16
  · rw [qs_t (c := nI k < 16) (nI_lt (b := 16) h16 (by omega))]
    simp only []
    rw [qs_f (nI_pos (by omega)), qs_f (c := (16 : Int32) ≤ nI k) (nI_ge (b := 16) h16 (by omega))]
    simp (disch := omega) only [qs_cl, qg_in2, qs_lt, nI_1, nar_b hb]
    refine ⟨k + 1, 0, _, _, rfl, by omega, by omega, by omega, (if_pos h16).symm, fun j hj => ?_, ?_, ?_⟩
    · rw [pk_un (by omega), pk_un (by omega)]; exact ⟨rfl, rfl⟩
    · exact pk_us
    · exact pk_us
  · have e16 : k = 16 := by omega
    subst e16
    rw [qs_f (c := nI 16 < 16) (by decide)]
    obtain ⟨rb, re, e1, g1, g2⟩ := ff_loop pw_FU 1 before dinners (by omega) (by omega) (by unfold pw_FU; omega) h01
    have e1' : lf_X0_forgetFirst_2 pw_FU 1 before dinners = some (rb, re) := e1
    unfold f_X0_forgetFirst
    rw [e1', qs_bd, qs_u2, qs_bd, qs_u3]
    have e15 : (15 : Int32) = nI 15 := rfl
    rw [e15]
    simp only []
    rw [qs_f (nI_pos (by omega)), qs_f (c := (16 : Int32) ≤ nI 15) (by decide)]
    simp (disch := omega) only [qs_cl, qg_in2, qs_lt, nI_1, nar_b hb]
    refine ⟨16, 1, _, _, rfl, by omega, by omega, by omega, (if_neg h16).symm, fun j hj => ?_, ?_, ?_⟩
    · rw [pk_un (by omega), pk_un (by omega)]; exact g1 j (by omega) (by omega)
    · exact pk_us
    · exact pk_us
/-- one more act in the model -/
theorem addM {d : PD} {σ : Nat → Nat} {f : Nat → Nat → Nat} {seat dines row : Nat → Int32} {k x : Nat} (hn : pdn d ≤ 7) (hk : k ≤ 16) (hx : x < 16) (h1 : SMs d σ seat 0) (h2 : DMs d f dines 0) : ∃ r, f_X11_keepAct (nI k) (nI x) seat dines row = some (nI (if k < 16 then k + 1 else 16), nI ((x + 1) % 16), r) ∧ SMs d σ r (56 * x) ∧ DMs d f r (56 * x + 7) ∧ ∀ i, (i < 56 * x ∨ 56 * x + 56 ≤ i) → r i = row i := by
  obtain ⟨r1, e1, a1, a2⟩ := cp_X11_keepAct_2 (a := seat) hx pw_FU 0 row (by omega) (by unfold pw_FU; omega)
  obtain ⟨r2, e2, b1, b2⟩ := cp_X11_keepAct_36 (a := dines) hx pw_FU 0 r1 (by omega) (by unfold pw_FU; omega)
  have e1' : lf_X11_keepAct_2 (nI x) seat pw_FU 0 row = some r1 := e1
  have e2' : lf_X11_keepAct_36 (nI x) dines pw_FU 0 r1 = some r2 := e2
  refine ⟨r2, ?_, fun c hc => ?_, fun p q hp hq => ?_, fun i hi => ?_⟩
  · unfold f_X11_keepAct
    rw [e1', qs_bd, qs_u1, e2', qs_bd, qs_u1, qs_lt, nI_1, rem16 (by omega)]
    by_cases h16 : k < 16
    · rw [qs_f (c := (16 : Int32) ≤ nI k) (nI_ge (b := 16) h16 (by omega)), if_pos h16, qs_lt, nI_1]
    · rw [qs_t (c := (16 : Int32) ≤ nI k) (nI_le (a := 16) (by omega) (by omega)), if_neg h16]; rfl
  · rw [b2 _ (by omega), a1 c (by omega) (by omega)]
    have := h1 c hc
    rw [Nat.zero_add] at this; exact this
  · have hlt : 7 * p + q < 49 := by omega
    rw [b1 _ (by omega) hlt]
    have := h2 p q hp hq
    rw [Nat.zero_add] at this; exact this
  · rw [b2 _ (by omega), a2 _ (by omega)]
theorem b2i_or (b : Bool) : b2i b = 0 ∨ b2i b = 1 := by cases b <;> decide
theorem act_add {d : PD} {σ σ' : Nat → Nat} {f f' : Nat → Nat → Nat} {size acts next : Int32} {before dinners row seat dines : Nat → Int32} (hn : pdn d ≤ 7) (hst : ST d σ) (hdn : DN d f) (h : RActs d σ f size before dinners acts next row) (h1 : SMs d σ seat 0) (h2 : DMs d f dines 0) (b : Bool) (hf : b = false → f' = f) (ht : b = true → σ' = σ ∧ ∀ p q, f' p q = f p q + (if adj d σ p q = true then 1 else 0)) :
    ∃ (sz2 : Int32) (bf df : Nat → Int32) (ac2 nx2 : Int32) (r : Nat → Int32), f_X0_add (nI (pk σ)) (b2i b) size before dinners = some (sz2, bf, df) ∧ f_X11_keepAct acts next seat dines row = some (ac2, nx2, r) ∧ RActs d σ' f' sz2 bf df ac2 nx2 r := by
  obtain ⟨k, x, σs, ds, fl, hk, hx, e1, e2, e3, eσ, ed, hA, hB⟩ := h
  obtain ⟨k', h, bf, df, eX, k1, k2, k3, k4, k5, k6, k7⟩ := addX (v := nI (pk σ)) (b := b) (before := before) (dinners := dinners) hk (fun j hj => by rw [(hA j hj).2.2.2.1]; exact b2i_or _)
  obtain ⟨r, eM, r1, r2, r3⟩ := addM (row := row) hn hk hx h1 h2
  have ek : (if k < 16 then k + 1 else 16) = k' := by split at k4 <;> split <;> omega
  rw [ek] at eM
  refine ⟨nI k', bf, df, nI k', nI ((x + 1) % 16), r, by rw [e1]; exact eX, by rw [e2, e3]; exact eM, ?_⟩
  refine ⟨k', (x + 1) % 16, fun j => if j + h ≤ k then σs (j + h) else σ', fun j => if j + h ≤ k then ds (j + h) else f', fun j => if j + h < k then fl (j + h) else b, k2, by omega, rfl, rfl, rfl, ?_, ?_, fun j hj => ?_, fun j hj => ?_⟩
  · show (if k' + h ≤ k then σs (k' + h) else σ') = σ'
    rw [if_neg (by omega)]
  · show (if k' + h ≤ k then ds (k' + h) else f') = f'
    rw [if_neg (by omega)]
  · have ei : ((x + 1) % 16 + 16 - k' + j) % 16 = (x + 16 - k + (j + h)) % 16 := by omega
    simp only []
    rw [ei, if_pos (by omega), if_pos (by omega)]
    by_cases hjk : j + h < k
    · obtain ⟨g1, g2, g3, g4, g5, g6⟩ := hA (j + h) hjk
      have hne : (x + 16 - k + (j + h)) % 16 ≠ x := by omega
      have hlt : (x + 16 - k + (j + h)) % 16 < 16 := by omega
      generalize (x + 16 - k + (j + h)) % 16 = y at *
      have := k5 j (by omega)
      rw [if_pos hjk]
      refine ⟨g1, g2, by rw [this.1]; exact g3, by rw [this.2]; exact g4, fun c hc => ?_, fun p q hp hq => ?_⟩
      · rw [r3 _ (by omega)]; exact g5 c hc
      · rw [r3 _ (by omega)]; exact g6 p q hp hq
    · have ejk : j + h = k := by omega
      have ej : j = k' - 1 := by omega
      have ey : (x + 16 - k + (j + h)) % 16 = x := by omega
      rw [ey, if_neg hjk, ejk, eσ, ed, ej]
      exact ⟨hst, hdn, k6, k7, r1, r2⟩
  · simp only []
    by_cases hjk : j + h < k
    · have e5 : j + 1 + h = j + h + 1 := by omega
      have a1 : j + h ≤ k := by omega
      have a2 : j + h + 1 ≤ k := by omega
      simp only [e5, hjk, a1, a2, reduceIte]
      exact hB (j + h) hjk
    · have ejk : j + h = k := by omega
      have a1 : j + h ≤ k := by omega
      have a2 : ¬ j + 1 + h ≤ k := by omega
      simp only [hjk, a1, a2, reduceIte]
      rw [ejk, eσ, ed]
      exact ⟨hf, ht⟩
/-! ===== two that change chairs ===== -/
def swp (σ : Nat → Nat) (a b : Nat) : Nat → Nat := upN (upN σ a (σ b)) b (σ a)
theorem swp_at {σ : Nat → Nat} {a b c : Nat} : swp σ a b c = if c = b then σ a else if c = a then σ b else σ c := rfl
theorem ST_swp {d : PD} {σ : Nat → Nat} (h : ST d σ) {a b : Nat} (ha : a < pdn d) (hb : b < pdn d) : ST d (swp σ a b) := by
  refine ⟨fun c hc => ?_, fun c hc => ?_, fun c e hc he g => ?_⟩
  · rw [swp_at, if_neg (by omega), if_neg (by omega)]; exact h.1 c hc
  · rw [swp_at]
    split
    · exact h.2.1 a ha
    · split
      · exact h.2.1 b hb
      · exact h.2.1 c hc
  · have hs : ∀ c, swp σ a b c = σ (if c = b then a else if c = a then b else c) := by
      intro c
      rw [swp_at]
      by_cases g1 : c = b
      · rw [if_pos g1, if_pos g1]
      · rw [if_neg g1, if_neg g1]
        by_cases g2 : c = a
        · rw [if_pos g2, if_pos g2]
        · rw [if_neg g2, if_neg g2]
    have hl : ∀ c, c < pdn d → (if c = b then a else if c = a then b else c) < pdn d := by
      intro c hc
      by_cases g1 : c = b
      · rw [if_pos g1]; exact ha
      · rw [if_neg g1]
        by_cases g2 : c = a
        · rw [if_pos g2]; exact hb
        · rw [if_neg g2]; exact hc
    rw [hs, hs] at g
    have q := h.2.2 _ _ (hl c hc) (hl e he) g
    by_cases g1 : c = b
    · by_cases g2 : e = b
      · omega
      · rw [if_pos g1, if_neg g2] at q
        by_cases g3 : e = a
        · rw [if_pos g3] at q; omega
        · rw [if_neg g3] at q; omega
    · rw [if_neg g1] at q
      by_cases g2 : e = b
      · rw [if_pos g2] at q
        by_cases g3 : c = a
        · rw [if_pos g3] at q; omega
        · rw [if_neg g3] at q; omega
      · rw [if_neg g2] at q
        by_cases g3 : c = a
        · rw [if_pos g3] at q
          by_cases g4 : e = a
          · omega
          · rw [if_neg g4] at q; omega
        · rw [if_neg g3] at q
          by_cases g4 : e = a
          · rw [if_pos g4] at q; omega
          · rw [if_neg g4] at q; exact q
theorem exch {σ : Nat → Nat} (h : Dg σ) {a b : Nat} (ha : a < 7) (hb : b < 7) : f_X7_exchanged (nI (pk σ)) (nI a) (nI b) = nI (pk (swp σ a b)) := by
  unfold f_X7_exchanged
  rw [qs_lt, qs_lt, qs_lt, qs_lt, on_pk h ha, on_pk h hb, wi_pk h ha (h b), wi_pk (Dg_up h (h b)) hb (h a)]
  rfl
theorem Sim_swap_ok : Sim_swap Inv := by
  intro s t hI x1 x2
  obtain ⟨h1, h2, h3, h4, d, σ, f, hw, hx, hm, hst, hdn, hse, hdx, hsm, hdm, hac, hs0, hs1, hla⟩ := id hI
  have hn := hw.1
  have ep : sx_guests_people s = nI (pdn d) := hx.2.2.2.1
  have em : sm_people t = nI (pdn d) := hm.1
  unfold f_X10_swap f_X11_swap
  rw [qs_lt, hb_eq]
  simp only [ep, em, isP_eq _ hn, qs_bd, qs_u1, qs_jn]
  rcases hp_cases x1 hn with ⟨p, hp, rfl⟩ | h
  · rw [hp_in hp hn, if_neg (by decide), qs_f (c := (1 : Int32) = 0) (by decide)]
    rcases hp_cases x2 hn with ⟨q, hq, rfl⟩ | h
    · rw [hp_in hq hn, if_neg (by decide), qs_t (c := ¬ (1 : Int32) = 0) (by decide), qs_t (c := ¬ (1 : Int32) = 0) (by decide)]
      by_cases hpq : p = q
      · subst hpq
        rw [qs_f (fun g => g rfl), qs_f (fun g => g rfl)]
        exact ⟨_, _, _, _, _, _, _, _, _, rfl, rfl, hI⟩
      · have hne : ¬ nI p = nI q := fun g => hpq ((nI_eq (by omega) (by omega)).mp g)
        obtain ⟨a, ha, rfl⟩ := ST_onto hst hp
        obtain ⟨b, hb, rfl⟩ := ST_onto hst hq
        have hab : a ≠ b := fun g => hpq (by rw [g])
        have hst2 := ST_swp hst ha hb
        obtain ⟨sz2, bf, df, ac2, nx2, r, eX, eM, hac2⟩ := act_add (σ' := swp σ a b) (f' := f) hn hst hdn hac hsm hdm false (fun _ => rfl) (fun g => absurd g (by decide))
        obtain ⟨lr, er, hr⟩ := lawX1 hw hst2 hx
        have hsm2 : SMs d (swp σ a b) (upd (upd (sm_seat_v t) a (nI (σ b))) b (nI (σ a))) 0 := by
          intro c hc
          have := hsm c hc
          rw [Nat.zero_add] at this ⊢
          rw [swp_at]
          by_cases hcb : c = b
          · subst hcb; rw [pk_us, if_pos rfl]
          · rw [pk_un hcb, if_neg hcb]
            by_cases hca : c = a
            · subst hca; rw [pk_us, if_pos rfl]
            · rw [pk_un hca, if_neg hca, this]
        obtain ⟨lr', er', hr'⟩ := lawM1 hw hst2 hm (SMs_row hsm2)
        have e := IsB_eq hr' hr
        subst e
        have hsa := hst.2.1 a ha
        have hsb := hst.2.1 b hb
        have eX' : f_X10_actTo (nI (pk (swp σ a b))) (nI (pk σ)) (sx_acts_size s) (sx_acts_before_v s) (sx_acts_dinners_v s) = some (nI (pk (swp σ a b)), sz2, bf, df) := by
          unfold f_X10_actTo
          have : f_X0_add (nI (pk σ)) 0 (sx_acts_size s) (sx_acts_before_v s) (sx_acts_dinners_v s) = some (sz2, bf, df) := eX
          rw [this, qs_bd, qs_u3]
        rw [qs_t hne, qs_t hne, hse, chairX hn hst ha, qs_bd, qs_u1, chairX hn hst hb, qs_bd, qs_u1, qs_lt, exch (ST_lt8 hn hst) (by omega) (by omega), eX', qs_bd, qs_u4]
        have ep' := ep
        rw [ep] at er
        rw [em] at er'
        rw [er, qs_bd, qs_u1, eM, qs_bd, qs_u3, chairM hn hst (SMs_row hsm) ha, qs_bd, qs_u1, chairM hn hst (SMs_row hsm) hb, qs_bd, qs_u1]
        simp (disch := omega) only [qs_cl, qg_in2, qs_lt]
        rw [er', qs_bd, qs_u1, IsB_cd hr' (fun z => some (z, ac2, nx2, upd (upd (sm_seat_v t) a (nI (σ b))) b (nI (σ a)), r))]
        exact ⟨lr', _, _, _, _, _, _, _, _, rfl, rfl, h1, h2, h3, h4, d, swp σ a b, f, hw, hx, hm, hst2, hdn, rfl, hdx, hsm2, hdm, hac2, hs0, hs1, hla⟩
    · rw [hp_out hn h, if_pos rfl, qs_f (fun q => q rfl), qs_f (fun q => q rfl)]
      exact ⟨_, _, _, _, _, _, _, _, _, rfl, rfl, hI⟩
  · rw [hp_out hn h, if_pos rfl, qs_f (fun q => q rfl), qs_t rfl]
    exact ⟨_, _, _, _, _, _, _, _, _, rfl, rfl, hI⟩
