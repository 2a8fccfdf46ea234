/-! ===== sums in another order ===== -/
theorem sm_zero {f : Nat → Nat} : ∀ {n : Nat}, (∀ k, k < n → f k = 0) → sm f n = 0 := by
  intro n
  induction n with
  | zero => intro _; rfl
  | succ n ih => intro h; show sm f n + f n = 0; rw [ih (fun k hk => h k (by omega)), h n (by omega)]
theorem sm_one {f : Nat → Nat} {c : Nat} : ∀ {n : Nat}, c < n → (∀ k, k < n → k ≠ c → f k = 0) → sm f n = f c := by
  intro n
  induction n with
  | zero => intro h _; omega
  | succ n ih =>
    intro h h2
    show sm f n + f n = f c
    by_cases hc : c = n
    · subst hc; rw [sm_zero (fun k hk => h2 k (by omega) (by omega)), Nat.zero_add]
    · rw [ih (by omega) (fun k hk hkc => h2 k (by omega) hkc), h2 n (by omega) (fun g => hc g.symm), Nat.add_zero]
theorem sm_add {f g : Nat → Nat} : ∀ {n : Nat}, sm (fun k => f k + g k) n = sm f n + sm g n := by
  intro n
  induction n with
  | zero => rfl
  | succ n ih => show sm (fun k => f k + g k) n + (f n + g n) = sm f n + f n + (sm g n + g n); rw [ih]; omega
theorem sm_swap {g : Nat → Nat → Nat} {m : Nat} : ∀ {n : Nat}, sm (fun a => sm (fun b => g a b) m) n = sm (fun b => sm (fun a => g a b) n) m := by
  intro n
  induction n with
  | zero => exact (sm_zero (fun k _ => rfl)).symm
  | succ n ih =>
    show sm (fun a => sm (fun b => g a b) m) n + sm (fun b => g n b) m = sm (fun b => sm (fun a => g a b) n + g n b) m
    rw [ih, sm_add]
theorem sm_perm {d : PD} {σ : Nat → Nat} (hst : ST d σ) {F : Nat → Nat} : sm (fun e => F (σ e)) (pdn d) = sm F (pdn d) := by
  have e1 : sm (fun e => F (σ e)) (pdn d) = sm (fun e => sm (fun q => if σ e = q then F q else 0) (pdn d)) (pdn d) := sm_cong (fun e he => by
    rw [sm_one (c := σ e) (hst.2.1 e he) (fun k _ hk => if_neg (fun g => hk g.symm)), if_pos rfl])
  have e2 : sm F (pdn d) = sm (fun q => sm (fun e => if σ e = q then F q else 0) (pdn d)) (pdn d) := sm_cong (fun q hq => by
    obtain ⟨c, hc, e⟩ := ST_onto hst hq
    rw [sm_one (c := c) hc (fun k hk hkc => if_neg (fun g => hkc (hst.2.2 k c hk hc (g.trans e.symm)))), if_pos e])
  rw [e1, e2, sm_swap]
theorem adj_at {d : PD} {σ : Nat → Nat} (hst : ST d σ) {c e : Nat} (hc : c < pdn d) (he : e < pdn d) : adj d σ (σ c) (σ e) = nx d c e := by
  rw [Bool.eq_iff_iff, adj_iff]
  constructor
  · rintro ⟨a, b, ha, hb, g, g1, g2⟩
    have e1 := hst.2.2 a c ha hc g1
    have e2 := hst.2.2 b e hb he g2
    subst e1; subst e2; exact g
  · intro g; exact ⟨c, e, hc, he, g, rfl, rfl⟩
/-! ===== somebody ===== -/
theorem woman_eq {d : PD} (hn : pdn d ≤ 7) {wo : Int32} (h : ∀ i, i < 32 → bt wo i = (decide (i < pdn d) && pdw d i)) {p : Nat} (hp : p < pdn d) : f_X4_isWoman (nI p) wo = b2i (pdw d p) := by
  unfold f_X4_isWoman
  have e := h p (by omega)
  simp only [hp, decide_true, Bool.true_and] at e
  cases hb : pdw d p
  · rw [qs_t ((bt_1 wo (by omega)).mpr (e.trans hb))]; rfl
  · rw [qs_f (fun g => by rw [bt_1 wo (by omega), e, hb] at g; exact absurd g (by decide))]; rfl
def Wq (d : PD) (σ : Nat → Nat) (p q : Nat) : Nat := if adj d σ p q = true then pdv d p q else 0
theorem worthTo_loop {d : PD} (hn : pdn d ≤ 7) {σ : Nat → Nat} {p : Nat} (hp : p < pdn d) {row : Int32} {worths : Nat → Int32} (hr : ∀ i, i < 32 → bt row i = (decide (i < 8) && adj d σ p i)) (hv : ∀ p q, p < 8 → q < 8 → worths (8 * p + q) = nI (pdv d p q)) : ∀ (m k : Nat), k ≤ pdn d → pdn d - k < m → lf_X4_worthTo_16 (nI p) row (nI (pdn d)) worths m (nI (sm (Wq d σ p) k)) (nI k) = some (nI (sm (Wq d σ p) (pdn d))) := by
  intro m
  induction m with
  | zero => intro k h1 h2; omega
  | succ m ih =>
    intro k h1 h2
    rw [lf_X4_worthTo_16]
    by_cases hk : pdn d ≤ k
    · have : k = pdn d := by omega
      subst this
      rw [qs_t (nI_le hk (by omega))]
    · have hk' : k < pdn d := by omega
      rw [qs_f (nI_ge hk' (by omega)), qs_f (c := (7 : Int32) ≤ nI k) (nI_ge (b := 7) (by omega) (by omega)), qs_lt, cell_nI (by omega) (by omega)]
      simp (disch := omega) only [qs_cl, qg_in2, qs_lt, nI_1, hv, nI_add]
      have e := hr k (by omega)
      have es : sm (Wq d σ p) (k + 1) = sm (Wq d σ p) k + Wq d σ p k := rfl
      by_cases ha : adj d σ p k = true
      · rw [qs_f (fun g => by rw [bt_1 row (by omega), e, ha] at g; simp at g; omega)]
        have := ih (k + 1) (by omega) (by omega)
        rw [es] at this; unfold Wq at this ⊢; rw [if_pos ha] at this; exact this
      · have ha' : adj d σ p k = false := by cases hh : adj d σ p k <;> simp_all
        rw [qs_t ((bt_1 row (by omega)).mpr (by rw [e, ha']; simp))]
        have := ih (k + 1) (by omega) (by omega)
        rw [es] at this; unfold Wq at this ⊢; rw [if_neg ha, Nat.add_zero] at this; exact this
theorem worthTo_eq {d : PD} (hn : pdn d ≤ 7) {σ : Nat → Nat} (hst : ST d σ) {p : Nat} (hp : p < pdn d) {worths : Nat → Int32} (hv : ∀ p q, p < 8 → q < 8 → worths (8 * p + q) = nI (pdv d p q)) : f_X4_worthTo (nI p) (nI (pk σ)) (b2i (pdr d)) (nI (pdn d)) worths = some (nI (sm (Wq d σ p) (pdn d))) := by
  unfold f_X4_worthTo
  obtain ⟨r, e, hM⟩ := ngh_eq hn hst
  have e2 : lf_X4_worthTo_16 (nI p) (f_X3_rowOf r (nI p)) (nI (pdn d)) worths pw_FU 0 0 = some (nI (sm (Wq d σ p) (pdn d))) := worthTo_loop hn hp (fun i hi => Mt_row hM (by omega) hi) hv pw_FU 0 (by omega) (by unfold pw_FU; omega)
  rw [e, qs_bd, qs_u1, qs_lt, e2, qs_bd, qs_u1]
def Wc (d : PD) (σ : Nat → Nat) (c e : Nat) : Nat := if nx d c e = true then pdv d (σ c) (σ e) else 0
theorem worthFor_loop {d : PD} (hn : pdn d ≤ 7) {σ : Nat → Nat} (hst : ST d σ) {seat worths : Nat → Int32} (hrow : RowM d σ seat) (hv : ∀ p q, p < pdn d → q < pdn d → worths (7 * p + q) = nI (pdv d p q)) {c : Nat} (hc : c < pdn d) : ∀ (m k : Nat), k ≤ pdn d → pdn d - k < m → lf_X11_worthFor_5 (nI c) (nI (pdn d)) (b2i (pdr d)) worths seat m (nI (sm (Wc d σ c) k)) (nI k) = some (nI (sm (Wc d σ c) (pdn d))) := by
  intro m
  induction m with
  | zero => intro k h1 h2; omega
  | succ m ih =>
    intro k h1 h2
    rw [lf_X11_worthFor_5]
    by_cases hk : pdn d ≤ k
    · have : k = pdn d := by omega
      subst this
      rw [qs_t (nI_le hk (by omega))]
    · have hk' : k < pdn d := by omega
      have es : sm (Wc d σ c) (k + 1) = sm (Wc d σ c) k + Wc d σ c k := rfl
      have h0 : nI (sm (Wc d σ c) k) + 0 = nI (sm (Wc d σ c) k) := by show nI _ + nI 0 = _; rw [nI_add]; rfl
      have hi := ih (k + 1) (by omega) (by omega)
      rw [es] at hi; unfold Wc at hi
      rw [qs_f (nI_ge hk' (by omega))]
      by_cases hkc : k = c
      · subst hkc
        rw [qs_t rfl, qs_lt, h0, nI_1]
        rw [if_neg (fun g => nx_ne g rfl), Nat.add_zero] at hi
        exact hi
      · rw [qs_f (c := nI k = nI c) (fun g => hkc ((nI_eq (by omega) (by omega)).mp g)), qs_lt, next_eq hn hc hk' (fun g => hkc g.symm)]
        have hs1 := hst.2.1 c hc
        have hs2 := hst.2.1 k hk'
        simp (disch := omega) only [qs_cl, qg_in2, qs_lt, nI_1, hrow c hc, hrow k hk', qs_7]
        rw [hv _ _ hs1 hs2, nI_add, h0]
        cases hb : nx d c k
        · rw [qs_t (c := b2i false = 0) rfl]
          rw [if_neg (by rw [hb]; decide), Nat.add_zero] at hi
          exact hi
        · rw [qs_f (c := b2i true = 0) (by decide)]
          rw [if_pos hb] at hi
          exact hi
theorem worthFor_eq {d : PD} (hn : pdn d ≤ 7) {σ : Nat → Nat} (hst : ST d σ) {seat worths : Nat → Int32} (hrow : RowM d σ seat) (hv : ∀ p q, p < pdn d → q < pdn d → worths (7 * p + q) = nI (pdv d p q)) {c : Nat} (hc : c < pdn d) : f_X11_worthFor (nI c) (nI (pdn d)) (b2i (pdr d)) worths seat = some (nI (sm (Wc d σ c) (pdn d))) := by
  unfold f_X11_worthFor
  have e2 : lf_X11_worthFor_5 (nI c) (nI (pdn d)) (b2i (pdr d)) worths seat pw_FU 0 0 = some (nI (sm (Wc d σ c) (pdn d))) := worthFor_loop hn hst hrow hv hc pw_FU 0 (by omega) (by unfold pw_FU; omega)
  rw [e2, qs_bd, qs_u1]
theorem Wc_Wq {d : PD} {σ : Nat → Nat} (hst : ST d σ) {c : Nat} (hc : c < pdn d) : sm (Wc d σ c) (pdn d) = sm (Wq d σ (σ c)) (pdn d) := by
  rw [← sm_perm hst (F := Wq d σ (σ c))]
  exact sm_cong (fun e he => by show Wc d σ c e = Wq d σ (σ c) (σ e); unfold Wc Wq; rw [adj_at hst hc he])
theorem low_loop {x : Int32} {f : Nat → Bool} (hr : ∀ i, i < 32 → bt x i = (decide (i < 8) && f i)) : ∀ (m k : Nat), k ≤ 7 → 7 - k < m → (∃ q, k ≤ q ∧ q < 7 ∧ f q = true ∧ lf_X10_lowestOf_2 x m (nI k) = some (.inl (nI q))) ∨ ((∀ q, k ≤ q → q < 7 → f q = false) ∧ lf_X10_lowestOf_2 x m (nI k) = some (.inr ())) := by
  intro m
  induction m with
  | zero => intro k h1 h2; omega
  | succ m ih =>
    intro k h1 h2
    rw [lf_X10_lowestOf_2]
    by_cases hk : 7 ≤ k
    · rw [qs_t (c := (7 : Int32) ≤ nI k) (nI_le (a := 7) hk (by omega))]
      exact Or.inr ⟨fun q _ _ => by omega, rfl⟩
    · rw [qs_f (c := (7 : Int32) ≤ nI k) (nI_ge (b := 7) (by omega) (by omega)), nI_1]
      have e := hr k (by omega)
      cases hb : f k
      · rw [qs_t ((bt_1 x (by omega)).mpr (by rw [e, hb]; simp))]
        rcases ih (k + 1) (by omega) (by omega) with ⟨q, q1, q2, q3, q4⟩ | ⟨q1, q2⟩
        · exact Or.inl ⟨q, by omega, q2, q3, q4⟩
        · refine Or.inr ⟨fun q g1 g2 => ?_, q2⟩
          by_cases hq : q = k
          · rw [hq, hb]
          · exact q1 q (by omega) g2
      · rw [qs_f (fun g => by rw [bt_1 x (by omega), e, hb] at g; simp at g; omega)]
        exact Or.inl ⟨k, by omega, by omega, hb, rfl⟩
theorem Sim_person_ok : Sim_person Inv := by
  intro s t hI x1 x2
  obtain ⟨h1, h2, h3, h4, d, σ, f, hw, hx, hm, hst, hdn, hse, hdx, hsm, hdm, hac, hs0, hs1, hla⟩ := id hI
  have hn := hw.1
  have er : sx_guests_round s = b2i (pdr d) := hx.1
  have ep : sx_guests_people s = nI (pdn d) := hx.2.2.2.1
  have em : sm_people t = nI (pdn d) := hm.1
  have em2 : sm_isRound t = b2i (pdr d) := hm.2.1
  have hrow := SMs_row hsm
  obtain ⟨_, _, _, _, xw, xc, xq, xg, xb, xv⟩ := hx
  obtain ⟨_, _, _, _, mw, mc, mq, mg, mv⟩ := hm
  unfold f_X10_person f_X11_person
  rw [hse, er, ep, em, em2, isP_eq x1 hn, qs_bd, qs_u1, qs_lt]
  rcases hp_cases x1 hn with ⟨p, hp, rfl⟩ | h
  · obtain ⟨c, hc, ec⟩ := ST_onto hst hp
    subst ec
    rw [hp_in hp hn, qs_t (c := ¬ (1 : Int32) = 0) (by decide), qs_t (c := ¬ (1 : Int32) = 0) (by decide), chairX hn hst hc, chairM hn hst hrow hc]
    simp (disch := omega) only [qs_bd, qs_u1, qs_lt, qs_cl, qg_in2, worthTo_eq hn hst hp xv, worthFor_eq hn hst hrow mv hc, woman_eq hn xw hp, mw _ hp, Wc_Wq hst hc]
    have e3 : f_X3_rowOf (sx_guests_quarrels s) (nI (σ c)) = sm_quarrel_v t (σ c) := b_ext (fun i hi => by
      rw [Mt_row xq (by omega) hi, mq _ hp i hi]
      by_cases h8 : i < 8
      · simp [h8]
      · have : pdq d (σ c) i = false := by
          cases hh : pdq d (σ c) i
          · rfl
          · have := hw.2.2.1.1 _ _ hh; omega
        rw [this]; simp)
    have e4 : f_X3_rowOf (sx_guests_togethers s) (nI (σ c)) = sm_joined_v t (σ c) := b_ext (fun i hi => by
      rw [Mt_row xg (by omega) hi, mg _ hp i hi]
      by_cases h8 : i < 8
      · simp [h8]
      · have : pdg d (σ c) i = false := by
          cases hh : pdg d (σ c) i
          · rfl
          · have := hw.2.2.2.1.1 _ _ hh; omega
        rw [this]; simp)
    have e2 : f_X10_lowestOf (f_X3_rowOf (sx_guests_couples s) (nI (σ c))) = some (sm_mate_v t (σ c)) := by
      unfold f_X10_lowestOf
      rcases low_loop (f := pdc d (σ c)) (fun i hi => Mt_row xc (by omega) hi) pw_FU 0 (by omega) (by unfold pw_FU; omega) with ⟨q, q1, q2, q3, q4⟩ | ⟨q1, q2⟩
      · have q4' : lf_X10_lowestOf_2 (f_X3_rowOf (sx_guests_couples s) (nI (σ c))) pw_FU 0 = some (.inl (nI q)) := q4
        rw [q4', qs_bl, qs_u1, (mc _ hp).1 q q3]
      · have q2' : lf_X10_lowestOf_2 (f_X3_rowOf (sx_guests_couples s) (nI (σ c))) pw_FU 0 = some (.inr ()) := q2
        rw [q2', qs_br, qs_u1, (mc _ hp).2 (fun q => ?_)]
        cases hh : pdc d (σ c) q
        · rfl
        · have g := (hw.2.1.1 _ _ hh).2.1
          rw [q1 q (by omega) (by omega)] at hh
          exact absurd hh (by decide)
    rw [e2, e3, e4, qs_bd, qs_u1]
    refine two_some ?_ hI
    exact cd_some ⟨_, rfl⟩ (cd_some (cd_some ⟨_, rfl⟩ ⟨_, rfl⟩) (cd_some ⟨_, rfl⟩ (cd_some ⟨_, rfl⟩ (cd_some ⟨_, rfl⟩ (cd_some ⟨_, rfl⟩ ⟨_, rfl⟩)))))
  · rw [hp_out hn h, qs_f (c := ¬ (0 : Int32) = 0) (fun g => g rfl), qs_f (c := ¬ (0 : Int32) = 0) (fun g => g rfl)]
    exact ⟨_, rfl, rfl, hI⟩
