/-! ===== the model's search ===== -/
theorem nI_n9 {n : Nat} (h : n < 2 ^ 31) : nI n ≠ -9 := by
  intro g
  have e := congrArg Int32.toInt g
  rw [nI_toInt h] at e
  have e9 : (-9 : Int32).toInt = -9 := by decide
  rw [e9] at e
  omega
def QM (d : PD) (e : Nat) (ρ : Nat → Nat → Nat) (s : Nat → Nat) (ends : Int32) (queue steps : Nat → Int32) : Prop :=
  ends = nI e ∧ (∀ i, i < e → queue i = nI (cod d (ρ i)) ∧ steps (cod d (ρ i)) = nI (s i)) ∧ (∀ c, c < 720 → steps c ≠ -9 → ∃ i, i < e ∧ c = cod d (ρ i)) ∧ cnt (fun c => decide (steps c ≠ -9)) 720 = e
def TM (d : PD) (g τ : Nat → Nat) : Prop := lawS d τ ∨ τ = g
theorem exchM {d : PD} (hn : pdn d ≤ 7) {κ : Nat → Nat} {a b : Nat} (ha : a < pdn d) (hb : b < a) {perm : Nat → Int32} (hrow : RowM d κ perm) : ∃ perm', f_X11_exchange (nI a) (nI b) perm = some perm' ∧ RowM d (swp κ a b) perm' := by
  unfold f_X11_exchange
  simp (disch := omega) only [qs_cl, qg_in2, qs_lt]
  refine ⟨_, rfl, fun c hc => ?_⟩
  rw [swp_at]
  by_cases q : c = b
  · rw [q, pk_us, if_pos rfl]; exact hrow a ha
  · rw [pk_un q, if_neg q]
    by_cases q2 : c = a
    · rw [q2, pk_us, if_pos rfl]; exact hrow b (by omega)
    · rw [pk_un q2, if_neg q2]; exact hrow c hc
theorem addQM {d : PD} (hn : pdn d ≤ 6) {σ0 κ g : Nat → Nat} {k t e : Nat} {ρ : Nat → Nat → Nat} {s : Nat → Nat} (h : XQ d σ0 (TM d g) k κ t e ρ s) {ends : Int32} {queue steps : Nat → Int32} (hc : QM d e ρ s ends queue steps) {τ : Nat → Nat} (hst : ST d τ) (hz : steps (cod d τ) = -9) : e < 720 ∧ QM d (e + 1) (qup ρ e τ) (qup s e (t + 1)) (nI (e + 1)) (upd queue e (nI (cod d τ))) (upd steps (cod d τ) (nI (t + 1))) := by
  obtain ⟨c1, c2, c3, c4⟩ := hc
  have hcd := code_lt hn (τ := τ)
  have hte : t + 1 ≤ e := by
    have := (h.1.2.2.2.1 k h.2.1).2.2.1
    rw [h.2.2.2.1] at this
    have := h.2.1
    omega
  have hcl := cnt_le (fun c => decide (steps c ≠ -9)) 720
  have hne : nI (t + 1) ≠ -9 := nI_n9 (by omega)
  have hcn := cnt_new (p := fun c => decide (steps c ≠ -9)) (q := fun c => decide (upd steps (cod d τ) (nI (t + 1)) c ≠ -9)) (r := cod d τ) (by simp [hz]) (by simp only [pk_us]; exact decide_eq_true hne) (fun i hi => by simp only [pk_un hi]) 720
  rw [if_pos hcd, c4] at hcn
  have hcl2 := cnt_le (fun c => decide (upd steps (cod d τ) (nI (t + 1)) c ≠ -9)) 720
  refine ⟨by omega, rfl, fun i hi => ?_, fun c hc g => ?_, hcn⟩
  · by_cases q : i = e
    · rw [q, qup_s, qup_s, pk_us, pk_us]; exact ⟨rfl, rfl⟩
    · obtain ⟨a1, a2⟩ := c2 i (by omega)
      have hsi := (h.1.2.2.2.1 i (by omega)).2.2.1
      have : cod d (ρ i) ≠ cod d τ := fun g => by
        rw [g, hz] at a2
        exact nI_n9 (by omega) a2.symm
      rw [qup_o (by omega), qup_o (by omega), pk_un (by omega), pk_un this]
      exact ⟨a1, a2⟩
  · by_cases q : c = cod d τ
    · exact ⟨e, by omega, by rw [qup_s]; exact q⟩
    · rw [pk_un q] at g
      obtain ⟨i, a1, a2⟩ := c3 c hc g
      exact ⟨i, by omega, by rw [qup_o a1]; exact a2⟩
theorem chg_in {d : PD} (hw : PWf d) (hn : pdn d ≤ 6) {pe ro tu ap : Int32} {woman mate quarrel joined worths : Nat → Int32} (hm : PM d pe ro tu ap woman mate quarrel joined worths) {σ0 κ g : Nat → Nat} (hκ : ST d κ) (hg : ST d g) {k t : Nat} (hk : k = 0 ∨ lawS d κ) {a : Nat} (ha : a < pdn d) : ∀ (m b e : Nat) (ρ : Nat → Nat → Nat) (s : Nat → Nat) (ends : Int32) (perm queue steps digits : Nat → Int32), b ≤ a → a - b < m → XQ d σ0 (TM d g) k κ t e ρ s → QM d e ρ s ends queue steps → (∀ b', b' < b → TM d g (swp κ a b') → HDs t e ρ s (swp κ a b')) →
    ∃ ends' perm' queue' steps' digits' e' ρ' s', lf_X11_changes_170 (nI (cod d g)) (nI (cod d κ)) (nI a) (nI (pdn d)) ro tu ap woman mate quarrel joined m ends (nI b) perm queue steps digits = some (ends', perm', queue', steps', digits') ∧ EXt e ρ s e' ρ' s' ∧ XQ d σ0 (TM d g) k κ t e' ρ' s' ∧ QM d e' ρ' s' ends' queue' steps' ∧ ∀ b', b' < a → TM d g (swp κ a b') → HDs t e' ρ' s' (swp κ a b') := by
  intro m
  induction m with
  | zero => intro b e ρ s ends perm queue steps digits h1 h2; omega
  | succ m ih =>
    intro b e ρ s ends perm queue steps digits h1 h2 hX hC hd
    rw [lf_X11_changes_170]
    by_cases hb : a ≤ b
    · have : b = a := by omega
      subst this
      rw [qs_t (nI_le hb (by omega))]
      exact ⟨_, _, _, _, _, _, _, _, rfl, EXt_rf, hX, hC, hd⟩
    · have hb' : b < a := by omega
      have hsw : ST d (swp κ a b) := ST_swp hκ ha (by omega)
      obtain ⟨p1, dg1, e1, r1⟩ := layM (by omega) hκ perm digits
      obtain ⟨p2, e2, r2⟩ := exchM (by omega) ha hb' r1
      have e3 := codeM (by omega) hsw r2
      have hc1 := code_lt hn (τ := swp κ a b)
      have hc2 := code_lt hn (τ := κ)
      have hc3 := code_lt hn (τ := g)
      obtain ⟨c1, c2, c3, c4⟩ := id hC
      have hcl := cnt_le (fun c => decide (steps c ≠ -9)) 720
      rw [qs_f (nI_ge hb' (by omega)), e1, qs_bd, qs_u2, e2, qs_bd, qs_u1, e3, qs_bd, qs_u1]
      simp (disch := omega) only [qs_cl, qg_in2, qs_lt, nI_1, qs_jn]
      have hex := fun (ρ2 : Nat → Nat → Nat) (s2 : Nat → Nat) (e2 : Nat) (x1 : EXt e ρ s e2 ρ2 s2) (x4 : TM d g (swp κ a b) → HDs t e2 ρ2 s2 (swp κ a b)) => (fun b' (hb2 : b' < b + 1) (hT : TM d g (swp κ a b')) => (by
        by_cases q : b' = b
        · rw [q] at hT ⊢; exact x4 hT
        · exact HDs_ext (hd b' (by omega) hT) x1 : HDs t e2 ρ2 s2 (swp κ a b')))
      by_cases hz : steps (cod d (swp κ a b)) = -9
      · rw [qs_nf hz]
        have hadd : TM d g (swp κ a b) → ∃ ends' perm' queue' steps' digits' e' ρ' s', lf_X11_changes_170 (nI (cod d g)) (nI (cod d κ)) (nI a) (nI (pdn d)) ro tu ap woman mate quarrel joined m (ends + 1) (nI (b + 1)) p2 (upd queue e (nI (cod d (swp κ a b)))) (upd steps (cod d (swp κ a b)) (steps (cod d κ) + 1)) dg1 = some (ends', perm', queue', steps', digits') ∧ EXt e ρ s e' ρ' s' ∧ XQ d σ0 (TM d g) k κ t e' ρ' s' ∧ QM d e' ρ' s' ends' queue' steps' ∧ ∀ b', b' < a → TM d g (swp κ a b') → HDs t e' ρ' s' (swp κ a b') := by
          intro hT
          obtain ⟨_, hM⟩ := addQM hn hX hC hsw hz
          obtain ⟨x1, x2, x3⟩ := XQ_add hX hk hsw ⟨a, b, hb', ha, rfl⟩ hT
          have ek : steps (cod d κ) + 1 = nI (t + 1) := by
            have := (c2 k hX.2.1).2
            rw [hX.2.2.1, hX.2.2.2.1] at this
            rw [this, nI_1]
          have ee : ends + 1 = nI (e + 1) := by rw [c1, nI_1]
          rw [ek, ee]
          obtain ⟨q1, q2, q3, q4, q5, e', ρ', s', y1, y2, y3⟩ := ih (b + 1) _ _ _ _ p2 _ _ dg1 (by omega) (by omega) x1 hM (hex _ _ _ x2 (fun _ => x3))
          exact ⟨q1, q2, q3, q4, q5, e', ρ', s', y1, EXt_tr x2 y2, y3⟩
        have hel : e < 720 := (addQM hn hX hC hsw hz).1
        rw [c1] at hadd ⊢
        simp (disch := omega) only [qs_cl, qg_in2]
        by_cases hgo : swp κ a b = g
        · have hT : TM d g (swp κ a b) := Or.inr hgo
          rw [qs_t (c := nI (cod d (swp κ a b)) = nI (cod d g)) (by rw [hgo])]
          exact hadd hT
        · rw [qs_f (c := nI (cod d (swp κ a b)) = nI (cod d g)) (fun q => hgo (code_inj (by omega) hsw hg ((nI_eq (by omega) (by omega)).mp q)))]
          obtain ⟨lr, el, hl⟩ := lawM1 hw hsw hm r2
          rw [hm.1] at el
          rw [el, qs_bd, qs_u1]
          rcases hl with ⟨rfl, hl⟩ | ⟨rfl, hl⟩
          · rw [qs_f (c := (1 : Int32) = 0) (by decide)]
            exact hadd (Or.inl hl)
          · rw [qs_t (c := (0 : Int32) = 0) rfl]
            rw [← c1]
            exact ih (b + 1) e ρ s ends p2 queue steps dg1 (by omega) (by omega) hX hC (hex _ _ _ EXt_rf (fun q => (q.elim hl hgo).elim))
      · rw [qs_nt hz]
        obtain ⟨i, hi, g1⟩ := c3 _ hc1 hz
        have e5 := code_inj (by omega) hsw (hX.1.2.2.2.1 i hi).1 g1
        exact ih (b + 1) e ρ s ends p2 queue steps dg1 (by omega) (by omega) hX hC (hex _ _ _ EXt_rf (fun _ => ⟨i, hi, e5.symm, hX.2.2.2.2 i hi⟩))
theorem chg_out {d : PD} (hw : PWf d) (hn : pdn d ≤ 6) {pe ro tu ap : Int32} {woman mate quarrel joined worths : Nat → Int32} (hm : PM d pe ro tu ap woman mate quarrel joined worths) {σ0 κ g : Nat → Nat} (hκ : ST d κ) (hg : ST d g) {k t : Nat} (hk : k = 0 ∨ lawS d κ) : ∀ (m a e : Nat) (ρ : Nat → Nat → Nat) (s : Nat → Nat) (ends : Int32) (perm queue steps digits : Nat → Int32), a ≤ pdn d → pdn d - a < m → XQ d σ0 (TM d g) k κ t e ρ s → QM d e ρ s ends queue steps → (∀ a' b', b' < a' → a' < a → TM d g (swp κ a' b') → HDs t e ρ s (swp κ a' b')) →
    ∃ ends' perm' queue' steps' digits' e' ρ' s', lf_X11_changes_158 (nI (cod d g)) (nI (cod d κ)) (nI (pdn d)) ro tu ap woman mate quarrel joined m ends (nI a) perm queue steps digits = some (ends', perm', queue', steps', digits') ∧ EXt e ρ s e' ρ' s' ∧ XQ d σ0 (TM d g) k κ t e' ρ' s' ∧ QM d e' ρ' s' ends' queue' steps' ∧ ∀ τ, swr d κ τ → TM d g τ → HDs t e' ρ' s' τ := by
  intro m
  induction m with
  | zero => intro a e ρ s ends perm queue steps digits h1 h2; omega
  | succ m ih =>
    intro a e ρ s ends perm queue steps digits h1 h2 hX hC hd
    rw [lf_X11_changes_158]
    by_cases ha : pdn d ≤ a
    · rw [qs_t (nI_le ha (by omega))]
      refine ⟨_, _, _, _, _, _, _, _, rfl, EXt_rf, hX, hC, ?_⟩
      rintro τ ⟨a', b', g1, g2, rfl⟩ hl
      exact hd a' b' g1 (by omega) hl
    · have ha' : a < pdn d := by omega
      obtain ⟨q1, q2, q3, q4, q5, e', ρ', s', y1, y2, y3, y4, y5⟩ := chg_in hw hn hm hκ hg hk ha' pw_FU 0 e ρ s ends perm queue steps digits (by omega) (by unfold pw_FU; omega) hX hC (fun b' h => absurd h (Nat.not_lt_zero _))
      have y1' : lf_X11_changes_170 (nI (cod d g)) (nI (cod d κ)) (nI a) (nI (pdn d)) ro tu ap woman mate quarrel joined pw_FU ends 0 perm queue steps digits = some (q1, q2, q3, q4, q5) := y1
      rw [qs_f (nI_ge ha' (by omega)), y1', qs_bd, qs_u5, nI_1]
      obtain ⟨z1, z2, z3, z4, z5, e2, ρ2, s2, w1, w2, w3⟩ := ih (a + 1) e' ρ' s' q1 q2 q3 q4 q5 (by omega) (by omega) y3 y4 (fun a' b' g1 g2 hT => by
        by_cases q : a' = a
        · subst q; exact y5 b' g1 hT
        · exact HDs_ext (hd a' b' g1 (by omega) hT) y2)
      exact ⟨z1, z2, z3, z4, z5, e2, ρ2, s2, w1, EXt_tr y2 w2, w3⟩
theorem chg_end {d : PD} (hn : pdn d ≤ 6) {σ0 g : Nat → Nat} (hg : ST d g) {k e : Nat} {ρ : Nat → Nat → Nat} {s : Nat → Nat} (hQ : QI d σ0 (TM d g) k e ρ s) (hke : k ≤ e) (h0 : k = 0 → e = 1) (hb : ∀ i, i < e → s i ≤ s (k - 1) + 1) {ends : Int32} {queue steps : Nat → Int32} (hC : QM d e ρ s ends queue steps) (hE : e ≤ k ∨ steps (cod d g) ≠ -9) : ANS d σ0 g (steps (cod d g)) := by
  obtain ⟨c1, c2, c3, c4⟩ := id hC
  have hcl := cnt_le (fun c => decide (steps c ≠ -9)) 720
  have hT : ∀ τ, lawS d τ → TM d g τ := fun _ h => Or.inl h
  by_cases hz : steps (cod d g) = -9
  · have hk : e ≤ k := hE.elim id (fun q => absurd hz q)
    refine Or.inr ⟨hz, fun j hp => ?_⟩
    obtain ⟨i, hi, e1, e2⟩ := QI_all hQ hT (B := j) (fun i hi _ => by omega) j g (Nat.le_refl _) hp (Or.inr (Or.inr rfl))
    have := (c2 i hi).2
    rw [e1, hz] at this
    have h3 := (hQ.2.2.2.1 i hi).2.2.1
    exact nI_n9 (by omega) this.symm
  · obtain ⟨i, hi, g1⟩ := c3 _ (code_lt hn) hz
    have e5 := code_inj (by omega) hg (hQ.2.2.2.1 i hi).1 g1
    have hi4 := hQ.2.2.2.1 i hi
    have hsi := (c2 i hi).2
    rw [← e5] at hsi hi4
    refine Or.inl ⟨s i, hsi, hi4.2.1, fun j hj hp => ?_⟩
    by_cases hk0 : k = 0
    · have := h0 hk0
      have hi0 : i = 0 := by omega
      rw [hi0, hQ.2.2.1] at hj
      omega
    · have hbi := hb i hi
      obtain ⟨i', hi', e1, e2⟩ := QI_all hQ hT (B := s (k - 1)) (fun i' hi' hlt => by
        rcases Nat.lt_or_ge i' k with q | q
        · exact q
        · have := hQ.2.2.2.2.1 (k - 1) i' (by omega) hi'
          omega) j g (by omega) hp (Or.inr (Or.inr rfl))
      have h2 := (c2 i' hi').2
      rw [e1, hsi] at h2
      have h3 := (hQ.2.2.2.1 i' hi').2.2.1
      have := (nI_eq (by omega) (by omega)).mp h2
      omega
theorem chg_loop {d : PD} (hw : PWf d) (hn : pdn d ≤ 6) {pe ro tu ap : Int32} {woman mate quarrel joined worths : Nat → Int32} (hm : PM d pe ro tu ap woman mate quarrel joined worths) {σ0 g : Nat → Nat} (hg : ST d g) : ∀ (m k e : Nat) (ρ : Nat → Nat → Nat) (s : Nat → Nat) (ends : Int32) (perm queue steps digits : Nat → Int32), k ≤ e → 721 - k < m → QI d σ0 (TM d g) k e ρ s → (k = 0 → e = 1) → (∀ i, i < e → s i ≤ s (k - 1) + 1) → QM d e ρ s ends queue steps →
    ∃ perm' queue' steps' digits', lf_X11_changes_129 (nI (cod d g)) (nI (pdn d)) ro tu ap woman mate quarrel joined m ends (nI k) perm queue steps digits = some (perm', queue', steps', digits') ∧ ANS d σ0 g (steps' (cod d g)) := by
  intro m
  induction m with
  | zero => intro k e ρ s ends perm queue steps digits h1 h2; omega
  | succ m ih =>
    intro k e ρ s ends perm queue steps digits h1 h2 hQ h0 hb hC
    obtain ⟨c1, c2, c3, c4⟩ := id hC
    have hcl := cnt_le (fun c => decide (steps c ≠ -9)) 720
    have hcg := code_lt hn (τ := g)
    rw [lf_X11_changes_129]
    by_cases hke : e ≤ k
    · rw [c1, qs_t (nI_le hke (by omega))]
      exact ⟨_, _, _, _, rfl, chg_end hn hg hQ h1 h0 hb hC (Or.inl hke)⟩
    · have hke' : k < e := by omega
      rw [c1, qs_f (nI_ge hke' (by omega))]
      simp (disch := omega) only [qs_cl, qg_in2]
      by_cases hz : steps (cod d g) = -9
      · rw [qs_nf hz]
        obtain ⟨a1, a2⟩ := c2 k hke'
        have hk4 := hQ.2.2.2.1 k hke'
        have hk : k = 0 ∨ lawS d (ρ k) := by
          by_cases q : k = 0
          · exact Or.inl q
          · refine Or.inr ((hk4.2.2.2 q).1.elim id (fun q2 => ?_))
            rw [q2, hz] at a2
            exact absurd a2.symm (nI_n9 (by have := hk4.2.2.1; omega))
        have hX := XQ_of hQ hke' hb
        obtain ⟨q1, q2, q3, q4, q5, e', ρ', s', y1, y2, y3, y4, y5⟩ := chg_out hw hn hm hk4.1 hg hk pw_FU 0 e ρ s ends perm queue steps digits (by omega) (by unfold pw_FU; omega) hX hC (fun a' b' g1 g2 => absurd g2 (Nat.not_lt_zero _))
        have y1' : lf_X11_changes_158 (nI (cod d g)) (nI (cod d (ρ k))) (nI (pdn d)) ro tu ap woman mate quarrel joined pw_FU (nI e) 0 perm queue steps digits = some (q1, q2, q3, q4, q5) := by rw [← c1]; exact y1
        obtain ⟨w1, w2⟩ := XQ_done y3 y5
        simp only [qs_lt]
        rw [a1, y1', qs_bd, qs_u5, nI_1]
        exact ih (k + 1) e' ρ' s' q1 q2 q3 q4 q5 (by have := y2.1; omega) (by omega) w1 (fun q => by omega) w2 y4
      · rw [qs_nt hz]
        exact ⟨_, _, _, _, rfl, chg_end hn hg hQ h1 h0 hb hC (Or.inr hz)⟩
theorem chg35 {d : PD} (hn : pdn d ≤ 7) {g : Nat → Nat} {z : Nat} (hz : z < 2) {kept : Nat → Int32} (hs : SMs d g kept (56 * z)) : ∀ (m k : Nat) (found : Nat → Int32), k ≤ pdn d → pdn d - k < m → (∀ c, c < k → found c = nI (g c)) → ∃ r, lf_X11_changes_35 (nI z) (nI (pdn d)) kept m (nI k) found = some r ∧ RowM d g r := by
  intro m
  induction m with
  | zero => intro k found h1 h2; omega
  | succ m ih =>
    intro k found h1 h2 h3
    rw [lf_X11_changes_35]
    by_cases hk : pdn d ≤ k
    · have : k = pdn d := by omega
      subst this
      rw [qs_t (nI_le hk (by omega))]
      exact ⟨_, rfl, h3⟩
    · rw [qs_f (nI_ge (show k < pdn d by omega) (by omega))]
      simp (disch := omega) only [qs_56, qs_cl, qg_in2, qs_lt, nI_1]
      exact ih (k + 1) _ (by omega) (by omega) (fun c hc => by
        by_cases q : c = k
        · rw [q, pk_us]; exact hs k (by omega)
        · rw [pk_un q]; exact h3 c (by omega))
theorem chg77 : ∀ (m k : Nat) (a : Nat → Int32), k ≤ 720 → 720 - k < m → (∀ c, c < k → a c = -9) → ∃ r, lf_X11_changes_77 m (nI k) a = some r ∧ ∀ c, c < 720 → r c = -9 := by
  intro m
  induction m with
  | zero => intro k a h1 h2; omega
  | succ m ih =>
    intro k a h1 h2 h3
    rw [lf_X11_changes_77]
    by_cases hk : 720 ≤ k
    · rw [qs_t (c := (720 : Int32) ≤ nI k) (nI_le (a := 720) hk (by omega))]
      exact ⟨_, rfl, fun c hc => h3 c (by omega)⟩
    · rw [qs_f (c := (720 : Int32) ≤ nI k) (nI_ge (b := 720) (by omega) (by omega))]
      simp (disch := omega) only [qs_cl, qg_in2, qs_lt, nI_1]
      exact ih (k + 1) _ (by omega) (by omega) (fun c hc => by
        by_cases q : c = k
        · rw [q, pk_us]
        · rw [pk_un q]; exact h3 c (by omega))
theorem chgM {d : PD} (hw : PWf d) (hn : pdn d ≤ 6) {pe ro tu ap : Int32} {woman mate quarrel joined worths : Nat → Int32} (hm : PM d pe ro tu ap woman mate quarrel joined worths) {σ0 g : Nat → Nat} (hs : ST d σ0) (hg : ST d g) {seat isKept kept : Nat → Int32} (hrow : RowM d σ0 seat) {z : Nat} (hz : z < 2) (hkk : SMs d g kept (56 * z)) (perm found queue steps digits : Nat → Int32) (hik : ¬ isKept z = 0) :
    ∃ r q1 q2 q3 q4 q5, f_X11_changes (nI z) (nI (pdn d)) ro tu ap woman mate quarrel joined seat perm found queue steps digits isKept kept = some (r, q1, q2, q3, q4, q5) ∧ ANS d σ0 g r := by
  obtain ⟨y15, e35, r35⟩ := chg35 (by omega) hz hkk pw_FU 0 found (by omega) (by unfold pw_FU; omega) (fun c h => absurd h (Nat.not_lt_zero _))
  have e35' : lf_X11_changes_35 (nI z) (nI (pdn d)) kept pw_FU 0 found = some y15 := e35
  obtain ⟨y24, e77, r77⟩ := chg77 pw_FU 0 steps (by omega) (by unfold pw_FU; omega) (fun c h => absurd h (Nat.not_lt_zero _))
  have e77' : lf_X11_changes_77 pw_FU 0 steps = some y24 := e77
  have ec1 := codeM (by omega) hg r35
  have ec2 := codeM (by omega) hs hrow
  have hcs := code_lt hn (τ := σ0)
  have hcg := code_lt hn (τ := g)
  have ez : Int32.toNatClampNeg 0 = 0 := by decide
  have hin : f_X11_in (Int32.toInt64 (nI z)) 0 1 = 1 := by
    rw [inSlot]
    rcases (show z = 0 ∨ z = 1 by omega) with rfl | rfl
    · exact isSlot_0
    · exact isSlot_1
  have hM : QM d 1 (fun _ => σ0) (fun _ => 0) 1 (upd queue 0 (nI (cod d σ0))) (upd y24 (cod d σ0) 0) := by
    have hcn := cnt_new (p := fun c => decide (y24 c ≠ -9)) (q := fun c => decide (upd y24 (cod d σ0) 0 c ≠ -9)) (r := cod d σ0) (by simp [r77 _ hcs]) (by simp only [pk_us]; decide) (fun i hi => by simp only [pk_un hi]) 720
    rw [if_pos hcs, cnt_none (p := fun c => decide (y24 c ≠ -9)) 720 (fun i hi => by simp [r77 i hi])] at hcn
    refine ⟨rfl, fun i hi => ?_, fun c hc q => ?_, hcn⟩
    · have : i = 0 := by omega
      rw [this, pk_us, pk_us]; exact ⟨rfl, rfl⟩
    · by_cases q2 : c = cod d σ0
      · exact ⟨0, by omega, q2⟩
      · rw [pk_un q2] at q
        exact absurd (r77 c hc) q
  obtain ⟨p', qu', st', dg', e129, hA⟩ := chg_loop hw hn hm hg pw_FU 0 1 _ _ 1 perm _ _ digits (by omega) (by unfold pw_FU; omega) (QI_0 hs) (fun _ => rfl) (fun i hi => by omega) hM
  have e129' : lf_X11_changes_129 (nI (cod d g)) (nI (pdn d)) ro tu ap woman mate quarrel joined pw_FU 1 0 perm (upd queue 0 (nI (cod d σ0))) (upd y24 (cod d σ0) 0) digits = some (p', qu', st', dg') := e129
  unfold f_X11_changes
  rw [qs_lt, hin, qs_nt (c := (1 : Int32) = 0) (by decide)]
  simp (disch := omega) only [qs_cl, qg_in2]
  rw [qs_f hik, qs_t (c := nI (pdn d) ≤ 6) (nI_le (b := 6) hn (by omega)), e35', qs_bd, qs_u1, ec1, qs_bd, qs_u1, e77', qs_bd, qs_u1, ec2, qs_bd, qs_u1, qs_lt, ez, pk_us]
  simp (disch := omega) only [qs_cl, qg_in2, qs_lt]
  rw [e129', qs_bd, qs_u4]
  exact ⟨_, _, _, _, _, _, rfl, hA⟩
theorem chgX {d : PD} (hw : PWf d) (hn : pdn d ≤ 6) {v : Nat → Int32} {N : Nat} {listed size ro tu ap pe wo : Int32} {co qu to ba : Int64} {worths : Nat → Int32} (hx : PX d ro tu ap pe wo co qu to ba worths) (hl : RLaw d v N listed size) {σ0 g : Nat → Nat} (hs : ST d σ0) (hg : ST d g) {N1 : Nat} (h1 : 1 ≤ N1) (h2 : N1 ≤ 720) (queued : Int32) (queue swaps : Nat → Int32) : ∃ v' N' r q qv n sv, f_X2_list listed size v N ro (nI (pdn d)) to ba = some (1, nI (lawL d).length, v', N') ∧ LW d v' N' ∧ f_X6_fewestSwaps (nI (pdn d)) (nI (pk σ0)) (nI (pk g)) queued queue N1 swaps N1 (nI (lawL d).length) v' N' = some (r, q, qv, n, sv, n) ∧ 1 ≤ n ∧ n ≤ 720 ∧ ANS d σ0 g r := by
  obtain ⟨v', N', eL, hL⟩ := listX hw hx hl
  obtain ⟨r, q, qv, n, sv, e, hh⟩ := fewX hn hL hs hg h1 h2 queued queue swaps
  rw [hx.2.2.2.1] at eL
  exact ⟨v', N', r, q, qv, n, sv, eL, hL, e, hh⟩
theorem Sim_changes_ok : Sim_changes Inv := by
  intro s t hI x1
  obtain ⟨h1, h2, h3, h4, d, σ, f, hw, hx, hm, hst, hdn, hse, hdx, hsm, hdm, hac, hs0, hs1, hla⟩ := id hI
  have hn := hw.1
  have ep : sx_guests_people s = nI (pdn d) := hx.2.2.2.1
  have em : sm_people t = nI (pdn d) := hm.1
  have eN := h4.2.1
  have hin := inSlot x1
  by_cases c0 : x1 = 0
  · subst c0
    have ec : Int32.toNatClampNeg 0 = 0 := by decide
    rcases id hs0 with ⟨g1, g2⟩ | ⟨g1, g2, τ, g, g3, g4, g5, g6, g7, g8⟩
    · unfold f_X10_changes f_X11_changes
      rw [qs_lt, qs_lt, inSlot, isSlot_0, qs_nt (c := (1 : Int32) = 0) (by decide), qs_nt (c := (1 : Int32) = 0) (by decide), qs_t (c := (0 : Int32) = 0) rfl, qs_g (by decide), ec, g1, g2, qs_t (c := (0 : Int32) = 0) rfl, qs_t (c := (0 : Int32) = 0) rfl]
      exact ⟨_, _, _, _, _, _, _, _, _, _, _, _, _, _, _, rfl, rfl, hI⟩
    · by_cases h6 : pdn d ≤ 6
      · obtain ⟨r, q1, q2, q3, q4, q5, eM, aM⟩ := chgM hw h6 hm hst g3 (SMs_row hsm) (z := 0) (by omega) g7 (sm_perm_v t) (sm_found_v t) (sm_queue_v t) (sm_steps_v t) (sm_digits_v t) (isKept := sm_isKept_v t) (by rw [g2]; decide)
        obtain ⟨v', N', r', q, qv, n, sv, eL, hL, eX, n1, n2, aX⟩ := chgX hw h6 hx hla hst g3 h4.1 h4.2.2 (sx_search_queued s) (sx_search_queue_v s) (sx_search_swaps_v s)
        have := ANS_eq aX aM
        subst this
        rw [← em] at eM
        refine ⟨r', 1, nI (lawL d).length, v', N', q, qv, n, sv, n, q1, q2, q3, q4, q5, ?_, eM, h1, h2, h3, ⟨n1, rfl, n2⟩, d, σ, f, hw, hx, hm, hst, hdn, hse, hdx, hsm, hdm, hac, hs0, hs1, LW_RLaw hL⟩
        unfold f_X10_changes
        rw [qs_lt, isSlot_0, qs_nt (c := (1 : Int32) = 0) (by decide), qs_t (c := (0 : Int32) = 0) rfl, g1, qs_f (c := (1 : Int32) = 0) (by decide), ep, qs_t (c := nI (pdn d) ≤ 6) (nI_le (b := 6) h6 (by omega)), eL, qs_bd, qs_u4, hse, g5, ← eN, eX, qs_bd, qs_u6]
      · unfold f_X10_changes f_X11_changes
        rw [qs_lt, qs_lt, inSlot, isSlot_0, qs_nt (c := (1 : Int32) = 0) (by decide), qs_nt (c := (1 : Int32) = 0) (by decide), qs_t (c := (0 : Int32) = 0) rfl, qs_g (by decide), ec, g1, g2, qs_f (c := (1 : Int32) = 0) (by decide), qs_f (c := (1 : Int32) = 0) (by decide), ep, em, qs_f (c := nI (pdn d) ≤ 6) (nI_ge (a := 6) (by omega) (by omega)), qs_f (c := nI (pdn d) ≤ 6) (nI_ge (a := 6) (by omega) (by omega))]
        exact ⟨_, _, _, _, _, _, _, _, _, _, _, _, _, _, _, rfl, rfl, hI⟩
  · by_cases c1 : x1 = 1
    · subst c1
      have ec : Int32.toNatClampNeg 1 = 1 := by decide
      rcases id hs1 with ⟨g1, g2⟩ | ⟨g1, g2, τ, g, g3, g4, g5, g6, g7, g8⟩
      · unfold f_X10_changes f_X11_changes
        rw [qs_lt, qs_lt, inSlot, isSlot_1, qs_nt (c := (1 : Int32) = 0) (by decide), qs_nt (c := (1 : Int32) = 0) (by decide), qs_f (c := (1 : Int32) = 0) (by decide), qs_g (by decide), ec, g1, g2, qs_t (c := (0 : Int32) = 0) rfl, qs_t (c := (0 : Int32) = 0) rfl]
        exact ⟨_, _, _, _, _, _, _, _, _, _, _, _, _, _, _, rfl, rfl, hI⟩
      · by_cases h6 : pdn d ≤ 6
        · obtain ⟨r, q1, q2, q3, q4, q5, eM, aM⟩ := chgM hw h6 hm hst g3 (SMs_row hsm) (z := 1) (by omega) g7 (sm_perm_v t) (sm_found_v t) (sm_queue_v t) (sm_steps_v t) (sm_digits_v t) (isKept := sm_isKept_v t) (by rw [g2]; decide)
          obtain ⟨v', N', r', q, qv, n, sv, eL, hL, eX, n1, n2, aX⟩ := chgX hw h6 hx hla hst g3 h4.1 h4.2.2 (sx_search_queued s) (sx_search_queue_v s) (sx_search_swaps_v s)
          have := ANS_eq aX aM
          subst this
          rw [← em] at eM
          refine ⟨r', 1, nI (lawL d).length, v', N', q, qv, n, sv, n, q1, q2, q3, q4, q5, ?_, eM, h1, h2, h3, ⟨n1, rfl, n2⟩, d, σ, f, hw, hx, hm, hst, hdn, hse, hdx, hsm, hdm, hac, hs0, hs1, LW_RLaw hL⟩
          unfold f_X10_changes
          rw [qs_lt, isSlot_1, qs_nt (c := (1 : Int32) = 0) (by decide), qs_f (c := (1 : Int32) = 0) (by decide), g1, qs_f (c := (1 : Int32) = 0) (by decide), ep, qs_t (c := nI (pdn d) ≤ 6) (nI_le (b := 6) h6 (by omega)), eL, qs_bd, qs_u4, hse, g5, ← eN, eX, qs_bd, qs_u6]
        · unfold f_X10_changes f_X11_changes
          rw [qs_lt, qs_lt, inSlot, isSlot_1, qs_nt (c := (1 : Int32) = 0) (by decide), qs_nt (c := (1 : Int32) = 0) (by decide), qs_f (c := (1 : Int32) = 0) (by decide), qs_g (by decide), ec, g1, g2, qs_f (c := (1 : Int32) = 0) (by decide), qs_f (c := (1 : Int32) = 0) (by decide), ep, em, qs_f (c := nI (pdn d) ≤ 6) (nI_ge (a := 6) (by omega) (by omega)), qs_f (c := nI (pdn d) ≤ 6) (nI_ge (a := 6) (by omega) (by omega))]
          exact ⟨_, _, _, _, _, _, _, _, _, _, _, _, _, _, _, rfl, rfl, hI⟩
    · unfold f_X10_changes f_X11_changes
      rw [qs_lt, qs_lt, inSlot, isSlot_n c0 c1, qs_nf (c := (0 : Int32) = 0) rfl, qs_nf (c := (0 : Int32) = 0) rfl]
      exact ⟨_, _, _, _, _, _, _, _, _, _, _, _, _, _, _, rfl, rfl, hI⟩
