/-! ===== from one seating to another by swaps: what is asked ===== -/
def swr (d : PD) (σ τ : Nat → Nat) : Prop := ∃ a b, b < a ∧ a < pdn d ∧ τ = swp σ a b
def PT (d : PD) (σ0 : Nat → Nat) : Nat → (Nat → Nat) → Prop
  | 0, τ => τ = σ0
  | k + 1, τ => ∃ ρ, PT d σ0 k ρ ∧ (k = 0 ∨ lawS d ρ) ∧ swr d ρ τ
theorem PT_0 {d : PD} {σ0 τ : Nat → Nat} : PT d σ0 0 τ ↔ τ = σ0 := Iff.rfl
theorem PT_s {d : PD} {σ0 τ : Nat → Nat} {k : Nat} : PT d σ0 (k + 1) τ ↔ ∃ ρ, PT d σ0 k ρ ∧ (k = 0 ∨ lawS d ρ) ∧ swr d ρ τ := Iff.rfl
def ANS (d : PD) (σ0 g : Nat → Nat) (r : Int32) : Prop := (∃ k, r = nI k ∧ PT d σ0 k g ∧ ∀ j, j < k → ¬ PT d σ0 j g) ∨ (r = -9 ∧ ∀ k, ¬ PT d σ0 k g)
theorem ANS_eq {d : PD} {σ0 g : Nat → Nat} {r r' : Int32} (h : ANS d σ0 g r) (h' : ANS d σ0 g r') : r = r' := by
  rcases h with ⟨k, rfl, h1, h2⟩ | ⟨rfl, h1⟩ <;> rcases h' with ⟨k', rfl, g1, g2⟩ | ⟨rfl, g1⟩
  · have : k = k' := by
      rcases Nat.lt_trichotomy k k' with q | q | q
      · exact absurd h1 (g2 k q)
      · exact q
      · exact absurd g1 (h2 k' q)
    rw [this]
  · exact absurd h1 (g1 k)
  · exact absurd g1 (h1 k')
  · rfl
/-- a queue: e of them, the first k looked at; T: what is put in -/
def QI (d : PD) (σ0 : Nat → Nat) (T : (Nat → Nat) → Prop) (k e : Nat) (ρ : Nat → Nat → Nat) (s : Nat → Nat) : Prop :=
  1 ≤ e ∧ ρ 0 = σ0 ∧ s 0 = 0 ∧ (∀ i, i < e → ST d (ρ i) ∧ PT d σ0 (s i) (ρ i) ∧ s i ≤ i ∧ (i ≠ 0 → T (ρ i) ∧ 1 ≤ s i)) ∧ (∀ i j, i ≤ j → j < e → s i ≤ s j) ∧ ∀ i, i < k → ∀ τ, swr d (ρ i) τ → T τ → ∃ j, j < e ∧ ρ j = τ ∧ s j ≤ s i + 1
theorem QI_all {d : PD} {σ0 : Nat → Nat} {T : (Nat → Nat) → Prop} {k e : Nat} {ρ : Nat → Nat → Nat} {s : Nat → Nat} (h : QI d σ0 T k e ρ s) (hT : ∀ τ, lawS d τ → T τ) {B : Nat} (hB : ∀ i, i < e → s i < B → i < k) : ∀ j τ, j ≤ B → PT d σ0 j τ → (τ = σ0 ∨ T τ) → ∃ i, i < e ∧ ρ i = τ ∧ s i ≤ j := by
  obtain ⟨h1, h2, h3, h4, h5, h6⟩ := h
  intro j
  induction j with
  | zero => intro τ _ hp _; exact ⟨0, by omega, by rw [h2]; exact (PT_0.mp hp).symm, by omega⟩
  | succ j ih =>
    intro τ hj hp ht
    obtain ⟨ρ', g1, g2, g3⟩ := PT_s.mp hp
    have hr : ρ' = σ0 ∨ T ρ' := by
      rcases g2 with g | g
      · subst g; exact Or.inl (PT_0.mp g1)
      · exact Or.inr (hT _ g)
    obtain ⟨i, hi, e1, e2⟩ := ih ρ' (by omega) g1 hr
    rcases ht with ht | ht
    · exact ⟨0, by omega, by rw [h2, ht], by omega⟩
    · obtain ⟨j', a1, a2, a3⟩ := h6 i (hB i hi (by omega)) τ (by rw [e1]; exact g3) ht
      exact ⟨j', a1, a2, by omega⟩
theorem QI_min {d : PD} {σ0 : Nat → Nat} {T : (Nat → Nat) → Prop} {k e : Nat} {ρ : Nat → Nat → Nat} {s : Nat → Nat} (h : QI d σ0 T k e ρ s) (hT : ∀ τ, lawS d τ → T τ) {g : Nat → Nat} (hg0 : σ0 ≠ g) (hno : ∀ i, i < k → ¬ swr d (ρ i) g) {B : Nat} (hB : ∀ i, i < e → s i < B → i < k) : ∀ j, j ≤ B → ¬ PT d σ0 j g := by
  intro j hj hp
  cases j with
  | zero => exact hg0 (PT_0.mp hp).symm
  | succ j =>
    obtain ⟨ρ', g1, g2, g3⟩ := PT_s.mp hp
    have hr : ρ' = σ0 ∨ T ρ' := by
      rcases g2 with g | g
      · subst g; exact Or.inl (PT_0.mp g1)
      · exact Or.inr (hT _ g)
    obtain ⟨i, hi, e1, e2⟩ := QI_all h hT hB j ρ' (by omega) g1 hr
    exact hno i (hB i hi (by omega)) (by rw [e1]; exact g3)
def qup {α : Type} (f : Nat → α) (e : Nat) (x : α) : Nat → α := fun i => if i = e then x else f i
theorem qup_s {α : Type} {f : Nat → α} {e : Nat} {x : α} : qup f e x e = x := if_pos rfl
theorem qup_o {α : Type} {f : Nat → α} {e i : Nat} {x : α} (h : i < e) : qup f e x i = f i := if_neg (by omega)
def EXt (e : Nat) (ρ : Nat → Nat → Nat) (s : Nat → Nat) (e' : Nat) (ρ' : Nat → Nat → Nat) (s' : Nat → Nat) : Prop := e ≤ e' ∧ ∀ i, i < e → ρ' i = ρ i ∧ s' i = s i
theorem EXt_rf {e : Nat} {ρ : Nat → Nat → Nat} {s : Nat → Nat} : EXt e ρ s e ρ s := ⟨Nat.le_refl _, fun _ _ => ⟨rfl, rfl⟩⟩
theorem EXt_tr {e e' e2 : Nat} {ρ ρ' ρ2 : Nat → Nat → Nat} {s s' s2 : Nat → Nat} (h : EXt e ρ s e' ρ' s') (g : EXt e' ρ' s' e2 ρ2 s2) : EXt e ρ s e2 ρ2 s2 := by
  obtain ⟨h1, h2⟩ := h
  obtain ⟨g1, g2⟩ := g
  exact ⟨by omega, fun i hi => ⟨(g2 i (by omega)).1.trans (h2 i hi).1, (g2 i (by omega)).2.trans (h2 i hi).2⟩⟩
def HDs (t e : Nat) (ρ : Nat → Nat → Nat) (s : Nat → Nat) (τ : Nat → Nat) : Prop := ∃ j, j < e ∧ ρ j = τ ∧ s j ≤ t + 1
theorem HDs_ext {t e e' : Nat} {ρ ρ' : Nat → Nat → Nat} {s s' : Nat → Nat} {τ : Nat → Nat} (h : HDs t e ρ s τ) (hx : EXt e ρ s e' ρ' s') : HDs t e' ρ' s' τ := by
  obtain ⟨j, h1, h2, h3⟩ := h
  obtain ⟨g1, g2⟩ := hx
  exact ⟨j, by omega, by rw [(g2 j h1).1]; exact h2, by rw [(g2 j h1).2]; exact h3⟩
/-- while the k-th (it is κ, by t swaps) is looked at -/
def XQ (d : PD) (σ0 : Nat → Nat) (T : (Nat → Nat) → Prop) (k : Nat) (κ : Nat → Nat) (t e : Nat) (ρ : Nat → Nat → Nat) (s : Nat → Nat) : Prop := QI d σ0 T k e ρ s ∧ k < e ∧ ρ k = κ ∧ s k = t ∧ ∀ i, i < e → s i ≤ t + 1
theorem XQ_add {d : PD} {σ0 : Nat → Nat} {T : (Nat → Nat) → Prop} {k : Nat} {κ : Nat → Nat} {t e : Nat} {ρ : Nat → Nat → Nat} {s : Nat → Nat} (h : XQ d σ0 T k κ t e ρ s) (hk : k = 0 ∨ lawS d κ) {τ : Nat → Nat} (hst : ST d τ) (hs : swr d κ τ) (hT : T τ) : XQ d σ0 T k κ t (e + 1) (qup ρ e τ) (qup s e (t + 1)) ∧ EXt e ρ s (e + 1) (qup ρ e τ) (qup s e (t + 1)) ∧ HDs t (e + 1) (qup ρ e τ) (qup s e (t + 1)) τ := by
  obtain ⟨⟨h1, h2, h3, h4, h5, h6⟩, hke, e1, e2, hb⟩ := h
  have hk4 := h4 k hke
  rw [e1, e2] at hk4
  refine ⟨⟨⟨by omega, by rw [qup_o (by omega)]; exact h2, by rw [qup_o (by omega)]; exact h3, fun i hi => ?_, fun i j hij hj => ?_, fun i hi τ' g1 g2 => ?_⟩, by omega, by rw [qup_o hke]; exact e1, by rw [qup_o hke]; exact e2, fun i hi => ?_⟩, ⟨by omega, fun i hi => ⟨qup_o hi, qup_o hi⟩⟩, ⟨e, by omega, qup_s, by rw [qup_s]; omega⟩⟩
  · by_cases q : i = e
    · rw [q, qup_s, qup_s]
      refine ⟨hst, PT_s.mpr ⟨κ, hk4.2.1, ?_, hs⟩, by omega, fun _ => ⟨hT, by omega⟩⟩
      rcases hk with g | g
      · left; rw [g, h3] at e2; exact e2.symm
      · exact Or.inr g
    · rw [qup_o (by omega), qup_o (by omega)]; exact h4 i (by omega)
  · by_cases q : j = e
    · rw [q, qup_s]
      by_cases q2 : i = e
      · rw [q2, qup_s]; omega
      · rw [qup_o (by omega)]; exact hb i (by omega)
    · rw [qup_o (show i < e by omega), qup_o (show j < e by omega)]; exact h5 i j hij (by omega)
  · rw [qup_o (show i < e by omega)] at g1
    obtain ⟨j, a1, a2, a3⟩ := h6 i hi τ' g1 g2
    exact ⟨j, by omega, by rw [qup_o a1]; exact a2, by rw [qup_o a1, qup_o (show i < e by omega)]; exact a3⟩
  · by_cases q : i = e
    · rw [q, qup_s]; omega
    · rw [qup_o (by omega)]; exact hb i (by omega)
theorem XQ_done {d : PD} {σ0 : Nat → Nat} {T : (Nat → Nat) → Prop} {k : Nat} {κ : Nat → Nat} {t e : Nat} {ρ : Nat → Nat → Nat} {s : Nat → Nat} (h : XQ d σ0 T k κ t e ρ s) (hh : ∀ τ, swr d κ τ → T τ → HDs t e ρ s τ) : QI d σ0 T (k + 1) e ρ s ∧ ∀ i, i < e → s i ≤ s (k + 1 - 1) + 1 := by
  obtain ⟨⟨h1, h2, h3, h4, h5, h6⟩, hke, e1, e2, hb⟩ := h
  refine ⟨⟨h1, h2, h3, h4, h5, fun i hi τ g1 g2 => ?_⟩, fun i hi => by rw [Nat.add_sub_cancel, e2]; exact hb i hi⟩
  by_cases q : i = k
  · rw [q, e1] at g1
    rw [q, e2]
    exact hh τ g1 g2
  · exact h6 i (by omega) τ g1 g2
theorem XQ_of {d : PD} {σ0 : Nat → Nat} {T : (Nat → Nat) → Prop} {k e : Nat} {ρ : Nat → Nat → Nat} {s : Nat → Nat} (h : QI d σ0 T k e ρ s) (hke : k < e) (hb : ∀ i, i < e → s i ≤ s (k - 1) + 1) : XQ d σ0 T k (ρ k) (s k) e ρ s := by
  refine ⟨h, hke, rfl, rfl, fun i hi => ?_⟩
  have h1 := hb i hi
  have h2 := h.2.2.2.2.1 (k - 1) k (by omega) hke
  omega
theorem QI_0 {d : PD} {σ0 : Nat → Nat} {T : (Nat → Nat) → Prop} (h : ST d σ0) : QI d σ0 T 0 1 (fun _ => σ0) (fun _ => 0) := ⟨by omega, rfl, rfl, fun i hi => ⟨h, PT_0.mpr rfl, Nat.zero_le _, fun g => absurd (show i = 0 by omega) g⟩, fun _ _ _ _ => Nat.le_refl _, fun i hi => absurd hi (Nat.not_lt_zero _)⟩
theorem cnt_new {p q : Nat → Bool} {r : Nat} (h1 : p r = false) (h2 : q r = true) (h3 : ∀ i, i ≠ r → q i = p i) : ∀ N, cnt q N = cnt p N + (if r < N then 1 else 0) := by
  intro N
  induction N with
  | zero => rw [if_neg (by omega)]; rfl
  | succ N ih =>
    have e1 : cnt q (N + 1) = cnt q N + (if q N = true then 1 else 0) := rfl
    have e2 : cnt p (N + 1) = cnt p N + (if p N = true then 1 else 0) := rfl
    rw [e1, e2, ih]
    by_cases h : N = r
    · subst h; rw [h1, h2, if_pos rfl, if_neg (by omega), if_neg (by decide), if_pos (by omega)]
    · rw [h3 N h]
      by_cases g : r < N
      · rw [if_pos g, if_pos (show r < N + 1 by omega)]; omega
      · rw [if_neg g, if_neg (show ¬ r < N + 1 by omega)]; omega
theorem cnt_none {p : Nat → Bool} : ∀ N, (∀ i, i < N → p i = false) → cnt p N = 0 := by
  intro N
  induction N with
  | zero => intro _; rfl
  | succ N ih =>
    intro h
    have e1 : cnt p (N + 1) = cnt p N + (if p N = true then 1 else 0) := rfl
    rw [e1, h N (by omega), if_neg (by decide), ih (fun i hi => h i (by omega))]
/-! ===== the class's search ===== -/
def CQ (d : PD) (N e : Nat) (ρ : Nat → Nat → Nat) (s : Nat → Nat) (queued : Int32) (queue swaps : Nat → Int32) : Prop :=
  queued = nI (e - 1) ∧ (∀ i, i + 1 < e → ∃ r, (lawL d)[r]? = some (ρ (i + 1)) ∧ queue i = nI r ∧ swaps r = nI (s (i + 1))) ∧ (∀ r, r < N → swaps r ≠ 0 → ∃ i, i + 1 < e ∧ (lawL d)[r]? = some (ρ (i + 1))) ∧ cnt (fun r => decide (swaps r ≠ 0)) N = e - 1
theorem enqX {d : PD} (hn : pdn d ≤ 7) {v : Nat → Int32} {N0 : Nat} (hL : LW d v N0) {N : Nat} (hN : (lawL d).length ≤ N) (hN2 : N ≤ 720) {σ0 κ : Nat → Nat} {k t e : Nat} {ρ : Nat → Nat → Nat} {s : Nat → Nat} (h : XQ d σ0 (lawS d) k κ t e ρ s) (hk : k = 0 ∨ lawS d κ) {queued : Int32} {queue swaps : Nat → Int32} (hc : CQ d N e ρ s queued queue swaps) {τ : Nat → Nat} (hst : ST d τ) (hs : swr d κ τ) : ∃ r queued' queue' swaps' e' ρ' s', f_X2_rankOf (nI (pk τ)) (nI (lawL d).length) v N0 = some r ∧ f_X6_enqueue r (nI (t + 1)) queued queue N swaps N = some (queued', queue', swaps') ∧ EXt e ρ s e' ρ' s' ∧ XQ d σ0 (lawS d) k κ t e' ρ' s' ∧ CQ d N e' ρ' s' queued' queue' swaps' ∧ (lawS d τ → HDs t e' ρ' s' τ) := by
  rcases rankX hn hL hst with ⟨j, hj, er⟩ | ⟨hl, er⟩
  · have hjl := L_lt hj
    obtain ⟨c1, c2, c3, c4⟩ := id hc
    have hl : lawS d τ := (L_ST hj).2
    have he1 : 1 ≤ e := h.1.1
    have hcl := cnt_le (fun r => decide (swaps r ≠ 0)) N
    by_cases hz : swaps j = 0
    · have hte : t + 1 ≤ e := by
        have := (h.1.2.2.2.1 k h.2.1).2.2.1
        rw [h.2.2.2.1] at this
        have := h.2.1
        omega
      have hne : nI (t + 1) ≠ 0 := nI_ne0 (by omega) (by omega)
      have hcn := cnt_new (p := fun r => decide (swaps r ≠ 0)) (q := fun r => decide (upd swaps j (nI (t + 1)) r ≠ 0)) (r := j) (by simp [hz]) (by simp only [pk_us]; exact decide_eq_true hne) (fun i hi => by simp only [pk_un hi]) N
      rw [if_pos (show j < N by omega), c4] at hcn
      have hcl2 := cnt_le (fun r => decide (upd swaps j (nI (t + 1)) r ≠ 0)) N
      obtain ⟨x1, x2, x3⟩ := XQ_add h hk hst hs hl
      refine ⟨nI j, nI (e - 1 + 1), upd queue (e - 1) (nI j), upd swaps j (nI (t + 1)), e + 1, qup ρ e τ, qup s e (t + 1), er, ?_, x2, x1, ⟨?_, fun i hi => ?_, fun r hr g => ?_, ?_⟩, fun _ => x3⟩
      · unfold f_X6_enqueue
        rw [qs_f (nI_pos (by omega)), qs_lt, qs_f (nI_ge (show j < N by omega) (by omega))]
        simp (disch := omega) only [qs_cl, qg_in2]
        rw [qs_t hz, c1, qs_f (nI_pos (by omega)), qs_lt, qs_f (nI_ge (show e - 1 < N by omega) (by omega))]
        simp (disch := omega) only [qs_cl, qg_in2, qs_lt, nI_1]
      · exact congrArg nI (by omega)
      · by_cases q : i + 1 = e
        · have q' : i = e - 1 := by omega
          refine ⟨j, by rw [q, qup_s]; exact hj, by rw [q', pk_us], by rw [q, qup_s, pk_us]⟩
        · obtain ⟨r, a1, a2, a3⟩ := c2 i (by omega)
          have hsi := h.1.2.2.2.1 (i + 1) (by omega)
          have : r ≠ j := fun g => by
            rw [g, hz] at a3
            exact nI_ne0 (hsi.2.2.2 (by omega)).2 (by have := hsi.2.2.1; omega) a3.symm
          exact ⟨r, by rw [qup_o (by omega)]; exact a1, by rw [pk_un (by omega)]; exact a2, by rw [pk_un this, qup_o (by omega)]; exact a3⟩
      · by_cases q : r = j
        · refine ⟨e - 1, by omega, ?_⟩
          rw [show e - 1 + 1 = e by omega, qup_s, q]; exact hj
        · rw [pk_un q] at g
          obtain ⟨i, a1, a2⟩ := c3 r hr g
          exact ⟨i, by omega, by rw [qup_o a1]; exact a2⟩
      · rw [hcn]; omega
    · refine ⟨nI j, queued, queue, swaps, e, ρ, s, er, ?_, EXt_rf, h, hc, fun _ => ?_⟩
      · unfold f_X6_enqueue
        rw [qs_f (nI_pos (by omega)), qs_lt, qs_f (nI_ge (show j < N by omega) (by omega))]
        simp (disch := omega) only [qs_cl, qg_in2]
        rw [qs_f hz]
      · obtain ⟨i, hi, g⟩ := c3 j (by omega) hz
        rw [hj] at g
        exact ⟨i + 1, hi, (Option.some.inj g).symm, h.2.2.2.2 (i + 1) hi⟩
  · refine ⟨-9, queued, queue, swaps, e, ρ, s, er, ?_, EXt_rf, h, hc, fun g => absurd g hl⟩
    unfold f_X6_enqueue
    rw [qs_t (by decide)]
theorem pk_ne {d : PD} (hn : pdn d ≤ 7) {σ τ : Nat → Nat} (h1 : ST d σ) (h2 : ST d τ) (h : σ ≠ τ) : ¬ nI (pk σ) = nI (pk τ) := fun g => h (by
  have p1 := pk31 hn h1
  have p2 := pk31 hn h2
  have g2 := (nI_eq (by omega) (by omega)).mp g
  exact ST_ext h1 h2 (fun c hc => pk_inj (ST_lt8 hn h1) (ST_lt8 hn h2) g2 (by omega)))
theorem rch_in {d : PD} (hn : pdn d ≤ 7) {v : Nat → Int32} {N0 : Nat} (hL : LW d v N0) {N : Nat} (hN : (lawL d).length ≤ N) (hN2 : N ≤ 720) {σ0 κ g : Nat → Nat} (hκ : ST d κ) (hg : ST d g) {k t : Nat} (hk : k = 0 ∨ lawS d κ) {a : Nat} (ha : a < pdn d) : ∀ (m b e : Nat) (ρ : Nat → Nat → Nat) (s : Nat → Nat) (queued : Int32) (queue swaps : Nat → Int32), b ≤ a → a - b < m → XQ d σ0 (lawS d) k κ t e ρ s → CQ d N e ρ s queued queue swaps → (∀ b', b' < b → swp κ a b' ≠ g ∧ (lawS d (swp κ a b') → HDs t e ρ s (swp κ a b'))) →
    (∃ o1 o2 o3, lf_X6_reaches_19 (nI (pk κ)) (nI (pk g)) (nI (t + 1)) (nI a) N N (nI (lawL d).length) v N0 m (nI b) queued queue swaps = some (.inl (o1, o2, o3)) ∧ swr d κ g) ∨
    ∃ queued' queue' swaps' e' ρ' s', lf_X6_reaches_19 (nI (pk κ)) (nI (pk g)) (nI (t + 1)) (nI a) N N (nI (lawL d).length) v N0 m (nI b) queued queue swaps = some (.inr (queued', queue', swaps')) ∧ EXt e ρ s e' ρ' s' ∧ XQ d σ0 (lawS d) k κ t e' ρ' s' ∧ CQ d N e' ρ' s' queued' queue' swaps' ∧ ∀ b', b' < a → swp κ a b' ≠ g ∧ (lawS d (swp κ a b') → HDs t e' ρ' s' (swp κ a b')) := by
  intro m
  induction m with
  | zero => intro b e ρ s queued queue swaps h1 h2; omega
  | succ m ih =>
    intro b e ρ s queued queue swaps h1 h2 hX hC hd
    rw [lf_X6_reaches_19]
    by_cases hb : a ≤ b
    · have : b = a := by omega
      subst this
      rw [qs_t (nI_le hb (by omega))]
      exact Or.inr ⟨_, _, _, _, _, _, rfl, EXt_rf, hX, hC, hd⟩
    · have hb' : b < a := by omega
      have hsw : ST d (swp κ a b) := ST_swp hκ ha (by omega)
      rw [qs_f (nI_ge hb' (by omega)), qs_lt, exch (ST_lt8 hn hκ) (by omega) (by omega)]
      by_cases hgo : swp κ a b = g
      · rw [hgo, qs_nf rfl]
        exact Or.inl ⟨_, _, _, rfl, a, b, hb', ha, hgo.symm⟩
      · rw [qs_nt (pk_ne hn hsw hg hgo)]
        obtain ⟨r, queued', queue', swaps', e', ρ', s', e1, e2, x1, x2, x3, x4⟩ := enqX hn hL hN hN2 hX hk hC hsw ⟨a, b, hb', ha, rfl⟩
        rw [e1, qs_bd, qs_u1, e2, qs_bd, qs_u3, nI_1]
        rcases ih (b + 1) e' ρ' s' queued' queue' swaps' (by omega) (by omega) x2 x3 (fun b' hb2 => by
          by_cases q : b' = b
          · rw [q]; exact ⟨hgo, x4⟩
          · have := hd b' (by omega)
            exact ⟨this.1, fun g => HDs_ext (this.2 g) x1⟩) with g1 | ⟨q1, q2, q3, e2, ρ2, s2, y1, y2, y3⟩
        · exact Or.inl g1
        · exact Or.inr ⟨q1, q2, q3, e2, ρ2, s2, y1, EXt_tr x1 y2, y3⟩
theorem rch_out {d : PD} (hn : pdn d ≤ 6) {v : Nat → Int32} {N0 : Nat} (hL : LW d v N0) {N : Nat} (hN : (lawL d).length ≤ N) (hN2 : N ≤ 720) {σ0 κ g : Nat → Nat} (hκ : ST d κ) (hg : ST d g) {k t : Nat} (hk : k = 0 ∨ lawS d κ) : ∀ (m a e : Nat) (ρ : Nat → Nat → Nat) (s : Nat → Nat) (queued : Int32) (queue swaps : Nat → Int32), a ≤ 7 → pdn d - a < m → XQ d σ0 (lawS d) k κ t e ρ s → CQ d N e ρ s queued queue swaps → (∀ a' b', b' < a' → a' < a → a' < pdn d → swp κ a' b' ≠ g ∧ (lawS d (swp κ a' b') → HDs t e ρ s (swp κ a' b'))) →
    (∃ o1 o2 o3, lf_X6_reaches_3 (nI (pdn d)) (nI (pk κ)) (nI (pk g)) (nI (t + 1)) N N (nI (lawL d).length) v N0 m (nI a) queued queue swaps = some (.inl (o1, o2, o3)) ∧ swr d κ g) ∨
    ∃ queued' queue' swaps' e' ρ' s', lf_X6_reaches_3 (nI (pdn d)) (nI (pk κ)) (nI (pk g)) (nI (t + 1)) N N (nI (lawL d).length) v N0 m (nI a) queued queue swaps = some (.inr (queued', queue', swaps')) ∧ EXt e ρ s e' ρ' s' ∧ XQ d σ0 (lawS d) k κ t e' ρ' s' ∧ CQ d N e' ρ' s' queued' queue' swaps' ∧ ¬ swr d κ g ∧ ∀ τ, swr d κ τ → lawS d τ → HDs t e' ρ' s' τ := by
  intro m
  induction m with
  | zero => intro a e ρ s queued queue swaps h1 h2; omega
  | succ m ih =>
    intro a e ρ s queued queue swaps h1 h2 hX hC hd
    rw [lf_X6_reaches_3]
    by_cases ha : pdn d ≤ a
    · rw [qs_t (nI_le ha (by omega))]
      refine Or.inr ⟨_, _, _, _, _, _, rfl, EXt_rf, hX, hC, ?_, ?_⟩
      · rintro ⟨a', b', g1, g2, g3⟩
        exact (hd a' b' g1 (by omega) g2).1 g3.symm
      · rintro τ ⟨a', b', g1, g2, rfl⟩ hl
        exact (hd a' b' g1 (by omega) g2).2 hl
    · have ha' : a < pdn d := by omega
      rw [qs_f (nI_ge ha' (by omega)), qs_f (c := (7 : Int32) ≤ nI a) (nI_ge (b := 7) (by omega) (by omega))]
      rcases rch_in (by omega) hL hN hN2 hκ hg hk ha' pw_FU 0 e ρ s queued queue swaps (by omega) (by unfold pw_FU; omega) hX hC (fun b' h => absurd h (Nat.not_lt_zero _)) with ⟨o1, o2, o3, e1, e2⟩ | ⟨q1, q2, q3, e', ρ', s', e1, x1, x2, x3, x4⟩
      · have e1' : lf_X6_reaches_19 (nI (pk κ)) (nI (pk g)) (nI (t + 1)) (nI a) N N (nI (lawL d).length) v N0 pw_FU 0 queued queue swaps = some (.inl (o1, o2, o3)) := e1
        rw [e1', qs_bl, qs_u3]
        exact Or.inl ⟨_, _, _, rfl, e2⟩
      · have e1' : lf_X6_reaches_19 (nI (pk κ)) (nI (pk g)) (nI (t + 1)) (nI a) N N (nI (lawL d).length) v N0 pw_FU 0 queued queue swaps = some (.inr (q1, q2, q3)) := e1
        rw [e1', qs_br, qs_u3, nI_1]
        rcases ih (a + 1) e' ρ' s' q1 q2 q3 (by omega) (by omega) x2 x3 (fun a' b' g1 g2 g3 => by
          by_cases q : a' = a
          · subst q; exact x4 b' g1
          · have := hd a' b' g1 (by omega) g3
            exact ⟨this.1, fun g => HDs_ext (this.2 g) x1⟩) with g1 | ⟨q1, q2, q3, e2, ρ2, s2, y1, y2, y3⟩
        · exact Or.inl g1
        · exact Or.inr ⟨q1, q2, q3, e2, ρ2, s2, y1, EXt_tr x1 y2, y3⟩
theorem rchX {d : PD} (hn : pdn d ≤ 6) {v : Nat → Int32} {N0 : Nat} (hL : LW d v N0) {N : Nat} (hN : (lawL d).length ≤ N) (hN2 : N ≤ 720) {σ0 κ g : Nat → Nat} (hκ : ST d κ) (hg : ST d g) {k t e : Nat} (hk : k = 0 ∨ lawS d κ) {ρ : Nat → Nat → Nat} {s : Nat → Nat} {queued : Int32} {queue swaps : Nat → Int32} (hX : XQ d σ0 (lawS d) k κ t e ρ s) (hC : CQ d N e ρ s queued queue swaps) :
    (∃ o1 o2 o3, f_X6_reaches (nI (pdn d)) (nI (pk κ)) (nI (pk g)) (nI (t + 1)) queued queue N swaps N (nI (lawL d).length) v N0 = some (1, o1, o2, o3) ∧ swr d κ g) ∨
    ∃ queued' queue' swaps' e' ρ' s', f_X6_reaches (nI (pdn d)) (nI (pk κ)) (nI (pk g)) (nI (t + 1)) queued queue N swaps N (nI (lawL d).length) v N0 = some (0, queued', queue', swaps') ∧ EXt e ρ s e' ρ' s' ∧ QI d σ0 (lawS d) (k + 1) e' ρ' s' ∧ (∀ i, i < e' → s' i ≤ s' (k + 1 - 1) + 1) ∧ CQ d N e' ρ' s' queued' queue' swaps' ∧ ¬ swr d κ g := by
  unfold f_X6_reaches
  rcases rch_out hn hL hN hN2 hκ hg hk pw_FU 1 e ρ s queued queue swaps (by omega) (by unfold pw_FU; omega) hX hC (fun a' b' g1 g2 => by omega) with ⟨o1, o2, o3, e1, e2⟩ | ⟨q1, q2, q3, e', ρ', s', e1, x1, x2, x3, x4, x5⟩
  · have e1' : lf_X6_reaches_3 (nI (pdn d)) (nI (pk κ)) (nI (pk g)) (nI (t + 1)) N N (nI (lawL d).length) v N0 pw_FU 1 queued queue swaps = some (.inl (o1, o2, o3)) := e1
    rw [e1', qs_bl, qs_u3]
    exact Or.inl ⟨_, _, _, rfl, e2⟩
  · have e1' : lf_X6_reaches_3 (nI (pdn d)) (nI (pk κ)) (nI (pk g)) (nI (t + 1)) N N (nI (lawL d).length) v N0 pw_FU 1 queued queue swaps = some (.inr (q1, q2, q3)) := e1
    rw [e1', qs_br, qs_u3]
    obtain ⟨y1, y2⟩ := XQ_done x2 x5
    exact Or.inr ⟨_, _, _, _, _, _, rfl, x1, y1, y2, x3, x4⟩
theorem few_loop {d : PD} (hn : pdn d ≤ 6) {v : Nat → Int32} {N0 : Nat} (hL : LW d v N0) {N : Nat} (hN : (lawL d).length ≤ N) (hN2 : N ≤ 720) {σ0 g : Nat → Nat} (hg : ST d g) (hg0 : σ0 ≠ g) : ∀ (m k e : Nat) (ρ : Nat → Nat → Nat) (s : Nat → Nat) (queued : Int32) (queue swaps : Nat → Int32), k + 1 ≤ e → N + 1 - k < m → QI d σ0 (lawS d) (k + 1) e ρ s → (∀ i, i < e → s i ≤ s (k + 1 - 1) + 1) → CQ d N e ρ s queued queue swaps → (∀ i, i < k + 1 → ¬ swr d (ρ i) g) →
    (∃ r o1 o2 o3, lf_X6_fewestSwaps_34 (nI (pdn d)) (nI (pk g)) N N (nI (lawL d).length) v N0 m (nI k) queued queue swaps = some (.inl (r, o1, o2, o3)) ∧ ANS d σ0 g r) ∨
    ∃ o1 o2 o3, lf_X6_fewestSwaps_34 (nI (pdn d)) (nI (pk g)) N N (nI (lawL d).length) v N0 m (nI k) queued queue swaps = some (.inr (o1, o2, o3)) ∧ ANS d σ0 g (-9) := by
  intro m
  induction m with
  | zero => intro k e ρ s queued queue swaps h1 h2; omega
  | succ m ih =>
    intro k e ρ s queued queue swaps h1 h2 hQ hb hC hno
    obtain ⟨c1, c2, c3, c4⟩ := id hC
    have hcl := cnt_le (fun r => decide (swaps r ≠ 0)) N
    rw [lf_X6_fewestSwaps_34]
    by_cases hke : e ≤ k + 1
    · rw [c1, qs_t (nI_le (show e - 1 ≤ k by omega) (by omega))]
      exact Or.inr ⟨_, _, _, rfl, Or.inr ⟨rfl, fun j => QI_min hQ (fun _ h => h) hg0 hno (B := j) (fun i hi _ => by omega) j (Nat.le_refl _)⟩⟩
    · obtain ⟨r, a1, a2, a3⟩ := c2 k (by omega)
      have hr := L_lt a1
      have hk4 := hQ.2.2.2.1 (k + 1) (by omega)
      have ek : (1 : Int32) + nI (s (k + 1)) = nI (s (k + 1) + 1) := by
        show nI 1 + nI _ = _
        rw [nI_add]; exact congrArg nI (by omega)
      rw [c1, qs_f (nI_ge (show k < e - 1 by omega) (by omega)), qs_lt, qs_f (nI_ge (show k < N by omega) (by omega))]
      have es : f_X6_swapsTo (nI r) swaps N = some (nI (s (k + 1))) := by
        unfold f_X6_swapsTo
        rw [qs_f (nI_pos (by omega)), qs_lt, qs_f (nI_ge (show r < N by omega) (by omega))]
        simp (disch := omega) only [qs_cl, qg_in2, a3]
      simp (disch := omega) only [qs_cl, qg_in2, qs_lt, a2, es, qs_bd, qs_u1, ek, seatOf hL a1]
      have hX := XQ_of hQ (by omega) hb
      rcases rchX hn hL hN hN2 hk4.1 hg (Or.inr (L_ST a1).2) hX (c1 ▸ hC) with ⟨o1, o2, o3, e1, e2⟩ | ⟨q1, q2, q3, e', ρ', s', e1, x1, x2, x3, x4, x5⟩
      · rw [e1, qs_bd, qs_u4, qs_f (c := (1 : Int32) = 0) (by decide)]
        refine Or.inl ⟨_, _, _, _, rfl, Or.inl ⟨_, rfl, PT_s.mpr ⟨_, hk4.2.1, Or.inr (L_ST a1).2, e2⟩, fun j hj => QI_min hQ (fun _ h => h) hg0 hno (B := s (k + 1)) (fun i hi hlt => ?_) j (by omega)⟩⟩
        rcases Nat.lt_or_ge i (k + 1) with q | q
        · exact q
        · have := hQ.2.2.2.2.1 (k + 1) i q hi
          omega
      · rw [e1, qs_bd, qs_u4, qs_t (c := (0 : Int32) = 0) rfl, nI_1]
        exact ih (k + 1) e' ρ' s' q1 q2 q3 (by have := x1.1; omega) (by omega) x2 x3 x4 (fun i hi => by
          rw [(x1.2 i (by omega)).1]
          by_cases q : i = k + 1
          · rw [q]; exact x5
          · exact hno i (by omega))
theorem bgn_loop {N : Nat} (hN : N ≤ 720) : ∀ (m k : Nat) (a : Nat → Int32), k ≤ N → N - k < m → (∀ i, i < k → a i = 0) → ∃ r, lf_X6_begin_25 N m (nI k) a = some r ∧ ∀ i, i < N → r i = 0 := by
  intro m
  induction m with
  | zero => intro k a h1 h2; omega
  | succ m ih =>
    intro k a h1 h2 h3
    rw [lf_X6_begin_25, qs_lt]
    by_cases hk : N ≤ k
    · rw [qs_t (nI_le hk (by omega))]
      exact ⟨a, rfl, fun i hi => h3 i (by omega)⟩
    · rw [qs_f (nI_ge (show k < N by omega) (by omega))]
      simp (disch := omega) only [qs_cl, qg_in2, qs_lt, nI_1]
      exact ih (k + 1) _ (by omega) (by omega) (fun i hi => by
        by_cases q : i = k
        · rw [q, pk_us]
        · rw [pk_un q]; exact h3 i (by omega))
theorem len6 {d : PD} (hn : pdn d ≤ 6) : (lawL d).length ≤ 720 := by
  have h1 : (lawL d).length ≤ (allS d).length := List.length_filter_le _ _
  have h2 : (allS d).length ≤ fct (pdn d) := gen_len _ 0 _ (by omega) Pre_0
  have h3 : ∀ n, n ≤ 6 → fct n ≤ 720 := by decide
  have := h3 _ hn
  omega
theorem bgnX {d : PD} (hn : pdn d ≤ 6) {N1 : Nat} (h1 : 1 ≤ N1) (h2 : N1 ≤ 720) (queue swaps : Nat → Int32) : ∃ queue' swaps' N, f_X6_begin (nI (lawL d).length) queue N1 swaps N1 = some (0, queue', N, swaps', N) ∧ 1 ≤ N ∧ N ≤ 720 ∧ (lawL d).length ≤ N ∧ ∀ i, i < N → swaps' i = 0 := by
  have hl := len6 hn
  unfold f_X6_begin
  rw [qs_lt, qs_jn]
  by_cases hc : (lawL d).length ≤ N1
  · obtain ⟨r, e, hr⟩ := bgn_loop h2 pw_FU 0 swaps (by omega) (by unfold pw_FU; omega) (fun i hi => absurd hi (Nat.not_lt_zero _))
    have e' : lf_X6_begin_25 N1 pw_FU 0 swaps = some r := e
    rw [qs_t (nI_le hc (by omega))]
    simp only [e', qs_bd, qs_u1]
    exact ⟨_, _, _, rfl, h1, h2, hc, hr⟩
  · obtain ⟨r, e, hr⟩ := bgn_loop hl pw_FU 0 (fun _ => 0) (by omega) (by unfold pw_FU; omega) (fun i hi => absurd hi (Nat.not_lt_zero _))
    have e' : lf_X6_begin_25 (lawL d).length pw_FU 0 (fun _ => 0) = some r := e
    have hg : ¬ nI (lawL d).length < 0 ∧ Int32.toNatClampNeg (nI (lawL d).length) ≤ 720 := ⟨nI_pos (by omega), by rw [qs_cl (by omega)]; exact hl⟩
    rw [qs_f (nI_ge (show N1 < (lawL d).length by omega) (by omega)), qs_g hg, qs_g hg, qs_cl (by omega)]
    simp only [e', qs_bd, qs_u1]
    exact ⟨_, _, _, rfl, by omega, hl, Nat.le_refl _, hr⟩
theorem fewX {d : PD} (hn : pdn d ≤ 6) {v : Nat → Int32} {N0 : Nat} (hL : LW d v N0) {σ0 g : Nat → Nat} (hs : ST d σ0) (hg : ST d g) {N1 : Nat} (h1 : 1 ≤ N1) (h2 : N1 ≤ 720) (queued : Int32) (queue swaps : Nat → Int32) : ∃ r q qv n sv, f_X6_fewestSwaps (nI (pdn d)) (nI (pk σ0)) (nI (pk g)) queued queue N1 swaps N1 (nI (lawL d).length) v N0 = some (r, q, qv, n, sv, n) ∧ 1 ≤ n ∧ n ≤ 720 ∧ ANS d σ0 g r := by
  unfold f_X6_fewestSwaps
  by_cases hgo : σ0 = g
  · subst hgo
    rw [qs_nf rfl]
    exact ⟨_, _, _, _, _, rfl, h1, h2, Or.inl ⟨0, rfl, PT_0.mpr rfl, fun j hj => absurd hj (Nat.not_lt_zero _)⟩⟩
  · rw [qs_nt (pk_ne (by omega) hs hg hgo)]
    obtain ⟨q', w', N, e, n1, n2, n3, n4⟩ := bgnX hn h1 h2 queue swaps
    rw [e, qs_bd, qs_u5]
    have hX : XQ d σ0 (lawS d) 0 σ0 0 1 (fun _ => σ0) (fun _ => 0) := ⟨QI_0 hs, by omega, rfl, rfl, fun i hi => Nat.zero_le _⟩
    have hC : CQ d N 1 (fun _ => σ0) (fun _ => 0) 0 q' w' := ⟨rfl, fun i hi => by omega, fun r hr g => absurd (n4 r hr) g, cnt_none N (fun i hi => by simp [n4 i hi])⟩
    rcases rchX hn hL n3 n2 hs hg (Or.inl rfl) hX hC with ⟨o1, o2, o3, e1, e2⟩ | ⟨q1, q2, q3, e', ρ', s', e1, x1, x2, x3, x4, x5⟩
    · have e1' : f_X6_reaches (nI (pdn d)) (nI (pk σ0)) (nI (pk g)) 1 0 q' N w' N (nI (lawL d).length) v N0 = some (1, o1, o2, o3) := e1
      rw [e1', qs_bd, qs_u4, qs_f (c := (1 : Int32) = 0) (by decide)]
      refine ⟨_, _, _, _, _, rfl, n1, n2, Or.inl ⟨1, rfl, PT_s.mpr ⟨σ0, PT_0.mpr rfl, Or.inl rfl, e2⟩, fun j hj hp => ?_⟩⟩
      have : j = 0 := by omega
      subst this
      exact hgo (PT_0.mp hp).symm
    · have e1' : f_X6_reaches (nI (pdn d)) (nI (pk σ0)) (nI (pk g)) 1 0 q' N w' N (nI (lawL d).length) v N0 = some (0, q1, q2, q3) := e1
      rw [e1', qs_bd, qs_u4, qs_t (c := (0 : Int32) = 0) rfl]
      have hr0 : ρ' 0 = σ0 := x2.2.1
      rcases few_loop hn hL n3 n2 hg hgo pw_FU 0 e' ρ' s' q1 q2 q3 (by have := x2.1; omega) (by unfold pw_FU; omega) x2 x3 x4 (fun i hi => by
        have : i = 0 := by omega
        rw [this, hr0]; exact x5) with ⟨r, o1, o2, o3, y1, y2⟩ | ⟨o1, o2, o3, y1, y2⟩
      · have y1' : lf_X6_fewestSwaps_34 (nI (pdn d)) (nI (pk g)) N N (nI (lawL d).length) v N0 pw_FU 0 q1 q2 q3 = some (.inl (r, o1, o2, o3)) := y1
        rw [y1', qs_bl, qs_u4]
        exact ⟨_, _, _, _, _, rfl, n1, n2, y2⟩
      · have y1' : lf_X6_fewestSwaps_34 (nI (pdn d)) (nI (pk g)) N N (nI (lawL d).length) v N0 pw_FU 0 q1 q2 q3 = some (.inr (o1, o2, o3)) := y1
        rw [y1', qs_br, qs_u3]
        exact ⟨_, _, _, _, _, rfl, n1, n2, y2⟩
