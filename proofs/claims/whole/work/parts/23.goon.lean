/-! ===== the next seating ===== -/
theorem fdiff {n : Nat} {σ τ : Nat → Nat} : (∀ c, c < n → σ c = τ c) ∨ ∃ k, k < n ∧ σ k ≠ τ k ∧ ∀ e, e < k → σ e = τ e := by
  induction n with
  | zero => exact Or.inl (fun c hc => absurd hc (Nat.not_lt_zero _))
  | succ n ih =>
    rcases ih with h | ⟨k, h1, h2, h3⟩
    · by_cases hn : σ n = τ n
      · exact Or.inl (fun c hc => by
          by_cases hcn : c = n
          · rw [hcn, hn]
          · exact h c (by omega))
      · exact Or.inr ⟨n, by omega, hn, h⟩
    · exact Or.inr ⟨k, by omega, h2, h3⟩
theorem ST_ext {d : PD} {σ τ : Nat → Nat} (h1 : ST d σ) (h2 : ST d τ) (h : ∀ c, c < pdn d → σ c = τ c) : σ = τ := by
  funext c
  rcases Nat.lt_or_ge c (pdn d) with g | g
  · exact h c g
  · rw [h1.1 c g, h2.1 c g]
/-- what stands where they first differ stood later in the other -/
theorem later {d : PD} {τ ρ : Nat → Nat} (h1 : ST d τ) (h2 : ST d ρ) {k : Nat} (hk : k < pdn d) (ha : ∀ e, e < k → ρ e = τ e) : ∃ e, k ≤ e ∧ e < pdn d ∧ ρ k = τ e := by
  obtain ⟨e, he, g⟩ := ST_onto h1 (h2.2.1 k hk)
  refine ⟨e, ?_, he, g.symm⟩
  rcases Nat.lt_or_ge e k with q | q
  · have := h2.2.2 e k he hk ((ha e q).trans g)
    omega
  · exact q
theorem cmp_desc {d : PD} (hn : pdn d ≤ 7) {τ ρ : Nat → Nat} (h1 : ST d τ) (h2 : ST d ρ) {k0 : Nat} (hd : ∀ a b, k0 ≤ a → a < b → b < pdn d → τ b < τ a) (ha : ∀ e, e < k0 → e < pdn d → ρ e = τ e) : pk ρ ≤ pk τ := by
  rcases fdiff (n := pdn d) (σ := ρ) (τ := τ) with h | ⟨k, hk, hne, hag⟩
  · rw [ST_ext h2 h1 h]; exact Nat.le_refl _
  · obtain ⟨e, e1, e2, e3⟩ := later h1 h2 hk hag
    have hk0 : k0 ≤ k := by
      rcases Nat.lt_or_ge k k0 with q | q
      · exact absurd (ha k q hk) hne
      · exact q
    have : ρ k < τ k := by
      by_cases hek : e = k
      · rw [hek] at e3; exact absurd e3 hne
      · rw [e3]; exact hd k e hk0 (by omega) e2
    exact Nat.le_of_lt (pk_lex (ST_lt8 hn h2) (ST_lt8 hn h1) (by omega) hag this)
theorem cmp_asc {d : PD} (hn : pdn d ≤ 7) {τ ρ : Nat → Nat} (h1 : ST d τ) (h2 : ST d ρ) {k0 : Nat} (hd : ∀ a b, k0 ≤ a → a < b → b < pdn d → τ a < τ b) (ha : ∀ e, e < k0 → e < pdn d → ρ e = τ e) : pk τ ≤ pk ρ := by
  rcases fdiff (n := pdn d) (σ := ρ) (τ := τ) with h | ⟨k, hk, hne, hag⟩
  · rw [ST_ext h2 h1 h]; exact Nat.le_refl _
  · obtain ⟨e, e1, e2, e3⟩ := later h1 h2 hk hag
    have hk0 : k0 ≤ k := by
      rcases Nat.lt_or_ge k k0 with q | q
      · exact absurd (ha k q hk) hne
      · exact q
    have : τ k < ρ k := by
      by_cases hek : e = k
      · rw [hek] at e3; exact absurd e3 hne
      · rw [e3]; exact hd k e hk0 (by omega) e2
    exact Nat.le_of_lt (pk_lex (ST_lt8 hn h1) (ST_lt8 hn h2) (by omega) (fun e he => (hag e he).symm) this)
theorem desc_of {n k0 : Nat} {τ : Nat → Nat} (h : ∀ e, k0 ≤ e → e + 1 < n → τ (e + 1) < τ e) : ∀ a b, k0 ≤ a → a < b → b < n → τ b < τ a := by
  intro a b
  induction b with
  | zero => intro _ h; omega
  | succ b ih =>
    intro h1 h2 h3
    have := h b (by omega) h3
    by_cases hab : a = b
    · subst hab; exact this
    · exact Nat.lt_trans this (ih h1 (by omega) (by omega))
/-- the suffix behind i, turned round -/
def rev (n i : Nat) (σ : Nat → Nat) : Nat → Nat := fun e => if i < e ∧ e < n then σ (n + i - e) else σ e
theorem rev_ST {d : PD} {σ : Nat → Nat} (h : ST d σ) {i : Nat} (hi : i < pdn d) : ST d (rev (pdn d) i σ) := by
  refine ⟨fun c hc => ?_, fun c hc => ?_, fun a b ha hb g => ?_⟩
  · unfold rev; rw [if_neg (by omega)]; exact h.1 c hc
  · unfold rev
    split
    · exact h.2.1 _ (by omega)
    · exact h.2.1 c hc
  · unfold rev at g
    by_cases h1 : i < a <;> by_cases h2 : i < b
    · rw [if_pos ⟨h1, ha⟩, if_pos ⟨h2, hb⟩] at g
      have := h.2.2 _ _ (by omega) (by omega) g
      omega
    · rw [if_pos ⟨h1, ha⟩, if_neg (by omega)] at g
      have := h.2.2 _ _ (by omega) hb g
      omega
    · rw [if_neg (by omega), if_pos ⟨h2, hb⟩] at g
      have := h.2.2 _ _ ha (by omega) g
      omega
    · rw [if_neg (by omega), if_neg (by omega)] at g
      exact h.2.2 _ _ ha hb g
/-- what goOn makes of it -/
def nxt (n i l : Nat) (σ : Nat → Nat) : Nat → Nat := rev n i (swp σ i l)
theorem nxt_is {d : PD} (hn : pdn d ≤ 7) {τ : Nat → Nat} (hst : ST d τ) {i l : Nat} (hil : i < l) (hl : l < pdn d) (hup : τ i < τ l) (hd : ∀ a b, i + 1 ≤ a → a < b → b < pdn d → τ b < τ a) (hlast : ∀ e, l < e → e < pdn d → τ e < τ i) : ST d (nxt (pdn d) i l τ) ∧ pk τ < pk (nxt (pdn d) i l τ) ∧ ∀ ρ, ST d ρ → pk τ < pk ρ → pk (nxt (pdn d) i l τ) ≤ pk ρ := by
  have hst1 := ST_swp hst (a := i) (b := l) (by omega) hl
  have hst2 : ST d (nxt (pdn d) i l τ) := rev_ST hst1 (by omega)
  have ei : nxt (pdn d) i l τ i = τ l := by
    unfold nxt rev; rw [if_neg (by omega), swp_at, if_neg (by omega), if_pos rfl]
  have eb : ∀ e, e < i → nxt (pdn d) i l τ e = τ e := fun e he => by
    unfold nxt rev; rw [if_neg (by omega), swp_at, if_neg (by omega), if_neg (by omega)]
  have hasc : ∀ a b, i + 1 ≤ a → a < b → b < pdn d → nxt (pdn d) i l τ a < nxt (pdn d) i l τ b := by
    intro a b h1 h2 h3
    unfold nxt rev
    rw [if_pos (by omega), if_pos (by omega), swp_at, swp_at]
    by_cases q1 : pdn d + i - a = l
    · rw [if_pos q1]
      rw [if_neg (by omega), if_neg (by omega)]
      have := hd (pdn d + i - b) l (by omega) (by omega) hl
      omega
    · rw [if_neg q1, if_neg (by omega)]
      by_cases q2 : pdn d + i - b = l
      · rw [if_pos q2]
        exact hlast _ (by omega) (by omega)
      · rw [if_neg q2, if_neg (by omega)]
        exact hd _ _ (by omega) (by omega) (by omega)
  refine ⟨hst2, pk_lex (ST_lt8 hn hst) (ST_lt8 hn hst2) (k := i) (by omega) (fun e he => (eb e he).symm) (by rw [ei]; exact hup), fun ρ hr hlt => ?_⟩
  rcases fdiff (n := pdn d) (σ := ρ) (τ := τ) with h | ⟨k, hk, hne, hag⟩
  · rw [ST_ext hr hst h] at hlt; omega
  · have hki : k ≤ i := by
      rcases Nat.lt_or_ge i k with q | q
      · have := cmp_desc hn hst hr hd (fun e he hen => hag e (by omega))
        omega
      · exact q
    have hgt : τ k < ρ k := by
      rcases Nat.lt_or_ge (τ k) (ρ k) with q | q
      · exact q
      · have := pk_lex (ST_lt8 hn hr) (ST_lt8 hn hst) (k := k) (by omega) hag (by omega)
        omega
    by_cases hk2 : k = i
    · subst hk2
      obtain ⟨e, e1, e2, e3⟩ := later hst hr hk hag
      have hel : e ≤ l := by
        rcases Nat.lt_or_ge l e with q | q
        · have := hlast e q e2; omega
        · exact q
      have hek : e ≠ k := fun g => by rw [g] at e3; omega
      have hge : τ l ≤ ρ k := by
        rw [e3]
        by_cases q : e = l
        · rw [q]; exact Nat.le_refl _
        · exact Nat.le_of_lt (hd e l (by omega) (by omega) hl)
      by_cases heq : ρ k = τ l
      · exact cmp_asc hn hst2 hr hasc (fun e he hen => by
          by_cases q : e = k
          · rw [q, ei, heq]
          · rw [eb e (by omega)]; exact hag e (by omega))
      · exact Nat.le_of_lt (pk_lex (ST_lt8 hn hst2) (ST_lt8 hn hr) (k := k) (by omega) (fun e he => by rw [eb e he, hag e he]) (by rw [ei]; omega))
    · exact Nat.le_of_lt (pk_lex (ST_lt8 hn hst2) (ST_lt8 hn hr) (k := k) (by omega) (fun e he => by rw [eb e (by omega), hag e he]) (by rw [eb k (by omega)]; exact hgt))
/-! the model's goOn -/
theorem go7 {d : PD} (hn : pdn d ≤ 7) {τ : Nat → Nat} (hst : ST d τ) {perm : Nat → Int32} (hrow : RowM d τ perm) : ∀ (m j : Nat), j < pdn d → j < m → (∀ e, j ≤ e → e + 1 < pdn d → τ (e + 1) < τ e) → (∃ i, i + 1 ≤ j ∧ lf_X11_goOn_7 perm m (nI j - 1) = some (nI i) ∧ τ i < τ (i + 1) ∧ ∀ e, i + 1 ≤ e → e + 1 < pdn d → τ (e + 1) < τ e) ∨ (lf_X11_goOn_7 perm m (nI j - 1) = some (-1) ∧ ∀ e, e + 1 < pdn d → τ (e + 1) < τ e) := by
  intro m
  induction m with
  | zero => intro j h1 h2; omega
  | succ m ih =>
    intro j h1 h2 hd
    rw [lf_X11_goOn_7]
    cases j with
    | zero =>
      have h0 : nI 0 - 1 < 0 := by decide
      rw [qs_t h0]
      exact Or.inr ⟨by decide, fun e he => hd e (by omega) he⟩
    | succ j =>
      have hs1 := hst.2.1 j (by omega)
      have hs2 := hst.2.1 (j + 1) (by omega)
      rw [nI_dn, nI_pred, qs_f (nI_pos (by omega)), nI_1]
      simp (disch := omega) only [qs_cl, qg_in2, hrow j (by omega), hrow (j + 1) (by omega)]
      by_cases hlt : τ j ≤ τ (j + 1)
      · rw [qs_t (nI_le hlt (by omega))]
        have hne : τ j ≠ τ (j + 1) := fun g => by have := hst.2.2 j (j + 1) (by omega) (by omega) g; omega
        exact Or.inl ⟨j, by omega, rfl, by omega, hd⟩
      · rw [qs_f (nI_ge (by omega) (by omega))]
        rcases ih j (by omega) (by omega) (fun e he1 he2 => by
          by_cases q : e = j
          · rw [q]; omega
          · exact hd e (by omega) he2) with ⟨i, g1, g2, g3, g4⟩ | ⟨g1, g2⟩
        · exact Or.inl ⟨i, by omega, g2, g3, g4⟩
        · exact Or.inr ⟨g1, g2⟩
theorem go47 {d : PD} (hn : pdn d ≤ 7) {τ : Nat → Nat} (hst : ST d τ) {perm : Nat → Int32} (hrow : RowM d τ perm) {i : Nat} (hi : i + 1 < pdn d) (hup : τ i < τ (i + 1)) : ∀ (m j : Nat), i + 1 ≤ j → j < pdn d → j < m → (∀ e, j < e → e < pdn d → τ e < τ i) → ∃ l, i < l ∧ l < pdn d ∧ lf_X11_goOn_47 (nI i) perm m (nI j) = some (nI l) ∧ τ i < τ l ∧ ∀ e, l < e → e < pdn d → τ e < τ i := by
  intro m
  induction m with
  | zero => intro j h0 h1 h2; omega
  | succ m ih =>
    intro j h0 h1 h2 hd
    rw [lf_X11_goOn_47]
    have hs1 := hst.2.1 i (by omega)
    have hs2 := hst.2.1 j h1
    simp (disch := omega) only [qs_cl, qg_in2, hrow i (by omega), hrow j h1]
    by_cases hlt : τ i ≤ τ j
    · rw [qs_t (nI_le hlt (by omega))]
      have hne : τ i ≠ τ j := fun g => by have := hst.2.2 i j (by omega) (by omega) g; omega
      exact ⟨j, by omega, h1, rfl, by omega, hd⟩
    · rw [qs_f (nI_ge (by omega) (by omega))]
      have hji : j ≠ i + 1 := fun g => by rw [g] at hlt; omega
      have ej : nI j + (-1) = nI (j - 1) := by rw [← Int32.sub_eq_add_neg]; exact nI_sub1 (by omega)
      rw [ej]
      exact ih (j - 1) (by omega) (by omega) (by omega) (fun e he1 he2 => by
        by_cases q : e = j
        · rw [q]; omega
        · exact hd e (by omega) he2)
/-- turned round as far as a pairs -/
def revA (n i a : Nat) (σ : Nat → Nat) : Nat → Nat := fun e => if (i < e ∧ e < i + 1 + a) ∨ (n ≤ e + a ∧ e < n) then σ (n + i - e) else σ e
theorem go97 {d : PD} (hn : pdn d ≤ 7) {σ : Nat → Nat} {i : Nat} (hi : i < pdn d) : ∀ (m a : Nat) (perm : Nat → Int32), i + a ≤ pdn d → 2 * a ≤ pdn d - 1 - i → pdn d - a < m → (∀ c, c < pdn d → perm c = nI (revA (pdn d) i a σ c)) → ∃ perm', lf_X11_goOn_97 (nI i) (nI (pdn d)) m (nI a) perm = some perm' ∧ ∀ c, c < pdn d → perm' c = nI (rev (pdn d) i σ c) := by
  intro m
  induction m with
  | zero => intro a perm h1 h2 h3; omega
  | succ m ih =>
    intro a perm h1 h2 h3 hp
    rw [lf_X11_goOn_97]
    have e1 : nI (pdn d) - 1 - nI a = nI (pdn d - 1 - a) := by
      rw [nI_sub1 (by omega), pk_sub (by omega)]
    have e2 : nI i + 1 + nI a = nI (i + 1 + a) := by rw [nI_1, nI_add]
    rw [e1, e2]
    by_cases hk : pdn d - 1 - a ≤ i + 1 + a
    · rw [qs_t (nI_le hk (by omega))]
      refine ⟨perm, rfl, fun c hc => ?_⟩
      rw [hp c hc]
      congr 1
      unfold revA rev
      by_cases q : i < c
      · rw [if_pos (c := i < c ∧ c < pdn d) ⟨q, hc⟩]
        by_cases q2 : (i < c ∧ c < i + 1 + a) ∨ (pdn d ≤ c + a ∧ c < pdn d)
        · rw [if_pos q2]
        · rw [if_neg q2]
          congr 1
          omega
      · rw [if_neg (by omega), if_neg (by omega)]
    · rw [qs_f (nI_ge (by omega) (by omega))]
      simp (disch := omega) only [qs_cl, qg_in2, qs_lt, nI_1]
      rw [hp _ (show i + 1 + a < pdn d by omega), hp _ (show pdn d - 1 - a < pdn d by omega)]
      refine ih (a + 1) _ (by omega) (by omega) (by omega) (fun c hc => ?_)
      by_cases q1 : c = pdn d - 1 - a
      · rw [q1, pk_us]
        congr 1
        unfold revA
        rw [if_neg (by omega), if_pos (by omega)]
        congr 1; omega
      · rw [pk_un q1]
        by_cases q2 : c = i + 1 + a
        · rw [q2, pk_us]
          congr 1
          unfold revA
          rw [if_neg (by omega), if_pos (by omega)]
          congr 1; omega
        · rw [pk_un q2, hp c hc]
          congr 1
          unfold revA
          by_cases q3 : (i < c ∧ c < i + 1 + a) ∨ (pdn d ≤ c + a ∧ c < pdn d)
          · rw [if_pos q3, if_pos (by omega)]
          · rw [if_neg q3, if_neg (by omega)]
theorem rev_0 {n i : Nat} {σ : Nat → Nat} : revA n i 0 σ = σ := by
  funext e; unfold revA; rw [if_neg (by omega)]
theorem goOn_eq {d : PD} (hn : pdn d ≤ 7) {τ : Nat → Nat} (hst : ST d τ) {perm : Nat → Int32} (hrow : RowM d τ perm) : (f_X11_goOn (nI (pdn d)) perm = some (0, perm) ∧ ∀ ρ, ST d ρ → pk ρ ≤ pk τ) ∨ ∃ perm' τ', f_X11_goOn (nI (pdn d)) perm = some (1, perm') ∧ RowM d τ' perm' ∧ ST d τ' ∧ pk τ < pk τ' ∧ ∀ ρ, ST d ρ → pk τ < pk ρ → pk τ' ≤ pk ρ := by
  unfold f_X11_goOn
  rw [qs_lt]
  rcases Nat.eq_zero_or_pos (pdn d) with h0 | hpos
  · refine Or.inl ⟨?_, fun ρ hr => ?_⟩
    · rw [h0]
      have e : lf_X11_goOn_7 perm pw_FU (nI 0 - 2) = some (nI 0 - 2) := by
        unfold pw_FU; rw [lf_X11_goOn_7, qs_t (by decide)]
      rw [e, qs_bd, qs_u1, qs_f (by decide)]
    · rw [ST_ext hr hst (fun c hc => by omega)]; exact Nat.le_refl _
  · have e2 : nI (pdn d) - 2 = nI (pdn d - 1) - 1 := by
      obtain ⟨k, hk⟩ : ∃ k, pdn d = k + 1 := ⟨pdn d - 1, by omega⟩
      rw [hk]
      rcases Nat.eq_zero_or_pos k with h | h
      · subst h; decide
      · show nI (k + 1) - nI 2 = _
        rw [pk_sub (by omega), show k + 1 - 1 = k by omega, nI_sub1 (by omega)]
        congr 1
    rw [e2]
    rcases go7 hn hst hrow pw_FU (pdn d - 1) (by omega) (by unfold pw_FU; omega) (fun e _ _ => by omega) with ⟨i, i1, e7, hup, hd⟩ | ⟨e7, hd⟩
    · right
      obtain ⟨l, l1, l2, e47, l3, l4⟩ := go47 hn hst hrow (i := i) (by omega) hup pw_FU (pdn d - 1) (by omega) (by omega) (by unfold pw_FU; omega) (fun e _ _ => by omega)
      have hs1 := hst.2.1 i (by omega)
      have hs2 := hst.2.1 l l2
      obtain ⟨p', e97, hp'⟩ := go97 hn (σ := swp τ i l) (i := i) (by omega) pw_FU 0 (upd (upd perm i (nI (τ l))) l (nI (τ i))) (by omega) (by omega) (by unfold pw_FU; omega) (fun c hc => by
        rw [rev_0, swp_at]
        by_cases hcl : c = l
        · rw [hcl, pk_us, if_pos rfl]
        · rw [pk_un hcl, if_neg hcl]
          by_cases hci : c = i
          · rw [hci, pk_us, if_pos rfl]
          · rw [pk_un hci, if_neg hci, hrow c hc])
      have e97' : lf_X11_goOn_97 (nI i) (nI (pdn d)) pw_FU 0 (upd (upd perm i (nI (τ l))) l (nI (τ i))) = some p' := e97
      obtain ⟨n1, n2, n3⟩ := nxt_is hn hst l1 l2 l3 (desc_of hd) l4
      refine ⟨p', nxt (pdn d) i l τ, ?_, hp', n1, n2, n3⟩
      rw [e7, qs_bd, qs_u1, qs_t (nI_pos' (by omega)), qs_lt, nI_sub1 (by omega), e47, qs_bd, qs_u1]
      simp (disch := omega) only [qs_cl, qg_in2, qs_lt, hrow i (by omega), hrow l l2]
      rw [e97', qs_bd, qs_u1]
    · left
      rw [e7, qs_bd, qs_u1, qs_f (by decide)]
      exact ⟨rfl, fun ρ hr => cmp_desc hn hst hr (k0 := 0) (desc_of (fun e _ he => hd e he)) (fun e he => absurd he (Nat.not_lt_zero _))⟩
theorem beg_loop : ∀ (m k : Nat) (perm : Nat → Int32), k ≤ 7 → 7 - k < m → (∀ c, c < k → perm c = nI c) → ∃ perm', lf_X11_begin_2 m (nI k) perm = some perm' ∧ ∀ c, c < 7 → perm' c = nI c := by
  intro m
  induction m with
  | zero => intro k perm h1 h2; omega
  | succ m ih =>
    intro k perm h1 h2 hp
    rw [lf_X11_begin_2]
    by_cases hk : 7 ≤ k
    · rw [qs_t (c := (7 : Int32) ≤ nI k) (nI_le (a := 7) hk (by omega))]
      exact ⟨perm, rfl, fun c hc => hp c (by omega)⟩
    · rw [qs_f (c := (7 : Int32) ≤ nI k) (nI_ge (b := 7) (by omega) (by omega))]
      simp (disch := omega) only [qs_cl, qg_in2, qs_lt, nI_1]
      exact ih (k + 1) _ (by omega) (by omega) (fun c hc => by
        by_cases q : c = k
        · rw [q, pk_us]
        · rw [pk_un q]; exact hp c (by omega))
def idS (d : PD) : Nat → Nat := fun c => if c < pdn d then c else 0
theorem idS_ST {d : PD} : ST d (idS d) := by
  refine ⟨fun c hc => ?_, fun c hc => ?_, fun a b ha hb g => ?_⟩
  · unfold idS; rw [if_neg (by omega)]
  · unfold idS; rw [if_pos hc]; exact hc
  · unfold idS at g; rw [if_pos ha, if_pos hb] at g; exact g
theorem begin_eq {d : PD} (hn : pdn d ≤ 7) (perm : Nat → Int32) : ∃ perm', f_X11_begin perm = some perm' ∧ RowM d (idS d) perm' ∧ ∀ ρ, ST d ρ → pk (idS d) ≤ pk ρ := by
  unfold f_X11_begin
  obtain ⟨p, e, h⟩ := beg_loop pw_FU 0 perm (by omega) (by unfold pw_FU; omega) (fun c hc => absurd hc (Nat.not_lt_zero _))
  have e' : lf_X11_begin_2 pw_FU 0 perm = some p := e
  rw [e', qs_bd, qs_u1]
  refine ⟨p, rfl, fun c hc => ?_, fun ρ hr => cmp_asc hn idS_ST hr (k0 := 0) (fun a b _ h1 h2 => ?_) (fun e he => absurd he (Nat.not_lt_zero _))⟩
  · rw [h c (by omega)]; unfold idS; rw [if_pos hc]
  · unfold idS; rw [if_pos (by omega), if_pos h2]; exact h1
/-! along the list of all seatings -/
theorem all_head {d : PD} (hn : pdn d ≤ 7) {τ : Nat → Nat} (hst : ST d τ) (hmin : ∀ ρ, ST d ρ → pk τ ≤ pk ρ) : ∃ suf, allS d = τ :: suf := by
  have hm := all_mem.mpr hst
  have hs := all_sorted hn
  cases hA : allS d with
  | nil => rw [hA] at hm; exact absurd hm List.not_mem_nil
  | cons a l =>
    have ha : ST d a := all_mem.mp (by rw [hA]; exact List.mem_cons_self)
    rw [hA] at hm hs
    rcases List.mem_cons.mp hm with h | h
    · rw [h]; exact ⟨l, rfl⟩
    · have := (List.pairwise_cons.mp hs).1 τ h
      have := hmin a ha
      omega
theorem all_next {d : PD} (hn : pdn d ≤ 7) {pre suf : List (Nat → Nat)} {τ τ' : Nat → Nat} (hA : allS d = pre ++ τ :: suf) (hst' : ST d τ') (hlt : pk τ < pk τ') (hmin : ∀ ρ, ST d ρ → pk τ < pk ρ → pk τ' ≤ pk ρ) : ∃ suf', suf = τ' :: suf' := by
  have hm := all_mem.mpr hst'
  have hs := all_sorted hn
  rw [hA] at hm hs
  have hs2 := (List.pairwise_append.mp hs)
  have hmem : τ' ∈ suf := by
    rcases List.mem_append.mp hm with h | h
    · have := hs2.2.2 τ' h τ List.mem_cons_self
      omega
    · rcases List.mem_cons.mp h with h | h
      · rw [h] at hlt; omega
      · exact h
  have hs3 := List.pairwise_cons.mp hs2.2.1
  cases hsu : suf with
  | nil => rw [hsu] at hmem; exact absurd hmem List.not_mem_nil
  | cons a l =>
    have ha : ST d a := all_mem.mp (by rw [hA, hsu]; simp)
    rw [hsu] at hmem hs3
    rcases List.mem_cons.mp hmem with h | h
    · rw [h]; exact ⟨l, rfl⟩
    · have h1 := (List.pairwise_cons.mp hs3.2).1 τ' h
      have h2 := hmin a ha (hs3.1 a List.mem_cons_self)
      omega
theorem all_last {d : PD} (hn : pdn d ≤ 7) {pre suf : List (Nat → Nat)} {τ : Nat → Nat} (hA : allS d = pre ++ τ :: suf) (hmax : ∀ ρ, ST d ρ → pk ρ ≤ pk τ) : suf = [] := by
  have hs := all_sorted hn
  rw [hA] at hs
  have hs3 := List.pairwise_cons.mp (List.pairwise_append.mp hs).2.1
  cases hsu : suf with
  | nil => rfl
  | cons a l =>
    have ha : ST d a := all_mem.mp (by rw [hA, hsu]; simp)
    rw [hsu] at hs3
    have := hs3.1 a List.mem_cons_self
    have := hmax a ha
    omega
/-- goOn goes along the list -/
theorem goOn_list {d : PD} (hn : pdn d ≤ 7) {pre suf : List (Nat → Nat)} {τ : Nat → Nat} (hA : allS d = pre ++ τ :: suf) {perm : Nat → Int32} (hrow : RowM d τ perm) : (f_X11_goOn (nI (pdn d)) perm = some (0, perm) ∧ suf = []) ∨ ∃ perm' τ' suf', f_X11_goOn (nI (pdn d)) perm = some (1, perm') ∧ RowM d τ' perm' ∧ suf = τ' :: suf' := by
  have hst : ST d τ := all_mem.mp (by rw [hA]; simp)
  rcases goOn_eq hn hst hrow with ⟨e, h⟩ | ⟨p', τ', e, h1, h2, h3, h4⟩
  · exact Or.inl ⟨e, all_last hn hA h⟩
  · obtain ⟨suf', hs⟩ := all_next hn hA h2 h3 h4
    exact Or.inr ⟨p', τ', suf', e, h1, hs⟩
theorem begin_list {d : PD} (hn : pdn d ≤ 7) (perm : Nat → Int32) : ∃ perm' τ suf, f_X11_begin perm = some perm' ∧ RowM d τ perm' ∧ allS d = τ :: suf := by
  obtain ⟨p, e, h1, h2⟩ := begin_eq hn perm
  obtain ⟨suf, hs⟩ := all_head hn idS_ST h2
  exact ⟨p, _, suf, e, h1, hs⟩
