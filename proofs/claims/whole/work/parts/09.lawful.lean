/-! ===== drawers: more things than places ===== -/
theorem fb_holes : ∀ (m n : Nat) (f : Nat → Nat), (∀ i, i < n → f i < m) → (∀ i j, i < j → j < n → f i ≠ f j) → n ≤ m := by
  intro m
  induction m with
  | zero =>
    intro n f h1 _
    rcases Nat.eq_zero_or_pos n with h | h
    · omega
    · exact absurd (h1 0 h) (Nat.not_lt_zero _)
  | succ m ih =>
    intro n f h1 h2
    by_cases hx : ∃ i, i < n ∧ f i = m
    · obtain ⟨a, ha, hfa⟩ := hx
      have hg := ih (n - 1) (fun i => if i < a then f i else f (i + 1)) (by
        intro i hi
        by_cases q : i < a
        · simp only [if_pos q]
          have b1 := h1 i (by omega)
          have b2 := h2 i a q ha
          omega
        · simp only [if_neg q]
          have b1 := h1 (i + 1) (by omega)
          have b2 := h2 a (i + 1) (by omega) (by omega)
          omega) (by
        intro i j hij hj
        by_cases q : i < a
        · by_cases r : j < a
          · simp only [if_pos q, if_pos r]
            exact h2 i j hij (by omega)
          · simp only [if_pos q, if_neg r]
            exact h2 i (j + 1) (by omega) (by omega)
        · have r : ¬ j < a := by omega
          simp only [if_neg q, if_neg r]
          exact h2 (i + 1) (j + 1) (by omega) (by omega))
      omega
    · have hg := ih n f (fun i hi => by
        have b1 := h1 i hi
        have b2 : f i ≠ m := fun e => hx ⟨i, hi, e⟩
        omega) h2
      omega
/-- two of them in one place -/
theorem fb_twice {m n : Nat} {f : Nat → Nat} (h : ∀ i, i < n → f i < m) (hm : m < n) : ∃ i j, i < j ∧ j < n ∧ f i = f j := by
  refine Classical.byContradiction fun hx => ?_
  have := fb_holes m n f h (fun i j hij hj e => hx ⟨i, j, hij, hj, e⟩)
  omega
/-- as many as places, none twice: each place is taken -/
theorem fb_onto {n : Nat} {f : Nat → Nat} (h : ∀ i, i < n → f i < n) (h2 : ∀ i j, i < j → j < n → f i ≠ f j) {y : Nat} (hy : y < n) : ∃ i, i < n ∧ f i = y := by
  refine Classical.byContradiction fun hx => ?_
  have hne : ∀ i, i < n → f i ≠ y := fun i hi e => hx ⟨i, hi, e⟩
  have := fb_holes (n - 1) n (fun i => if f i < y then f i else f i - 1) (by
    intro i hi
    have b1 := h i hi
    have b2 := hne i hi
    by_cases q : f i < y
    · simp only [if_pos q]; omega
    · simp only [if_neg q]; omega) (by
    intro i j hij hj
    have b1 := hne i (by omega)
    have b2 := hne j hj
    have b3 := h2 i j hij hj
    by_cases q : f i < y
    · by_cases r : f j < y
      · simp only [if_pos q, if_pos r]; exact b3
      · simp only [if_pos q, if_neg r]; omega
    · by_cases r : f j < y
      · simp only [if_neg q, if_pos r]; omega
      · simp only [if_neg q, if_neg r]; omega)
  omega
/-! ===== who sits beside whom, lawful ===== -/
theorem b2i_0 (b : Bool) : b2i b = 0 ↔ b = false := by cases b <;> decide
theorem adj_iff {d : PD} {σ : Nat → Nat} {p q : Nat} : adj d σ p q = true ↔ ∃ c e, c < pdn d ∧ e < pdn d ∧ nx d c e = true ∧ σ c = p ∧ σ e = q := by
  unfold adj
  simp only [List.any_eq_true, List.mem_range, Bool.and_eq_true, decide_eq_true_eq]
  constructor
  · rintro ⟨c, hc, e, he, ⟨h1, h2⟩, h3⟩; exact ⟨c, e, hc, he, h1, h2, h3⟩
  · rintro ⟨c, e, hc, he, h1, h2, h3⟩; exact ⟨c, hc, e, he, ⟨h1, h2⟩, h3⟩
theorem nx_iff {d : PD} {c e : Nat} : nx d c e = true ↔ c + 1 = e ∨ e + 1 = c ∨ (pdr d = true ∧ 2 < pdn d ∧ ((c = 0 ∧ e + 1 = pdn d) ∨ (e = 0 ∧ c + 1 = pdn d))) := by
  unfold nx
  simp only [Bool.or_eq_true, Bool.and_eq_true, decide_eq_true_eq]
  constructor
  · rintro ((h | h) | ⟨⟨h1, h2⟩, h3⟩)
    · exact Or.inl h
    · exact Or.inr (Or.inl h)
    · exact Or.inr (Or.inr ⟨h1, h2, h3⟩)
  · rintro (h | h | ⟨h1, h2, h3⟩)
    · exact Or.inl (Or.inl h)
    · exact Or.inl (Or.inr h)
    · exact Or.inr ⟨⟨h1, h2⟩, h3⟩
theorem nx_sym {d : PD} {c e : Nat} (h : nx d c e = true) : nx d e c = true := by
  rw [nx_iff] at *
  rcases h with h | h | ⟨h1, h2, h3 | h3⟩
  · exact Or.inr (Or.inl h)
  · exact Or.inl h
  · exact Or.inr (Or.inr ⟨h1, h2, Or.inr h3⟩)
  · exact Or.inr (Or.inr ⟨h1, h2, Or.inl h3⟩)
theorem nx_ne {d : PD} {c e : Nat} (h : nx d c e = true) : c ≠ e := by
  rw [nx_iff] at h
  rcases h with h | h | ⟨h1, h2, h3 | h3⟩ <;> omega
theorem adj_sym {d : PD} {σ : Nat → Nat} {p q : Nat} : adj d σ p q = adj d σ q p := by
  rw [Bool.eq_iff_iff, adj_iff, adj_iff]
  constructor
  · rintro ⟨c, e, hc, he, h1, h2, h3⟩; exact ⟨e, c, he, hc, nx_sym h1, h3, h2⟩
  · rintro ⟨c, e, hc, he, h1, h2, h3⟩; exact ⟨e, c, he, hc, nx_sym h1, h3, h2⟩
theorem ST_onto {d : PD} {σ : Nat → Nat} (h : ST d σ) {p : Nat} (hp : p < pdn d) : ∃ c, c < pdn d ∧ σ c = p :=
  fb_onto h.2.1 (fun i j hij hj e => by have := h.2.2 i j (by omega) hj e; omega) hp
/-- how many pairs of neighbours -/
def npr (d : PD) : Nat := if pdr d = true ∧ 3 ≤ pdn d then pdn d else pdn d - 1
def bhd (d : PD) (c : Nat) : Nat := if c + 1 < pdn d then c + 1 else 0
theorem npr_le {d : PD} : npr d ≤ pdn d := by unfold npr; split <;> omega
theorem pairs_eq {d : PD} (hn : pdn d ≤ 7) : f_X4_neighbourPairs (b2i (pdr d)) (nI (pdn d)) = nI (pdn d) - 1 ∧ ¬ (pdr d = true ∧ 3 ≤ pdn d) ∨ f_X4_neighbourPairs (b2i (pdr d)) (nI (pdn d)) = nI (pdn d) ∧ (pdr d = true ∧ 3 ≤ pdn d) := by
  unfold f_X4_neighbourPairs
  cases hr : pdr d
  · rw [qs_t (c := b2i false = 0) rfl]; exact Or.inl ⟨rfl, by simp⟩
  · rw [qs_f (c := b2i true = 0) (by decide)]
    by_cases h3 : 3 ≤ pdn d
    · rw [qs_f (c := nI (pdn d) < 3) (nI_nlt (b := 3) h3 (by omega))]; exact Or.inr ⟨rfl, rfl, h3⟩
    · rw [qs_t (c := nI (pdn d) < 3) (nI_lt (a := pdn d) (b := 3) (by omega) (by omega))]; exact Or.inl ⟨rfl, by simp [h3]⟩
/-- the loops over the pairs of neighbours go on just while k is less than their number -/
theorem pairs_le {d : PD} (hn : pdn d ≤ 7) {k : Nat} (hk : k ≤ 7) : f_X4_neighbourPairs (b2i (pdr d)) (nI (pdn d)) ≤ nI k ↔ npr d ≤ k := by
  have eN : (nI (pdn d) - 1).toInt = (pdn d : Int) - 1 := pk_sub_toInt (a := pdn d) (b := 1) (by omega) (by omega)
  unfold npr
  rcases pairs_eq (d := d) hn with ⟨e, h⟩ | ⟨e, h⟩
  · rw [e, if_neg h, fa_le, eN, nI_toInt (by omega)]; omega
  · rw [e, if_pos h, nI_leI (by omega) (by omega)]
theorem beh_eq {d : PD} (hn : pdn d ≤ 7) {k : Nat} (hk : k < pdn d) : f_X4_behind (nI k) (nI (pdn d)) = nI (bhd d k) := by
  unfold f_X4_behind bhd
  rw [nI_1]
  by_cases h : k + 1 < pdn d
  · rw [qs_f (nI_ge h (by omega)), if_pos h]
  · rw [qs_t (nI_le (by omega) (by omega)), if_neg h]; rfl
theorem bhd_lt {d : PD} {k : Nat} (hk : k < pdn d) : bhd d k < pdn d := by unfold bhd; split <;> omega
theorem nx_pairs {d : PD} {c e : Nat} (hc : c < pdn d) (he : e < pdn d) : nx d c e = true ↔ ∃ j, j < npr d ∧ ((c = j ∧ e = bhd d j) ∨ (e = j ∧ c = bhd d j)) := by
  rw [nx_iff]
  unfold npr bhd
  constructor
  · rintro (h | h | ⟨h1, h2, h3 | h3⟩)
    · refine ⟨c, by split <;> omega, Or.inl ⟨rfl, by rw [if_pos (by omega)]; omega⟩⟩
    · refine ⟨e, by split <;> omega, Or.inr ⟨rfl, by rw [if_pos (by omega)]; omega⟩⟩
    · refine ⟨e, by rw [if_pos ⟨h1, by omega⟩]; omega, Or.inr ⟨rfl, by rw [if_neg (by omega)]; omega⟩⟩
    · refine ⟨c, by rw [if_pos ⟨h1, by omega⟩]; omega, Or.inl ⟨rfl, by rw [if_neg (by omega)]; omega⟩⟩
  · rintro ⟨j, hj, h⟩
    by_cases h1 : j + 1 < pdn d
    · rw [if_pos h1] at h; omega
    · rw [if_neg h1] at h
      by_cases h2 : pdr d = true ∧ 3 ≤ pdn d
      · rw [if_pos h2] at hj
        exact Or.inr (Or.inr ⟨h2.1, by omega, by omega⟩)
      · rw [if_neg h2] at hj; omega
/-- the pairs up to k -/
def adu (d : PD) (σ : Nat → Nat) (k : Nat) (p q : Nat) : Bool := (List.range k).any (fun j => (decide (p = σ j) && decide (q = σ (bhd d j))) || (decide (p = σ (bhd d j)) && decide (q = σ j)))
theorem adu_s {d : PD} {σ : Nat → Nat} {k p q : Nat} : adu d σ (k + 1) p q = (adu d σ k p q || ((decide (p = σ k) && decide (q = σ (bhd d k))) || (decide (p = σ (bhd d k)) && decide (q = σ k)))) := by
  unfold adu; rw [List.range_succ, List.any_append]; simp
theorem adu_adj {d : PD} {σ : Nat → Nat} {p q : Nat} : adu d σ (npr d) p q = adj d σ p q := by
  rw [Bool.eq_iff_iff, adj_iff]
  unfold adu
  simp only [List.any_eq_true, List.mem_range, Bool.or_eq_true, Bool.and_eq_true, decide_eq_true_eq]
  constructor
  · rintro ⟨j, hj, h⟩
    have hj2 : j < pdn d := Nat.lt_of_lt_of_le hj npr_le
    rcases h with ⟨h1, h2⟩ | ⟨h1, h2⟩
    · exact ⟨j, bhd d j, hj2, bhd_lt hj2, (nx_pairs hj2 (bhd_lt hj2)).mpr ⟨j, hj, Or.inl ⟨rfl, rfl⟩⟩, h1.symm, h2.symm⟩
    · exact ⟨bhd d j, j, bhd_lt hj2, hj2, (nx_pairs (bhd_lt hj2) hj2).mpr ⟨j, hj, Or.inr ⟨rfl, rfl⟩⟩, h1.symm, h2.symm⟩
  · rintro ⟨c, e, hc, he, h1, h2, h3⟩
    obtain ⟨j, hj, h | h⟩ := (nx_pairs hc he).mp h1
    · exact ⟨j, hj, Or.inl ⟨by rw [← h2, h.1], by rw [← h3, h.2]⟩⟩
    · exact ⟨j, hj, Or.inr ⟨by rw [← h2, h.2], by rw [← h3, h.1]⟩⟩
theorem ngh_loop {d : PD} {σ : Nat → Nat} (hn : pdn d ≤ 7) (hst : ST d σ) : ∀ (m k : Nat) (acc : Int64) (one : Int32), k ≤ npr d → npr d - k < m → Mt acc (adu d σ k) → (k < npr d → one = nI (σ k)) → ∃ r, lf_X4_neighbours_18 (nI (pk σ)) (f_X4_neighbourPairs (b2i (pdr d)) (nI (pdn d))) (nI (pdn d)) m acc one (nI k) = some r ∧ Mt r (adj d σ) := by
  intro m
  induction m with
  | zero => intro k acc one h1 h2; omega
  | succ m ih =>
    intro k acc one h1 h2 hM ho
    have hk7 : k ≤ 7 := Nat.le_trans h1 (Nat.le_trans npr_le hn)
    rw [lf_X4_neighbours_18]
    by_cases hk : npr d ≤ k
    · rw [qs_t ((pairs_le hn hk7).mpr hk)]
      have ek : k = npr d := by omega
      subst ek
      exact ⟨acc, rfl, Mt_cong hM (fun p q _ _ => adu_adj)⟩
    · have hkn : k < pdn d := by have := npr_le (d := d); omega
      have hb := bhd_lt hkn
      have hDg := ST_lt8 hn hst
      rw [qs_f (fun h => hk ((pairs_le hn hk7).mp h)), qs_f (c := (7 : Int32) ≤ nI k) (nI_ge (b := 7) (by omega) (by omega)), qs_lt, qs_lt, qs_lt, qs_lt, beh_eq hn hkn, on_pk hDg (by omega), ho (by omega), nI_1]
      refine ih (k + 1) _ _ (by omega) (by omega) ?_ (fun h => ?_)
      · refine Mt_cong (Mt_or hM (Mt_both (hDg _) (hDg _))) (fun p q _ _ => ?_)
        rw [adu_s]
      · have : bhd d k = k + 1 := by unfold bhd; rw [if_pos]; have := npr_le (d := d); omega
        rw [this]
theorem ngh_eq {d : PD} {σ : Nat → Nat} (hn : pdn d ≤ 7) (hst : ST d σ) : ∃ r, f_X4_neighbours (nI (pk σ)) (b2i (pdr d)) (nI (pdn d)) = some r ∧ Mt r (adj d σ) := by
  have hDg := ST_lt8 hn hst
  obtain ⟨r, h1, h2⟩ := ngh_loop hn hst pw_FU 0 0 (nI (σ 0)) (by omega) (by have := npr_le (d := d); unfold pw_FU; omega) (fun p q _ _ => by rw [l_0]; rfl) (fun _ => rfl)
  refine ⟨r, ?_, h2⟩
  unfold f_X4_neighbours
  have e0 : f_X7_personOn (nI (pk σ)) 0 = nI (σ 0) := on_pk hDg (c := 0) (by omega)
  have h1' : lf_X4_neighbours_18 (nI (pk σ)) (f_X4_neighbourPairs (b2i (pdr d)) (nI (pdn d))) (nI (pdn d)) pw_FU 0 (nI (σ 0)) 0 = some r := h1
  rw [qs_lt, qs_lt, e0, h1', qs_bd, qs_u1]
/-- an answer 0 or 1 -/
def IsB (r : Int32) (P : Prop) : Prop := (r = 1 ∧ P) ∨ (r = 0 ∧ ¬ P)
theorem IsB_eq {r r' : Int32} {P : Prop} (h : IsB r P) (h' : IsB r' P) : r = r' := by
  rcases h with ⟨h1, h2⟩ | ⟨h1, h2⟩ <;> rcases h' with ⟨g1, g2⟩ | ⟨g1, g2⟩
  · rw [h1, g1]
  · exact absurd h2 g2
  · exact absurd g2 h2
  · rw [h1, g1]
theorem IsB_iff {r : Int32} {P Q : Prop} (h : IsB r P) (e : P ↔ Q) : IsB r Q := by
  rcases h with ⟨h1, h2⟩ | ⟨h1, h2⟩
  · exact Or.inl ⟨h1, e.mp h2⟩
  · exact Or.inr ⟨h1, fun q => h2 (e.mpr q)⟩
theorem adj_lt {d : PD} {σ : Nat → Nat} (hst : ST d σ) {p q : Nat} (h : adj d σ p q = true) : p < pdn d ∧ q < pdn d ∧ p ≠ q := by
  obtain ⟨c, e, hc, he, h1, h2, h3⟩ := adj_iff.mp h
  refine ⟨h2 ▸ hst.2.1 c hc, h3 ▸ hst.2.1 e he, fun e2 => nx_ne h1 (hst.2.2 c e hc he (by rw [h2, h3, e2]))⟩
theorem pdb_lt {d : PD} {p q : Nat} (h : pdb d p q = true) : p < pdn d ∧ q < pdn d := by
  unfold pdb at h
  simp only [Bool.and_eq_true, decide_eq_true_eq] at h
  exact ⟨h.1.1.1, h.1.1.2⟩
theorem lawX {d : PD} {σ : Nat → Nat} {tog bar : Int64} (hw : PWf d) (hst : ST d σ) (ht : Mt tog (pdg d)) (hb : Mt bar (pdb d)) : ∃ r, f_X4_isLawful (nI (pk σ)) (b2i (pdr d)) (nI (pdn d)) tog bar = some r ∧ IsB r (lawS d σ) := by
  have hn := hw.1
  obtain ⟨N, e1, hN⟩ := ngh_eq hn hst
  unfold f_X4_isLawful
  rw [e1, qs_bd, qs_u1]
  have z1 : lg_cmp (N &&& bar) 0 = 0 ↔ ∀ p q, adj d σ p q = true → pdb d p q = false := by
    rw [l_cmp0, Mt_zero (Mt_and hN hb)]
    constructor
    · intro h p q ha
      have := adj_lt hst ha
      have h2 := h p q (by omega) (by omega)
      simpa [ha] using h2
    · intro h p q _ _
      cases ha : adj d σ p q
      · rfl
      · simp [h p q ha]
  have z2 : lg_cmp (tog &&& (N ^^^ (-1))) 0 = 0 ↔ ∀ p q, pdg d p q = true → adj d σ p q = true := by
    rw [l_cmp0, Mt_zero (Mt_and ht (Mt_not hN))]
    constructor
    · intro h p q hg
      have := hw.2.2.2.1.1 p q hg
      have h2 := h p q (by omega) (by omega)
      simpa [hg] using h2
    · intro h p q _ _
      cases hg : pdg d p q
      · rfl
      · simp [h p q hg]
  by_cases c1 : lg_cmp (N &&& bar) 0 = 0
  · rw [qs_f (fun h => h c1)]
    by_cases c2 : lg_cmp (tog &&& (N ^^^ (-1))) 0 = 0
    · rw [qs_f (fun h => h c2)]
      exact ⟨1, rfl, Or.inl ⟨rfl, z1.mp c1, z2.mp c2⟩⟩
    · rw [qs_t c2]
      exact ⟨0, rfl, Or.inr ⟨rfl, fun h => c2 (z2.mpr h.2)⟩⟩
  · rw [qs_t c1]
    exact ⟨0, rfl, Or.inr ⟨rfl, fun h => c1 (z1.mpr h.1)⟩⟩
theorem lawNow {d : PD} {σ : Nat → Nat} {tog bar : Int64} (hw : PWf d) (hst : ST d σ) (ht : Mt tog (pdg d)) (hb : Mt bar (pdb d)) : ∃ r, f_X10_lawfulNow (nI (pk σ)) (b2i (pdr d)) (nI (pdn d)) tog bar = some r ∧ IsB r (lawS d σ) := by
  obtain ⟨r, e, h⟩ := lawX hw hst ht hb
  unfold f_X10_lawfulNow
  rw [e, qs_bd, qs_u1]
  rcases h with ⟨rfl, h⟩ | ⟨rfl, h⟩
  · rw [qs_f (by decide)]; exact ⟨1, rfl, Or.inl ⟨rfl, h⟩⟩
  · rw [qs_t rfl]; exact ⟨0, rfl, Or.inr ⟨rfl, h⟩⟩
