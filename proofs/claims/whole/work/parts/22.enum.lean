/-! ===== the list of all seatings ===== -/
theorem sea_iff {σ : Nat → Nat} {c p : Nat} : sea σ c p = true ↔ ∃ e, e < c ∧ σ e = p := by
  unfold sea
  simp only [List.any_eq_true, List.mem_range, decide_eq_true_eq]
/-- a beginning of a seating: c chairs are taken -/
def Pre (n c : Nat) (σ : Nat → Nat) : Prop := (∀ e, c ≤ e → σ e = 0) ∧ (∀ e, e < c → σ e < n) ∧ ∀ a b, a < c → b < c → σ a = σ b → a = b
def Sn (n : Nat) (σ : Nat → Nat) : Prop := (∀ c, n ≤ c → σ c = 0) ∧ (∀ c, c < n → σ c < n) ∧ ∀ c e, c < n → e < n → σ c = σ e → c = e
theorem Pre_up {n c p : Nat} {σ : Nat → Nat} (h : Pre n c σ) (hp : p < n) (hs : ¬ sea σ c p = true) : Pre n (c + 1) (upN σ c p) := by
  have hs' : ∀ e, e < c → σ e ≠ p := fun e he g => hs (sea_iff.mpr ⟨e, he, g⟩)
  refine ⟨fun e he => ?_, fun e he => ?_, fun a b ha hb g => ?_⟩
  · unfold upN; rw [if_neg (by omega)]; exact h.1 e (by omega)
  · unfold upN; split
    · exact hp
    · exact h.2.1 e (by omega)
  · unfold upN at g
    by_cases h1 : a = c <;> by_cases h2 : b = c
    · omega
    · rw [if_pos h1, if_neg h2] at g; exact absurd g.symm (hs' b (by omega))
    · rw [if_neg h1, if_pos h2] at g; exact absurd g (hs' a (by omega))
    · rw [if_neg h1, if_neg h2] at g; exact h.2.2 a b (by omega) (by omega) g
theorem gen_mem {n : Nat} : ∀ (k c : Nat) (σ : Nat → Nat), c + k = n → Pre n c σ → ∀ τ, τ ∈ gen n k c σ ↔ (Sn n τ ∧ ∀ e, e < c → τ e = σ e) := by
  intro k
  induction k with
  | zero =>
    intro c σ hc hp τ
    have : c = n := by omega
    subst this
    unfold gen
    rw [List.mem_singleton]
    constructor
    · rintro rfl; exact ⟨hp, fun _ _ => rfl⟩
    · rintro ⟨h1, h2⟩
      funext e
      rcases Nat.lt_or_ge e c with g | g
      · exact h2 e g
      · rw [h1.1 e g, hp.1 e g]
  | succ k ih =>
    intro c σ hc hp τ
    unfold gen
    rw [List.mem_flatMap]
    constructor
    · rintro ⟨p, h1, h2⟩
      have hpn := List.mem_range.mp h1
      by_cases hs : sea σ c p = true
      · rw [if_pos hs] at h2; exact absurd h2 List.not_mem_nil
      · rw [if_neg hs] at h2
        obtain ⟨g1, g2⟩ := (ih (c + 1) (upN σ c p) (by omega) (Pre_up hp hpn hs) τ).mp h2
        refine ⟨g1, fun e he => ?_⟩
        have := g2 e (by omega)
        unfold upN at this; rw [if_neg (by omega)] at this; exact this
    · rintro ⟨h1, h2⟩
      have hcn : c < n := by omega
      have hs : ¬ sea σ c (τ c) = true := fun g => by
        obtain ⟨e, he, g2⟩ := sea_iff.mp g
        rw [← h2 e he] at g2
        have := h1.2.2 e c (by omega) hcn g2
        omega
      refine ⟨τ c, List.mem_range.mpr (h1.2.1 c hcn), ?_⟩
      rw [if_neg hs]
      refine (ih (c + 1) (upN σ c (τ c)) (by omega) (Pre_up hp (h1.2.1 c hcn) hs) τ).mpr ⟨h1, fun e he => ?_⟩
      unfold upN
      by_cases hec : e = c
      · rw [if_pos hec, hec]
      · rw [if_neg hec]; exact h2 e (by omega)
theorem Sn_Dg {n : Nat} {σ : Nat → Nat} (hn : n ≤ 7) (h : Sn n σ) : Dg σ := fun c => by
  rcases Nat.lt_or_ge c n with g | g
  · have := h.2.1 c g; omega
  · rw [h.1 c g]; omega
theorem gen_sorted {n : Nat} (hn : n ≤ 7) : ∀ (k c : Nat) (σ : Nat → Nat), c + k = n → Pre n c σ → (gen n k c σ).Pairwise (fun a b => pk a < pk b) := by
  intro k
  induction k with
  | zero => intro c σ hc hp; unfold gen; exact List.pairwise_singleton _ _
  | succ k ih =>
    intro c σ hc hp
    unfold gen
    rw [List.pairwise_flatMap]
    constructor
    · intro p h1
      by_cases hs : sea σ c p = true
      · rw [if_pos hs]; exact List.Pairwise.nil
      · rw [if_neg hs]; exact ih (c + 1) _ (by omega) (Pre_up hp (List.mem_range.mp h1) hs)
    · refine List.Pairwise.imp_of_mem ?_ List.pairwise_lt_range
      intro p q hp1 hq1 hpq x hx y hy
      by_cases hs : sea σ c p = true
      · rw [if_pos hs] at hx; exact absurd hx List.not_mem_nil
      · rw [if_neg hs] at hx
        by_cases hs2 : sea σ c q = true
        · rw [if_pos hs2] at hy; exact absurd hy List.not_mem_nil
        · rw [if_neg hs2] at hy
          obtain ⟨x1, x2⟩ := (gen_mem k (c + 1) _ (by omega) (Pre_up hp (List.mem_range.mp hp1) hs) x).mp hx
          obtain ⟨y1, y2⟩ := (gen_mem k (c + 1) _ (by omega) (Pre_up hp (List.mem_range.mp hq1) hs2) y).mp hy
          refine pk_lex (k := c) (Sn_Dg hn x1) (Sn_Dg hn y1) (by omega) (fun e he => ?_) ?_
          · rw [x2 e (by omega), y2 e (by omega)]; unfold upN; rw [if_neg (by omega), if_neg (by omega)]
          · rw [x2 c (by omega), y2 c (by omega)]; unfold upN; rw [if_pos rfl, if_pos rfl]; exact hpq
def fct : Nat → Nat
  | 0 => 1
  | n + 1 => (n + 1) * fct n
theorem sea_cnt {n c : Nat} {σ : Nat → Nat} (hp : Pre n c σ) : cnt (fun p => sea σ c p) n = c := by
  rw [cnt_sm]
  have e1 : ∀ p, p < n → (if sea σ c p = true then 1 else 0) = sm (fun e => if σ e = p then 1 else 0) c := fun p _ => by
    by_cases h : sea σ c p = true
    · obtain ⟨e, he, g⟩ := sea_iff.mp h
      rw [if_pos h, sm_one (c := e) he (fun k hk hke => if_neg (fun q => hke (hp.2.2 k e hk he (q.trans g.symm)))), if_pos g]
    · rw [if_neg h, sm_zero (fun e he => if_neg (fun g => h (sea_iff.mpr ⟨e, he, g⟩)))]
  rw [sm_cong e1, sm_swap]
  have e2 : ∀ m, m ≤ c → sm (fun e => sm (fun p => if σ e = p then 1 else 0) n) m = m := by
    intro m
    induction m with
    | zero => intro _; rfl
    | succ m ih =>
      intro hm
      show sm (fun e => sm (fun p => if σ e = p then 1 else 0) n) m + sm (fun p => if σ m = p then 1 else 0) n = m + 1
      rw [ih (by omega), sm_one (c := σ m) (hp.2.1 m (by omega)) (fun k _ hk => if_neg (fun g => hk g.symm)), if_pos rfl]
  exact e2 c (Nat.le_refl _)
theorem gen_len {n : Nat} : ∀ (k c : Nat) (σ : Nat → Nat), c + k = n → Pre n c σ → (gen n k c σ).length ≤ fct k := by
  intro k
  induction k with
  | zero => intro c σ hc hp; exact Nat.le_refl _
  | succ k ih =>
    intro c σ hc hp
    unfold gen
    have h : ∀ m, m ≤ n → ((List.range m).flatMap (fun p => if sea σ c p = true then [] else gen n k (c + 1) (upN σ c p))).length ≤ cnt (fun p => !sea σ c p) m * fct k := by
      intro m
      induction m with
      | zero => intro _; exact Nat.le_of_eq (by simp [cnt])
      | succ m ihm =>
        intro hm
        rw [List.range_succ, List.flatMap_append, List.length_append]
        have e : cnt (fun p => !sea σ c p) (m + 1) = cnt (fun p => !sea σ c p) m + (if (!sea σ c m) = true then 1 else 0) := rfl
        rw [e, Nat.add_mul]
        have h1 := ihm (by omega)
        have h2 : ([m].flatMap (fun p => if sea σ c p = true then [] else gen n k (c + 1) (upN σ c p))).length ≤ (if (!sea σ c m) = true then 1 else 0) * fct k := by
          rw [List.flatMap_singleton]
          by_cases hs : sea σ c m = true
          · rw [if_pos hs]; exact Nat.zero_le _
          · rw [if_neg hs, if_pos (by simpa using hs), Nat.one_mul]
            exact ih (c + 1) _ (by omega) (Pre_up hp (by omega) hs)
        omega
    have h1 := h n (Nat.le_refl _)
    have h2 := cnt_neg (fun p => sea σ c p) n
    rw [sea_cnt hp] at h2
    have h3 : cnt (fun p => !sea σ c p) n = k + 1 := by omega
    rw [h3] at h1
    exact h1
theorem Pre_0 {n : Nat} : Pre n 0 (fun _ => 0) := ⟨fun _ _ => rfl, fun e he => absurd he (Nat.not_lt_zero _), fun a b ha => absurd ha (Nat.not_lt_zero _)⟩
theorem all_mem {d : PD} {τ : Nat → Nat} : τ ∈ allS d ↔ ST d τ := by
  unfold allS
  rw [gen_mem _ 0 _ (by omega) Pre_0]
  exact ⟨fun h => h.1, fun h => ⟨h, fun e he => absurd he (Nat.not_lt_zero _)⟩⟩
theorem all_sorted {d : PD} (hn : pdn d ≤ 7) : (allS d).Pairwise (fun a b => pk a < pk b) := gen_sorted hn _ 0 _ (by omega) Pre_0
theorem fct_le : ∀ k, k ≤ 7 → fct k ≤ 5040 := by decide
theorem all_len {d : PD} (hn : pdn d ≤ 7) : (allS d).length ≤ 5040 := Nat.le_trans (gen_len _ 0 _ (by omega) Pre_0) (fct_le _ hn)
theorem lawB_iff {d : PD} {τ : Nat → Nat} : lawB d τ = true ↔ lawS d τ := by unfold lawB; exact @decide_eq_true_iff _ (Classical.propDecidable _)
theorem lawL_mem {d : PD} {τ : Nat → Nat} : τ ∈ lawL d ↔ ST d τ ∧ lawS d τ := by
  unfold lawL
  rw [List.mem_filter, all_mem, lawB_iff]
theorem lawL_sorted {d : PD} (hn : pdn d ≤ 7) : (lawL d).Pairwise (fun a b => pk a < pk b) := List.Pairwise.filter _ (all_sorted hn)
theorem lawL_len {d : PD} (hn : pdn d ≤ 7) : (lawL d).length ≤ 5040 := Nat.le_trans (List.length_filter_le _ _) (all_len hn)
