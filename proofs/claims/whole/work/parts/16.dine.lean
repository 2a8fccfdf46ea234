/-! ===== dinners: each pair of neighbours once ===== -/
theorem pair_one {d : PD} {j k : Nat} (hj : j < npr d) (hk : k < npr d) (h : (j = k ∧ bhd d j = bhd d k) ∨ (j = bhd d k ∧ bhd d j = k)) : j = k := by
  rcases h with h | ⟨h1, h2⟩
  · exact h.1
  · unfold bhd at h1 h2
    unfold npr at hj hk
    by_cases g1 : k + 1 < pdn d
    · rw [if_pos g1] at h1
      by_cases g2 : j + 1 < pdn d
      · rw [if_pos g2] at h2; omega
      · rw [if_neg g2] at h2
        by_cases g3 : pdr d = true ∧ 3 ≤ pdn d
        · rw [if_pos g3] at hj hk; omega
        · rw [if_neg g3] at hj hk; omega
    · rw [if_neg g1] at h1
      by_cases g2 : j + 1 < pdn d
      · rw [if_pos g2] at h2
        by_cases g3 : pdr d = true ∧ 3 ≤ pdn d
        · rw [if_pos g3] at hj hk; omega
        · rw [if_neg g3] at hj hk; omega
      · rw [if_neg g2] at h2; omega
theorem adu_new {d : PD} {σ : Nat → Nat} (hst : ST d σ) {k : Nat} (hk : k < npr d) : adu d σ k (σ k) (σ (bhd d k)) = false ∧ adu d σ k (σ (bhd d k)) (σ k) = false := by
  have hkn : k < pdn d := Nat.lt_of_lt_of_le hk npr_le
  have hb := bhd_lt hkn
  constructor
  · rw [Bool.eq_false_iff]
    unfold adu
    simp only [ne_eq, List.any_eq_true, List.mem_range, Bool.or_eq_true, Bool.and_eq_true, decide_eq_true_eq]
    rintro ⟨j, hj, h⟩
    have hjn : j < pdn d := by omega
    have hbj := bhd_lt hjn
    have : j = k := pair_one (by omega) hk (by
      rcases h with ⟨h1, h2⟩ | ⟨h1, h2⟩
      · exact Or.inl ⟨(hst.2.2 _ _ hkn hjn h1).symm, (hst.2.2 _ _ hb hbj h2).symm⟩
      · exact Or.inr ⟨(hst.2.2 _ _ hb hjn h2).symm, (hst.2.2 _ _ hkn hbj h1).symm⟩)
    omega
  · rw [Bool.eq_false_iff]
    unfold adu
    simp only [ne_eq, List.any_eq_true, List.mem_range, Bool.or_eq_true, Bool.and_eq_true, decide_eq_true_eq]
    rintro ⟨j, hj, h⟩
    have hjn : j < pdn d := by omega
    have hbj := bhd_lt hjn
    have : j = k := pair_one (by omega) hk (by
      rcases h with ⟨h1, h2⟩ | ⟨h1, h2⟩
      · exact Or.inr ⟨(hst.2.2 _ _ hb hjn h1).symm, (hst.2.2 _ _ hkn hbj h2).symm⟩
      · exact Or.inl ⟨(hst.2.2 _ _ hkn hjn h2).symm, (hst.2.2 _ _ hb hbj h1).symm⟩)
    omega
theorem bhd_ne {d : PD} {k : Nat} (hk : k < npr d) : bhd d k ≠ k := by
  unfold bhd; unfold npr at hk
  by_cases g : k + 1 < pdn d
  · rw [if_pos g]; omega
  · rw [if_neg g]
    by_cases g3 : pdr d = true ∧ 3 ≤ pdn d
    · rw [if_pos g3] at hk; omega
    · rw [if_neg g3] at hk; omega
/-- the cell of pair k -/
def clk (d : PD) (σ : Nat → Nat) (k : Nat) : Nat := if σ k < σ (bhd d k) then 8 * σ k + σ (bhd d k) else 8 * σ (bhd d k) + σ k
theorem cop_eq {d : PD} (hn : pdn d ≤ 7) {σ : Nat → Nat} (hst : ST d σ) {k : Nat} (hk : k < npr d) : f_X4_cellOfPair (nI (pk σ)) (nI k) (nI (pdn d)) = nI (clk d σ k) ∧ clk d σ k < 64 := by
  have hkn : k < pdn d := Nat.lt_of_lt_of_le hk npr_le
  have hDg := ST_lt8 hn hst
  have h1 := hDg k
  have h2 := hDg (bhd d k)
  have hb := bhd_lt hkn
  unfold f_X4_cellOfPair clk
  rw [qs_lt, qs_lt, qs_lt, qs_lt, on_pk hDg (by omega), beh_eq hn hkn, on_pk hDg (by omega), cell2_nI h1 h2]
  exact ⟨rfl, by split <;> omega⟩
theorem DX_clk {d : PD} {σ : Nat → Nat} (hn : pdn d ≤ 7) (hst : ST d σ) {g : Nat → Nat → Nat} (hs : ∀ p q, g p q = g q p) {a : Nat → Int32} (h : DX g a) {k : Nat} (hk : k < npr d) : a (clk d σ k) = nI (g (σ k) (σ (bhd d k))) := by
  have hkn : k < pdn d := Nat.lt_of_lt_of_le hk npr_le
  have hDg := ST_lt8 hn hst
  have hb := bhd_lt hkn
  have hne : σ k ≠ σ (bhd d k) := fun e => bhd_ne hk (hst.2.2 _ _ hkn hb e).symm
  unfold clk
  by_cases hl : σ k < σ (bhd d k)
  · rw [if_pos hl, h _ _ (hDg _) (hDg _), if_pos hl]
  · rw [if_neg hl, h _ _ (hDg _) (hDg _), if_pos (by omega), hs]
/-- g with one more (or less) for the pairs up to k -/
theorem dine_loop {d : PD} {σ : Nat → Nat} (hn : pdn d ≤ 7) (hst : ST d σ) {g : Nat → Nat → Nat → Nat} {v : Int32} (hs : ∀ k p q, g k p q = g k q p) (hv : ∀ k, k < npr d → nI (g k (σ k) (σ (bhd d k))) + v = nI (g (k + 1) (σ k) (σ (bhd d k)))) (ho : ∀ k p q, k < npr d → ¬ ((p = σ k ∧ q = σ (bhd d k)) ∨ (p = σ (bhd d k) ∧ q = σ k)) → g (k + 1) p q = g k p q) : ∀ (m k : Nat) (a : Nat → Int32), k ≤ npr d → npr d - k < m → DX (g k) a → ∃ r, lf_X8_dine_8 v (f_X4_neighbourPairs (b2i (pdr d)) (nI (pdn d))) (nI (pk σ)) (nI (pdn d)) m (nI k) a = some r ∧ DX (g (npr d)) r := by
  intro m
  induction m with
  | zero => intro k a h1 h2; omega
  | succ m ih =>
    intro k a h1 h2 ha
    have hk7 : k ≤ 7 := Nat.le_trans h1 (Nat.le_trans npr_le hn)
    rw [lf_X8_dine_8]
    by_cases hk : npr d ≤ k
    · have ek : k = npr d := by omega
      subst ek
      rw [qs_t ((pairs_le hn hk7).mpr hk)]
      exact ⟨a, rfl, ha⟩
    · have hk' : k < npr d := by omega
      have hkn : k < pdn d := Nat.lt_of_lt_of_le hk' npr_le
      obtain ⟨ec, hc64⟩ := cop_eq hn hst hk'
      rw [qs_f (fun h => hk ((pairs_le hn hk7).mp h)), qs_f (c := (7 : Int32) ≤ nI k) (nI_ge (b := 7) (by omega) (by omega)), qs_lt, ec]
      simp (disch := omega) only [qs_cl, qg_in2, qs_lt, nI_1]
      rw [DX_clk hn hst (hs k) ha hk', hv k hk']
      refine ih (k + 1) _ (by omega) (by omega) (fun p q hp hq => ?_)
      have hDg := ST_lt8 hn hst
      have a1 := hDg k
      have a2 := hDg (bhd d k)
      have hb := bhd_lt hkn
      have hne : σ k ≠ σ (bhd d k) := fun e => bhd_ne hk' (hst.2.2 _ _ hkn hb e).symm
      by_cases hpc : 8 * p + q = clk d σ k
      · rw [hpc, pk_us]
        unfold clk at hpc
        by_cases hl : σ k < σ (bhd d k)
        · rw [if_pos hl] at hpc
          have e1 : p = σ k := by omega
          have e2 : q = σ (bhd d k) := by omega
          rw [e1, e2, if_pos hl]
        · rw [if_neg hl] at hpc
          have e1 : p = σ (bhd d k) := by omega
          have e2 : q = σ k := by omega
          rw [e1, e2, if_pos (by omega), hs (k + 1)]
      · rw [pk_un hpc, ha p q hp hq]
        by_cases hl : p < q
        · rw [if_pos hl, if_pos hl, ho k p q hk']
          rintro (⟨g1, g2⟩ | ⟨g1, g2⟩)
          · exact hpc (by unfold clk; rw [if_pos (by omega), g1, g2])
          · exact hpc (by unfold clk; rw [if_neg (by omega), g1, g2])
        · rw [if_neg hl, if_neg hl]
/-- who dined after a dinner -/
def dnp (d : PD) (σ : Nat → Nat) (f : Nat → Nat → Nat) (p q : Nat) : Nat := f p q + (if adj d σ p q = true then 1 else 0)
theorem adu_sym {d : PD} {σ : Nat → Nat} {k p q : Nat} : adu d σ k p q = adu d σ k q p := by
  rw [Bool.eq_iff_iff]
  unfold adu
  simp only [List.any_eq_true, List.mem_range, Bool.or_eq_true, Bool.and_eq_true, decide_eq_true_eq]
  constructor <;> (rintro ⟨j, hj, h⟩; exact ⟨j, hj, by rcases h with ⟨a, b⟩ | ⟨a, b⟩; exact Or.inr ⟨b, a⟩; exact Or.inl ⟨b, a⟩⟩)
theorem adu_s2 {d : PD} {σ : Nat → Nat} {k : Nat} : adu d σ (k + 1) (σ k) (σ (bhd d k)) = true := by rw [adu_s]; simp
theorem adu_o {d : PD} {σ : Nat → Nat} {k p q : Nat} (h : ¬ ((p = σ k ∧ q = σ (bhd d k)) ∨ (p = σ (bhd d k) ∧ q = σ k))) : adu d σ (k + 1) p q = adu d σ k p q := by
  rw [adu_s]
  cases adu d σ k p q
  · simp only [Bool.false_or]
    rw [Bool.eq_false_iff]
    intro g
    simp only [Bool.or_eq_true, Bool.and_eq_true, decide_eq_true_eq] at g
    exact h g
  · simp
theorem dineX {d : PD} {σ : Nat → Nat} {f : Nat → Nat → Nat} {a : Nat → Int32} (hn : pdn d ≤ 7) (hst : ST d σ) (hs : ∀ p q, f p q = f q p) (h : DX f a) : ∃ r, f_X8_dine 1 (nI (pk σ)) a (b2i (pdr d)) (nI (pdn d)) = some r ∧ DX (dnp d σ f) r := by
  obtain ⟨r, e, g⟩ := dine_loop hn hst (g := fun k p q => f p q + (if adu d σ k p q = true then 1 else 0)) (v := 1) (fun k p q => by rw [hs p q, adu_sym]) (fun k hk => by
    rw [(adu_new hst hk).1, adu_s2, nI_1]; rfl) (fun k p q hk ho => by rw [adu_o ho]) pw_FU 0 a (by omega) (by have := npr_le (d := d); unfold pw_FU; omega) (fun p q hp hq => by rw [h p q hp hq]; rfl)
  have e' : lf_X8_dine_8 1 (f_X4_neighbourPairs (b2i (pdr d)) (nI (pdn d))) (nI (pk σ)) (nI (pdn d)) pw_FU 0 a = some r := e
  unfold f_X8_dine
  rw [qs_lt, e', qs_bd, qs_u1]
  refine ⟨r, rfl, fun p q hp hq => ?_⟩
  rw [g p q hp hq]
  simp only []
  rw [adu_adj]; rfl
theorem undineX {d : PD} {σ : Nat → Nat} {f : Nat → Nat → Nat} {a : Nat → Int32} (hn : pdn d ≤ 7) (hst : ST d σ) (hs : ∀ p q, f p q = f q p) (h : DX (dnp d σ f) a) : ∃ r, f_X8_dine (-1) (nI (pk σ)) a (b2i (pdr d)) (nI (pdn d)) = some r ∧ DX f r := by
  obtain ⟨r, e, g⟩ := dine_loop hn hst (g := fun k p q => f p q + (if adj d σ p q = true ∧ adu d σ k p q = false then 1 else 0)) (v := -1) (fun k p q => by rw [hs p q, adu_sym, adj_sym]) (fun k hk => by
    have ha : adj d σ (σ k) (σ (bhd d k)) = true := by
      have hkn : k < pdn d := Nat.lt_of_lt_of_le hk npr_le
      exact adj_iff.mpr ⟨k, bhd d k, hkn, bhd_lt hkn, (nx_pairs hkn (bhd_lt hkn)).mpr ⟨k, hk, Or.inl ⟨rfl, rfl⟩⟩, rfl, rfl⟩
    rw [(adu_new hst hk).1, adu_s2, ha, if_pos ⟨rfl, rfl⟩, if_neg (by simp), pk_m1]; rfl) (fun k p q hk ho => by rw [adu_o ho]) pw_FU 0 a (by omega) (by have := npr_le (d := d); unfold pw_FU; omega) (fun p q hp hq => by
      rw [h p q hp hq]
      have : adu d σ 0 p q = false := rfl
      simp only [this, and_true]; rfl)
  have e' : lf_X8_dine_8 (-1) (f_X4_neighbourPairs (b2i (pdr d)) (nI (pdn d))) (nI (pk σ)) (nI (pdn d)) pw_FU 0 a = some r := e
  unfold f_X8_dine
  rw [qs_lt, e', qs_bd, qs_u1]
  refine ⟨r, rfl, fun p q hp hq => ?_⟩
  rw [g p q hp hq]
  simp only []
  rw [adu_adj, if_neg (show ¬ (adj d σ p q = true ∧ adj d σ p q = false) by rintro ⟨g1, g2⟩; rw [g1] at g2; exact absurd g2 (by decide)), Nat.add_zero]
