/-! ===== which one, the n-th ===== -/
theorem seatOf {d : PD} {v : Nat → Int32} {N : Nat} (h : LW d v N) {j : Nat} {τ : Nat → Nat} (hj : (lawL d)[j]? = some τ) : f_X2_seatingOf (nI j) v N = some (nI (pk τ)) := by
  have hlt : j < (lawL d).length := by
    rcases Nat.lt_or_ge j (lawL d).length with g | g
    · exact g
    · rw [List.getElem?_eq_none_iff.mpr g] at hj; exact absurd hj (by simp)
  have hN := h.2.1
  have hl := h.2.2.1
  unfold f_X2_seatingOf
  rw [qs_f (nI_pos (by omega)), qs_lt, qs_f (nI_ge (show j < N by omega) (by omega))]
  simp (disch := omega) only [qs_cl, qg_in2]
  rw [h.2.2.2 j τ hj]
theorem L_at {d : PD} {j : Nat} (hj : j < (lawL d).length) : ∃ τ, (lawL d)[j]? = some τ ∧ ST d τ ∧ lawS d τ := by
  refine ⟨(lawL d)[j], List.getElem?_eq_getElem hj, ?_⟩
  exact lawL_mem.mp (List.getElem_mem hj)
theorem L_lt {d : PD} {j : Nat} {τ : Nat → Nat} (h : (lawL d)[j]? = some τ) : j < (lawL d).length := by
  rcases Nat.lt_or_ge j (lawL d).length with g | g
  · exact g
  · rw [List.getElem?_eq_none_iff.mpr g] at h; exact absurd h (by simp)
theorem L_ST {d : PD} {j : Nat} {τ : Nat → Nat} (h : (lawL d)[j]? = some τ) : ST d τ ∧ lawS d τ := lawL_mem.mp (List.mem_of_getElem? h)
theorem L_mono {d : PD} (hn : pdn d ≤ 7) {i j : Nat} {σ τ : Nat → Nat} (hi : (lawL d)[i]? = some σ) (hj : (lawL d)[j]? = some τ) (h : i < j) : pk σ < pk τ := by
  have h1 := L_lt hi
  have h2 := L_lt hj
  have := List.pairwise_iff_getElem.mp (lawL_sorted hn) i j h1 h2 h
  rw [List.getElem?_eq_getElem h1] at hi
  rw [List.getElem?_eq_getElem h2] at hj
  rw [← Option.some.inj hi, ← Option.some.inj hj]; exact this
theorem L_uniq {d : PD} (hn : pdn d ≤ 7) {i j : Nat} {σ : Nat → Nat} (hi : (lawL d)[i]? = some σ) (hj : (lawL d)[j]? = some σ) : i = j := by
  rcases Nat.lt_trichotomy i j with g | g | g
  · have := L_mono hn hi hj g; omega
  · exact g
  · have := L_mono hn hj hi g; omega
theorem pk31 {d : PD} (hn : pdn d ≤ 7) {σ : Nat → Nat} (h : ST d σ) : pk σ < 2097152 := pk_lt2 (ST_lt8 hn h)
theorem bin_loop {d : PD} (hn : pdn d ≤ 7) {v : Nat → Int32} {N : Nat} (h : LW d v N) {X : Nat} (hX : X < 2097152) : ∀ (j t m lo hi : Nat), lo ≤ hi → hi ≤ (lawL d).length → hi - lo < 2 ^ j → t + j ≤ 16 → j < m → (∀ i τ, i < lo → (lawL d)[i]? = some τ → pk τ < X) → (∀ i τ, hi ≤ i → (lawL d)[i]? = some τ → X ≤ pk τ) → ∃ y, y ≤ (lawL d).length ∧ lf_X2_rankOf_10 (nI X) v N m (nI lo) (nI hi) (nI t) = some (nI y) ∧ (∀ i τ, i < y → (lawL d)[i]? = some τ → pk τ < X) ∧ (∀ i τ, y ≤ i → (lawL d)[i]? = some τ → X ≤ pk τ) := by
  have hlen := lawL_len hn
  intro j
  induction j with
  | zero =>
    intro t m lo hi h1 h2 h3 h4 h5 ha hb
    have : lo = hi := by simp only [Nat.pow_zero] at h3; omega
    subst this
    obtain ⟨m, rfl⟩ : ∃ k, m = k + 1 := ⟨m - 1, by omega⟩
    refine ⟨lo, h2, ?_, ha, hb⟩
    rw [lf_X2_rankOf_10, qs_t (c := nI lo ≤ nI lo) (nI_le (Nat.le_refl _) (by omega))]
    unfold pw_cd; split <;> rfl
  | succ j ih =>
    intro t m lo hi h1 h2 h3 h4 h5 ha hb
    obtain ⟨m, rfl⟩ : ∃ k, m = k + 1 := ⟨m - 1, by omega⟩
    rw [lf_X2_rankOf_10, qs_f (c := (16 : Int32) ≤ nI t) (nI_ge (b := 16) (by omega) (by omega))]
    by_cases hlh : hi ≤ lo
    · rw [qs_t (nI_le hlh (by omega))]
      have : lo = hi := by omega
      subst this
      exact ⟨lo, h2, rfl, ha, hb⟩
    · have e2 : (nI lo + nI hi) / 2 = nI ((lo + hi) / 2) := by
        rw [nI_add]; exact pk_div (d := 2) (by omega) (by omega) (by omega)
      have hmid : (lo + hi) / 2 < hi := by omega
      have hmid2 : lo ≤ (lo + hi) / 2 := by omega
      obtain ⟨τ, eτ, hst, _⟩ := L_at (d := d) (show (lo + hi) / 2 < (lawL d).length by omega)
      have hp := pk31 hn hst
      have ep : 2 ^ (j + 1) = 2 * 2 ^ j := by rw [Nat.pow_succ]; omega
      rw [qs_f (nI_ge (by omega) (by omega)), e2, qs_lt, seatOf h eτ, qs_bd, qs_u1, nI_1, nI_1, qs_lt]
      by_cases hc : X ≤ pk τ
      · rw [qs_t (nI_le hc (by omega))]
        exact ih (t + 1) m lo ((lo + hi) / 2) hmid2 (by omega) (by omega) (by omega) (by omega) ha (fun i ρ hi1 hi2 => by
          by_cases q : i = (lo + hi) / 2
          · rw [q, eτ] at hi2; rw [← Option.some.inj hi2]; exact hc
          · have := L_mono hn eτ hi2 (by omega); omega)
      · rw [qs_f (nI_ge (by omega) (by omega))]
        exact ih (t + 1) m ((lo + hi) / 2 + 1) hi (by omega) h2 (by omega) (by omega) (by omega) (fun i ρ hi1 hi2 => by
          by_cases q : i = (lo + hi) / 2
          · rw [q, eτ] at hi2; rw [← Option.some.inj hi2]; omega
          · have := L_mono hn hi2 eτ (by omega); omega) hb
/-- the class's search for a seating in its list -/
theorem rankX {d : PD} (hn : pdn d ≤ 7) {v : Nat → Int32} {N : Nat} (h : LW d v N) {σ : Nat → Nat} (hst : ST d σ) : (∃ j, (lawL d)[j]? = some σ ∧ f_X2_rankOf (nI (pk σ)) (nI (lawL d).length) v N = some (nI j)) ∨ (¬ lawS d σ ∧ f_X2_rankOf (nI (pk σ)) (nI (lawL d).length) v N = some (-9)) := by
  have hlen := lawL_len hn
  have hp := pk31 hn hst
  obtain ⟨y, hy, e, ha, hb⟩ := bin_loop hn h hp 13 0 pw_FU 0 (lawL d).length (by omega) (Nat.le_refl _) (by omega) (by omega) (by unfold pw_FU; omega) (fun i τ hi => absurd hi (Nat.not_lt_zero _)) (fun i τ hi hi2 => by have := L_lt hi2; omega)
  have e' : lf_X2_rankOf_10 (nI (pk σ)) v N pw_FU 0 (nI (lawL d).length) 0 = some (nI y) := e
  unfold f_X2_rankOf
  rw [e', qs_bd, qs_u1]
  by_cases hl : lawS d σ
  · left
    obtain ⟨j, hj⟩ := List.mem_iff_getElem?.mp (lawL_mem.mpr ⟨hst, hl⟩)
    have hjl := L_lt hj
    have hjy : j = y := by
      rcases Nat.lt_trichotomy j y with g | g | g
      · have := ha j σ g hj; omega
      · exact g
      · obtain ⟨τ, eτ, _⟩ := L_at (d := d) (show y < (lawL d).length by omega)
        have h1 := hb y τ (Nat.le_refl _) eτ
        have h2 := L_mono hn eτ hj g
        omega
    subst hjy
    refine ⟨j, hj, ?_⟩
    rw [qs_f (nI_ge hjl (by omega)), seatOf h hj, qs_bd, qs_u1, qs_nf rfl]
  · right
    refine ⟨hl, ?_⟩
    by_cases hyl : (lawL d).length ≤ y
    · rw [qs_t (nI_le hyl (by omega))]
    · obtain ⟨τ, eτ, ht, hlt⟩ := L_at (d := d) (show y < (lawL d).length by omega)
      have hpt := pk31 hn ht
      rw [qs_f (nI_ge (by omega) (by omega)), seatOf h eτ, qs_bd, qs_u1, qs_nt (fun g => hl (by
        have g2 := (nI_eq (by omega) (by omega)).mp g
        have : τ = σ := ST_ext ht hst (fun c hc => pk_inj (ST_lt8 hn ht) (ST_lt8 hn hst) g2 (by omega))
        rw [← this]; exact hlt))]
theorem seat_loop2 {d : PD} (hn : pdn d ≤ 7) {σ τ : Nat → Nat} (hst : ST d σ) (hst2 : ST d τ) {seat perm : Nat → Int32} (h1 : RowM d σ seat) (h2 : RowM d τ perm) : ∀ (m k : Nat) (r : Int32), k ≤ pdn d → pdn d - k < m → IsB r (∀ c, c < k → τ c = σ c) → ∃ r', lf_X11_isSeat_4 (nI (pdn d)) seat perm m r (nI k) = some r' ∧ IsB r' (∀ c, c < pdn d → τ c = σ c) := by
  intro m
  induction m with
  | zero => intro k r a b; omega
  | succ m ih =>
    intro k r a b hr
    rw [lf_X11_isSeat_4]
    by_cases hk : pdn d ≤ k
    · have : k = pdn d := by omega
      subst this
      rw [qs_t (nI_le hk (by omega))]
      exact ⟨r, rfl, hr⟩
    · have hk' : k < pdn d := by omega
      have hs1 := hst.2.1 k hk'
      have hs2 := hst2.2.1 k hk'
      rw [qs_f (nI_ge hk' (by omega))]
      simp (disch := omega) only [qs_cl, qg_in2, nI_1, h1 k hk', h2 k hk']
      rcases hr with ⟨rfl, hh⟩ | ⟨rfl, hh⟩
      · rw [qs_f (c := (1 : Int32) = 0) (by decide)]
        by_cases he : τ k = σ k
        · rw [qs_nf (c := nI (τ k) = nI (σ k)) (by rw [he])]
          exact ih (k + 1) 1 (by omega) (by omega) (Or.inl ⟨rfl, fun c hc => by
            by_cases q : c = k
            · rw [q, he]
            · exact hh c (by omega)⟩)
        · rw [qs_nt (c := nI (τ k) = nI (σ k)) (fun g => he ((nI_eq (by omega) (by omega)).mp g))]
          exact ih (k + 1) 0 (by omega) (by omega) (Or.inr ⟨rfl, fun g => he (g k (by omega))⟩)
      · rw [qs_t (c := (0 : Int32) = 0) rfl]
        exact ih (k + 1) 0 (by omega) (by omega) (Or.inr ⟨rfl, fun g => hh (fun c hc => g c (by omega))⟩)
theorem isSeat_eq {d : PD} (hn : pdn d ≤ 7) {σ τ : Nat → Nat} (hst : ST d σ) (hst2 : ST d τ) {seat perm : Nat → Int32} (h1 : RowM d σ seat) (h2 : RowM d τ perm) : ∃ r, f_X11_isSeat (nI (pdn d)) seat perm = some r ∧ IsB r (τ = σ) := by
  unfold f_X11_isSeat
  obtain ⟨r, e, h⟩ := seat_loop2 hn hst hst2 h1 h2 pw_FU 0 1 (by omega) (by unfold pw_FU; omega) (Or.inl ⟨rfl, fun c hc => absurd hc (Nat.not_lt_zero _)⟩)
  have e' : lf_X11_isSeat_4 (nI (pdn d)) seat perm pw_FU 1 0 = some r := e
  have h01 : r = 0 ∨ r = 1 := by
    rcases h with ⟨g, _⟩ | ⟨g, _⟩
    · exact Or.inr g
    · exact Or.inl g
  rw [e', qs_bd, qs_u1, qs_g h01]
  exact ⟨r, rfl, IsB_iff h ⟨fun g => ST_ext hst2 hst g, fun g c _ => by rw [g]⟩⟩
section
theorem rank_loop {d : PD} (hw : PWf d) {pe ro tu ap : Int32} {woman mate quarrel joined worths : Nat → Int32} (hm : PM d pe ro tu ap woman mate quarrel joined worths) {σ : Nat → Nat} (hst : ST d σ) {seat : Nat → Int32} (hs : RowM d σ seat) : ∀ (suf pre : List (Nat → Nat)) (τ : Nat → Nat) (m : Nat) (perm : Nat → Int32), allS d = pre ++ τ :: suf → RowM d τ perm → suf.length < m → σ ∈ τ :: suf → ∃ (perm' : Nat → Int32) (p s : List (Nat → Nat)), allS d = p ++ σ :: s ∧ lf_X11_rank_20 (nI (pdn d)) ro tu ap woman mate quarrel joined seat m (nI (pre.filter (lawB d)).length) perm = some (nI (p.filter (lawB d)).length, perm') := by
  intro suf
  induction suf with
  | nil =>
    intro pre τ m perm hA hrow hm2 hmem
    obtain ⟨m, rfl⟩ : ∃ k, m = k + 1 := ⟨m - 1, by omega⟩
    have e : σ = τ := by simpa using hmem
    subst e
    obtain ⟨r, er, hr⟩ := isSeat_eq hw.1 hst hst hs hrow
    rcases hr with ⟨rfl, _⟩ | ⟨_, g⟩
    · rw [lf_X11_rank_20, er, qs_bd, qs_u1, qs_nt (c := (1 : Int32) = 0) (by decide)]
      exact ⟨perm, pre, [], hA, rfl⟩
    · exact absurd rfl g
  | cons τ1 suf ih =>
    intro pre τ m perm hA hrow hm2 hmem
    obtain ⟨m, rfl⟩ : ∃ k, m = k + 1 := ⟨m - 1, by omega⟩
    have hst2 : ST d τ := all_mem.mp (by rw [hA]; simp)
    obtain ⟨r, er, hr⟩ := isSeat_eq hw.1 hst hst2 hs hrow
    rw [lf_X11_rank_20, er, qs_bd, qs_u1]
    rcases hr with ⟨rfl, g⟩ | ⟨rfl, g⟩
    · rw [qs_nt (c := (1 : Int32) = 0) (by decide)]
      exact ⟨perm, pre, τ1 :: suf, by rw [← g]; exact hA, rfl⟩
    · obtain ⟨r, er, hr⟩ := lawAt hw hm hA hrow
      rw [qs_nf (c := (0 : Int32) = 0) rfl, er, qs_bd, qs_u1, qs_lt, qs_lt, IsB_n hr]
      rcases goOn_list hw.1 hA hrow with ⟨_, h⟩ | ⟨p', τ', s', e, hr', h⟩
      · exact absurd h (by simp)
      · obtain ⟨rfl, rfl⟩ := List.cons.inj h
        rw [e, qs_bd, qs_u2, ← fl_s]
        refine ih (pre ++ [τ]) τ1 m p' (by rw [hA]; simp) hr' (by simp only [List.length_cons] at hm2; omega) ?_
        rcases List.mem_cons.mp hmem with q | q
        · exact absurd q.symm g
        · exact q
theorem rankM {d : PD} (hw : PWf d) {pe ro tu ap : Int32} {woman mate quarrel joined worths : Nat → Int32} (hm : PM d pe ro tu ap woman mate quarrel joined worths) {σ : Nat → Nat} (hst : ST d σ) (hl : lawS d σ) {seat : Nat → Int32} (hs : RowM d σ seat) (perm : Nat → Int32) : ∃ perm' j, (lawL d)[j]? = some σ ∧ (pw_bd (f_X11_begin perm) <| pw_u1 fun o8 => pw_bd (lf_X11_rank_20 (nI (pdn d)) ro tu ap woman mate quarrel joined seat pw_FU 0 o8) <| pw_u2 fun y27 y28 => some (y27, y28)) = some (nI j, perm') := by
  obtain ⟨p, τ, suf, e, h1, h2⟩ := begin_list hw.1 perm
  have hlen := all_len hw.1
  obtain ⟨p2, pr, s, hA, e2⟩ := rank_loop hw hm hst hs suf [] τ pw_FU p h2 h1 (by rw [h2] at hlen; simp only [List.length_cons] at hlen; unfold pw_FU; omega) (by rw [← h2]; exact all_mem.mpr hst)
  have e2' : lf_X11_rank_20 (nI (pdn d)) ro tu ap woman mate quarrel joined seat pw_FU 0 p = some (nI (pr.filter (lawB d)).length, p2) := e2
  refine ⟨p2, (pr.filter (lawB d)).length, ?_, by rw [e, qs_bd, qs_u1, e2', qs_bd, qs_u2]⟩
  unfold lawL
  rw [hA, List.filter_append, List.filter_cons_of_pos (lawB_iff.mpr hl)]
  simp
theorem nth_loop {d : PD} (hw : PWf d) {pe ro tu ap : Int32} {woman mate quarrel joined worths : Nat → Int32} (hm : PM d pe ro tu ap woman mate quarrel joined worths) {X : Nat} (hX : X < 2 ^ 31) : ∀ (suf pre : List (Nat → Nat)) (τ : Nat → Nat) (m : Nat) (perm : Nat → Int32), allS d = pre ++ τ :: suf → RowM d τ perm → suf.length + 1 < m → (pre.filter (lawB d)).length ≤ X → (∃ perm' ρ, (lawL d)[X]? = some ρ ∧ RowM d ρ perm' ∧ lf_X11_layNth_16 (nI (pdn d)) ro tu ap woman mate quarrel joined m (nI (X - (pre.filter (lawB d)).length)) 1 perm = some (.inl perm')) ∨ (∃ perm', (lawL d).length ≤ X ∧ lf_X11_layNth_16 (nI (pdn d)) ro tu ap woman mate quarrel joined m (nI (X - (pre.filter (lawB d)).length)) 1 perm = some (.inr perm')) := by
  have hneg : ∀ a : Nat, 0 < a → nI a + (-1) = nI (a - 1) := fun a ha => by rw [← Int32.sub_eq_add_neg]; exact nI_sub1 ha
  intro suf
  induction suf with
  | nil =>
    intro pre τ m perm hA hrow hm2 hX2
    obtain ⟨m, rfl⟩ : ∃ k, m = k + 2 := ⟨m - 2, by simp only [List.length_nil] at hm2; omega⟩
    obtain ⟨r, er, hr⟩ := lawAt hw hm hA hrow
    rcases goOn_list hw.1 hA hrow with ⟨e, _⟩ | ⟨p', τ', s', _, _, h⟩
    · have hL : lawL d = pre.filter (lawB d) ++ [τ].filter (lawB d) := by unfold lawL; rw [hA, List.filter_append]
      rw [lf_X11_layNth_16, qs_f (c := (1 : Int32) = 0) (by decide), er, qs_bd, qs_u1, qs_jn]
      simp only [e, qs_bd, qs_u2]
      rcases hr with ⟨rfl, hl⟩ | ⟨rfl, hl⟩
      · rw [qs_f (c := (1 : Int32) = 0) (by decide)]
        rw [List.filter_cons_of_pos (lawB_iff.mpr hl), List.filter_nil] at hL
        by_cases h0 : X = (pre.filter (lawB d)).length
        · rw [h0, Nat.sub_self, qs_nf (c := nI 0 = 0) rfl]
          exact Or.inl ⟨perm, τ, by rw [hL]; simp, hrow, rfl⟩
        · rw [qs_nt (nI_ne0 (by omega) (by omega)), lf_X11_layNth_16, qs_t (c := (0 : Int32) = 0) rfl]
          exact Or.inr ⟨perm, by rw [hL, List.length_append]; simp only [List.length_cons, List.length_nil]; omega, rfl⟩
      · rw [qs_t (c := (0 : Int32) = 0) rfl, lf_X11_layNth_16, qs_t (c := (0 : Int32) = 0) rfl]
        rw [List.filter_cons_of_neg (fun g => hl (lawB_iff.mp g)), List.filter_nil, List.append_nil] at hL
        exact Or.inr ⟨perm, by rw [hL]; exact hX2, rfl⟩
    · exact absurd h (by simp)
  | cons τ1 suf ih =>
    intro pre τ m perm hA hrow hm2 hX2
    obtain ⟨m, rfl⟩ : ∃ k, m = k + 1 := ⟨m - 1, by omega⟩
    obtain ⟨r, er, hr⟩ := lawAt hw hm hA hrow
    rcases goOn_list hw.1 hA hrow with ⟨_, h⟩ | ⟨p', τ', s', e, hr', h⟩
    · exact absurd h (by simp)
    · obtain ⟨rfl, rfl⟩ := List.cons.inj h
      have hi := ih (pre ++ [τ]) τ1 m p' (by rw [hA]; simp) hr' (by simp only [List.length_cons] at hm2; omega)
      rw [fl_s] at hi
      rw [lf_X11_layNth_16, qs_f (c := (1 : Int32) = 0) (by decide), er, qs_bd, qs_u1, qs_jn]
      simp only [e, qs_bd, qs_u2]
      rcases hr with ⟨rfl, hl⟩ | ⟨rfl, hl⟩
      · rw [qs_f (c := (1 : Int32) = 0) (by decide)]
        rw [if_pos (lawB_iff.mpr hl)] at hi
        by_cases h0 : X = (pre.filter (lawB d)).length
        · rw [h0, Nat.sub_self, qs_nf (c := nI 0 = 0) rfl]
          refine Or.inl ⟨perm, τ, ?_, hrow, rfl⟩
          unfold lawL
          rw [hA, List.filter_append, List.filter_cons_of_pos (lawB_iff.mpr hl)]
          simp
        · rw [qs_nt (nI_ne0 (by omega) (by omega)), hneg _ (by omega), show X - (pre.filter (lawB d)).length - 1 = X - ((pre.filter (lawB d)).length + 1) by omega]
          exact hi (by omega)
      · rw [if_neg (fun g => hl (lawB_iff.mp g)), Nat.add_zero] at hi
        rw [qs_t (c := (0 : Int32) = 0) rfl]
        exact hi hX2
theorem nthM {d : PD} (hw : PWf d) {pe ro tu ap : Int32} {woman mate quarrel joined worths : Nat → Int32} (hm : PM d pe ro tu ap woman mate quarrel joined worths) (x : Int32) (perm : Nat → Int32) : (∃ perm' j ρ, x = nI j ∧ (lawL d)[j]? = some ρ ∧ RowM d ρ perm' ∧ f_X11_layNth x (nI (pdn d)) ro tu ap woman mate quarrel joined perm = some (1, perm')) ∨ (∃ perm', f_X2_hasRank x (nI (lawL d).length) = 0 ∧ f_X11_layNth x (nI (pdn d)) ro tu ap woman mate quarrel joined perm = some (0, perm')) := by
  obtain ⟨p, τ, suf, e, h1, h2⟩ := begin_list hw.1 perm
  have hlen := all_len hw.1
  have hll := lawL_len hw.1
  unfold f_X11_layNth f_X2_hasRank
  rw [qs_lt, e, qs_bd, qs_u1]
  by_cases hx : x < 0
  · rw [qs_t hx, qs_t hx]
    have e0 : lf_X11_layNth_16 (nI (pdn d)) ro tu ap woman mate quarrel joined pw_FU x 0 p = some (.inr p) := by
      unfold pw_FU; rw [lf_X11_layNth_16, qs_t rfl]
    rw [e0, qs_br, qs_u1]
    exact Or.inr ⟨p, rfl, rfl⟩
  · rw [qs_f hx, qs_f hx]
    obtain ⟨X, hX, rfl⟩ := nI_of hx
    have hl0 : suf.length + 1 < pw_FU := by rw [h2] at hlen; simp only [List.length_cons] at hlen; unfold pw_FU; omega
    rcases nth_loop hw hm hX suf [] τ pw_FU p h2 h1 hl0 (Nat.zero_le _) with ⟨p', ρ, g1, g2, g3⟩ | ⟨p', g1, g2⟩
    · have g3' : lf_X11_layNth_16 (nI (pdn d)) ro tu ap woman mate quarrel joined pw_FU (nI X) 1 p = some (.inl p') := g3
      rw [g3', qs_bl, qs_u1]
      exact Or.inl ⟨p', X, ρ, rfl, g1, g2, rfl⟩
    · have g2' : lf_X11_layNth_16 (nI (pdn d)) ro tu ap woman mate quarrel joined pw_FU (nI X) 1 p = some (.inr p') := g2
      rw [g2', qs_br, qs_u1]
      exact Or.inr ⟨p', by rw [qs_t (nI_le g1 (by omega))], rfl⟩
end
theorem hasRank_in {d : PD} (hn : pdn d ≤ 7) {j : Nat} {ρ : Nat → Nat} (h : (lawL d)[j]? = some ρ) : f_X2_hasRank (nI j) (nI (lawL d).length) = 1 := by
  have := L_lt h
  have := lawL_len hn
  unfold f_X2_hasRank
  rw [qs_f (nI_pos (by omega)), qs_f (nI_ge (by omega) (by omega))]
theorem Sim_rank_ok : Sim_rank Inv := by
  intro s t hI
  obtain ⟨h1, h2, h3, h4, d, σ, f, hw, hx, hm, hst, hdn, hse, hdx, hsm, hdm, hac, hs0, hs1, hla⟩ := id hI
  have hn := hw.1
  have ep : sx_guests_people s = nI (pdn d) := hx.2.2.2.1
  have em : sm_people t = nI (pdn d) := hm.1
  obtain ⟨v', N', eL, hL⟩ := listX hw hx hla
  obtain ⟨lr, elr, hlr⟩ := lawM1 hw hst hm (SMs_row hsm)
  have hI' : ∀ p', Inv (px_rank s 1 (nI (lawL d).length) v' N') (pm_rank t p') := fun p' => ⟨h1, h2, h3, h4, d, σ, f, hw, hx, hm, hst, hdn, hse, hdx, hsm, hdm, hac, hs0, hs1, LW_RLaw hL⟩
  unfold f_X10_rank f_X11_rank
  rw [ep] at eL
  rw [em] at elr
  rw [ep, em, eL, qs_bd, qs_u4, hse, elr, qs_bd, qs_u1]
  rcases hlr with ⟨rfl, hl⟩ | ⟨rfl, hl⟩
  · rw [qs_nt (c := (1 : Int32) = 0) (by decide)]
    obtain ⟨p', j, hj, e⟩ := rankM hw hm hst hl (SMs_row hsm) (sm_perm_v t)
    rw [e]
    rcases rankX hn hL hst with ⟨j2, hj2, e2⟩ | ⟨g, _⟩
    · have := L_uniq hn hj hj2
      subst this
      rw [e2, qs_bd, qs_u1]
      exact ⟨_, _, _, _, _, _, rfl, rfl, hI' _⟩
    · exact absurd hl g
  · rw [qs_nf (c := (0 : Int32) = 0) rfl]
    rcases rankX hn hL hst with ⟨j2, hj2, e2⟩ | ⟨g, e2⟩
    · exact absurd (L_ST hj2).2 hl
    · rw [e2, qs_bd, qs_u1]
      exact ⟨_, _, _, _, _, _, rfl, rfl, hI' _⟩
theorem Sim_nth_ok : Sim_nth Inv := by
  intro s t hI x1 x2
  obtain ⟨h1, h2, h3, h4, d, σ, f, hw, hx, hm, hst, hdn, hse, hdx, hsm, hdm, hac, hs0, hs1, hla⟩ := id hI
  have hn := hw.1
  have ep : sx_guests_people s = nI (pdn d) := hx.2.2.2.1
  have em : sm_people t = nI (pdn d) := hm.1
  obtain ⟨v', N', eL, hL⟩ := listX hw hx hla
  have hI' : ∀ p', Inv (px_nth s 1 (nI (lawL d).length) v' N') (pm_nth t p') := fun p' => ⟨h1, h2, h3, h4, d, σ, f, hw, hx, hm, hst, hdn, hse, hdx, hsm, hdm, hac, hs0, hs1, LW_RLaw hL⟩
  unfold f_X10_nth f_X11_nth
  rw [ep] at eL
  rw [ep, em, isP_eq x2 hn, qs_bd, qs_u1, qs_lt]
  rcases hp_cases x2 hn with ⟨p, hp, rfl⟩ | h
  · rw [hp_in hp hn, qs_nt (c := (1 : Int32) = 0) (by decide), qs_nt (c := (1 : Int32) = 0) (by decide), eL, qs_bd, qs_u4, qs_lt]
    rcases nthM hw hm x1 (sm_perm_v t) with ⟨p', j, ρ, rfl, g1, g2, g3⟩ | ⟨p', g1, g2⟩
    · have hr := L_ST g1
      rw [hasRank_in hn g1, qs_nt (c := (1 : Int32) = 0) (by decide), seatOf hL g1, qs_bd, qs_u1, qs_lt, on_pk (ST_lt8 hn hr.1) (by omega), g3, qs_bd, qs_u2, qs_f (c := (1 : Int32) = 0) (by decide)]
      simp (disch := omega) only [qs_cl, qg_in2, g2 p hp]
      exact ⟨_, _, _, _, _, _, rfl, rfl, hI' _⟩
    · rw [g1, qs_nf (c := (0 : Int32) = 0) rfl, g2, qs_bd, qs_u2, qs_t (c := (0 : Int32) = 0) rfl]
      exact ⟨_, _, _, _, _, _, rfl, rfl, hI' _⟩
  · rw [hp_out hn h, qs_nf (c := (0 : Int32) = 0) rfl, qs_nf (c := (0 : Int32) = 0) rfl]
    exact ⟨_, _, _, _, _, _, rfl, rfl, hI⟩
theorem els_loop {d : PD} (hn : pdn d ≤ 7) {σ τ : Nat → Nat} (hst : ST d σ) (hst2 : ST d τ) : ∀ (m k : Nat), k ≤ pdn d → pdn d - k < m → lf_X7_elsewhere_5 (nI (pk σ)) (nI (pk τ)) (nI (pdn d)) m (nI (els σ τ k)) (nI k) = some (nI (els σ τ (pdn d))) := by
  intro m
  induction m with
  | zero => intro k h1 h2; omega
  | succ m ih =>
    intro k h1 h2
    rw [lf_X7_elsewhere_5]
    by_cases hk : pdn d ≤ k
    · have : k = pdn d := by omega
      subst this
      rw [qs_t (nI_le hk (by omega))]
    · have hk' : k < pdn d := by omega
      have hs1 := hst.2.1 k hk'
      have hs2 := hst2.2.1 k hk'
      rw [qs_f (nI_ge hk' (by omega)), qs_f (c := (7 : Int32) ≤ nI k) (nI_ge (b := 7) (by omega) (by omega)), qs_lt, qs_lt, on_pk (ST_lt8 hn hst) (by omega), on_pk (ST_lt8 hn hst2) (by omega), nI_1, nI_1]
      have es : els σ τ (k + 1) = els σ τ k + (if decide (σ k ≠ τ k) = true then 1 else 0) := rfl
      have hi := ih (k + 1) (by omega) (by omega)
      by_cases he : σ k = τ k
      · rw [qs_t (c := nI (σ k) = nI (τ k)) (by rw [he])]
        have : els σ τ (k + 1) = els σ τ k := by rw [es, if_neg (by simp [he])]; rfl
        rw [this] at hi; exact hi
      · rw [qs_f (c := nI (σ k) = nI (τ k)) (fun g => he ((nI_eq (by omega) (by omega)).mp g))]
        have : els σ τ (k + 1) = els σ τ k + 1 := by rw [es, if_pos (by simp [he])]
        rw [this] at hi; exact hi
theorem elsX {d : PD} (hn : pdn d ≤ 7) {σ τ : Nat → Nat} (hst : ST d σ) (hst2 : ST d τ) : f_X7_elsewhere (nI (pk σ)) (nI (pk τ)) (nI (pdn d)) = some (nI (els σ τ (pdn d))) := by
  unfold f_X7_elsewhere
  have e : lf_X7_elsewhere_5 (nI (pk σ)) (nI (pk τ)) (nI (pdn d)) pw_FU 0 0 = some (nI (els σ τ (pdn d))) := els_loop hn hst hst2 pw_FU 0 (by omega) (by unfold pw_FU; omega)
  rw [e, qs_bd, qs_u1]
theorem Sim_take_ok : Sim_take Inv := by
  intro s t hI x1
  obtain ⟨h1, h2, h3, h4, d, σ, f, hw, hx, hm, hst, hdn, hse, hdx, hsm, hdm, hac, hs0, hs1, hla⟩ := id hI
  have hn := hw.1
  have ep : sx_guests_people s = nI (pdn d) := hx.2.2.2.1
  have em : sm_people t = nI (pdn d) := hm.1
  obtain ⟨v', N', eL, hL⟩ := listX hw hx hla
  unfold f_X10_take f_X11_take
  rw [ep] at eL
  rw [ep, em, eL, qs_bd, qs_u4, qs_lt]
  rcases nthM hw hm x1 (sm_perm_v t) with ⟨p', j, ρ, rfl, g1, g2, g3⟩ | ⟨p', g1, g2⟩
  · have hr := L_ST g1
    obtain ⟨sz2, bf, df, ac2, nx2, se2, r, eX, eM, hac2, hsm2⟩ := act_sit hn hst hr.1 hdn hac hsm hdm g2
    rw [hasRank_in hn g1, qs_nt (c := (1 : Int32) = 0) (by decide), seatOf hL g1, qs_bd, qs_u1, hse, eX, qs_bd, qs_u4, elsX hn hst hr.1, qs_bd, qs_u1, g3, qs_bd, qs_u2, qs_f (c := (1 : Int32) = 0) (by decide), eM, qs_bd, qs_u5]
    exact ⟨_, _, _, _, _, _, _, _, _, _, _, _, _, _, rfl, rfl, h1, h2, h3, h4, d, ρ, f, hw, hx, hm, hr.1, hdn, rfl, hdx, hsm2, hdm, hac2, hs0, hs1, LW_RLaw hL⟩
  · rw [g1, qs_nf (c := (0 : Int32) = 0) rfl, g2, qs_bd, qs_u2, qs_t (c := (0 : Int32) = 0) rfl]
    exact ⟨_, _, _, _, _, _, _, _, _, _, _, _, _, _, rfl, rfl, h1, h2, h3, h4, d, σ, f, hw, hx, hm, hst, hdn, hse, hdx, hsm, hdm, hac, hs0, hs1, LW_RLaw hL⟩
