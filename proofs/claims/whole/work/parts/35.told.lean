/-! ===== one more of a party is told ===== -/
def two (i j p q : Nat) : Bool := (decide (p = i) && decide (q = j)) || (decide (p = j) && decide (q = i))
theorem two_iff {i j p q : Nat} : two i j p q = true ↔ (p = i ∧ q = j) ∨ (p = j ∧ q = i) := by unfold two; simp only [Bool.or_eq_true, Bool.and_eq_true, decide_eq_true_eq]
theorem two_sym {i j p q : Nat} : two i j p q = two i j q p := by
  rw [Bool.eq_iff_iff, two_iff, two_iff]; omega
def dSin (d : PD) (b : Bool) : PD := (pdn d + 1, pdr d, pdt d, pda d, (fun i => if i = pdn d then b else pdw d i), pdc d, pdq d, pdg d, pdv d)
def dCou (d : PD) : PD := (pdn d + 2, pdr d, pdt d, pda d, (fun i => if i = pdn d then true else if i = pdn d + 1 then false else pdw d i), (fun p q => pdc d p q || two (pdn d) (pdn d + 1) p q), pdq d, pdg d, pdv d)
def dQua (d : PD) (i j : Nat) : PD := (pdn d, pdr d, pdt d, pda d, pdw d, pdc d, (fun p q => pdq d p q || two i j p q), pdg d, pdv d)
def dTog (d : PD) (i j : Nat) : PD := (pdn d, pdr d, pdt d, pda d, pdw d, pdc d, pdq d, (fun p q => pdg d p q || two i j p q), pdv d)
def dWor (d : PD) (i j x : Nat) : PD := (pdn d, pdr d, pdt d, pda d, pdw d, pdc d, pdq d, pdg d, (fun p q => if p = i ∧ q = j then x else pdv d p q))
theorem PrS_mono {n n' : Nat} {f : Nat → Nat → Bool} (h : PrS n f) (hn : n ≤ n') : PrS n' f := ⟨fun p q g => by have := h.1 p q g; omega, h.2⟩
theorem PrS_two {n : Nat} {f : Nat → Nat → Bool} (h : PrS n f) {i j : Nat} (hi : i < n) (hj : j < n) (hne : i ≠ j) : PrS n (fun p q => f p q || two i j p q) := by
  refine ⟨fun p q g => ?_, fun p q => ?_⟩
  · simp only [Bool.or_eq_true, two_iff] at g
    rcases g with g | g
    · exact h.1 p q g
    · omega
  · show (f p q || two i j p q) = (f q p || two i j q p)
    rw [h.2 p q, two_sym]
theorem PrS_no {n : Nat} {f : Nat → Nat → Bool} (h : PrS n f) {p q : Nat} (hp : n ≤ p) : f p q = false := by
  rw [Bool.eq_false_iff]
  intro g
  have := (h.1 p q g).1
  omega
theorem wfSin {d : PD} (hw : PWf d) (h : pdn d < 7) (b : Bool) : PWf (dSin d b) := by
  obtain ⟨w1, w2, w3, w4, w5, w6, w7⟩ := hw
  exact ⟨by show pdn d + 1 ≤ 7; omega, PrS_mono w2 (Nat.le_succ _), PrS_mono w3 (Nat.le_succ _), PrS_mono w4 (Nat.le_succ _), w5, fun p q g => w6 p q (fun g2 => g ⟨Nat.lt_succ_of_lt g2.1, Nat.lt_succ_of_lt g2.2.1, g2.2.2⟩), w7⟩
theorem wfCou {d : PD} (hw : PWf d) (h : pdn d < 6) : PWf (dCou d) := by
  obtain ⟨w1, w2, w3, w4, w5, w6, w7⟩ := hw
  refine ⟨by show pdn d + 2 ≤ 7; omega, ?_, PrS_mono w3 (by show pdn d ≤ pdn d + 2; omega), PrS_mono w4 (by show pdn d ≤ pdn d + 2; omega), fun p q r g1 g2 => ?_, fun p q g => w6 p q (fun g2 => g ⟨by show p < pdn d + 2; omega, by show q < pdn d + 2; omega, g2.2.2⟩), w7⟩
  · exact PrS_two (PrS_mono w2 (show pdn d ≤ pdn d + 2 by omega)) (by omega) (by omega) (by omega)
  · have g1' : (pdc d p q || two (pdn d) (pdn d + 1) p q) = true := g1
    have g2' : (pdc d p r || two (pdn d) (pdn d + 1) p r) = true := g2
    simp only [Bool.or_eq_true, two_iff] at g1' g2'
    rcases g1' with a | a <;> rcases g2' with b | b
    · exact w5 p q r a b
    · have := w2.1 p q a; omega
    · have := w2.1 p r b; omega
    · omega
theorem wfQua {d : PD} (hw : PWf d) {i j : Nat} (hi : i < pdn d) (hj : j < pdn d) (hne : i ≠ j) : PWf (dQua d i j) := by
  obtain ⟨w1, w2, w3, w4, w5, w6, w7⟩ := hw
  exact ⟨w1, w2, PrS_two w3 hi hj hne, w4, w5, w6, w7⟩
theorem wfTog {d : PD} (hw : PWf d) {i j : Nat} (hi : i < pdn d) (hj : j < pdn d) (hne : i ≠ j) : PWf (dTog d i j) := by
  obtain ⟨w1, w2, w3, w4, w5, w6, w7⟩ := hw
  exact ⟨w1, w2, w3, PrS_two w4 hi hj hne, w5, w6, w7⟩
theorem wfWor {d : PD} (hw : PWf d) {i j x : Nat} (hi : i < pdn d) (hj : j < pdn d) (hne : i ≠ j) (hx : x ≤ 9) : PWf (dWor d i j x) := by
  obtain ⟨w1, w2, w3, w4, w5, w6, w7⟩ := hw
  refine ⟨w1, w2, w3, w4, w5, fun p q g => ?_, fun p q => ?_⟩
  · show (if p = i ∧ q = j then x else pdv d p q) = 0
    rw [if_neg (fun g2 => g (by rw [g2.1, g2.2]; exact ⟨hi, hj, hne⟩))]
    exact w6 p q g
  · show (if p = i ∧ q = j then x else pdv d p q) ≤ 9
    split
    · exact hx
    · exact w7 p q
/-! the class's draft -/
theorem dxSin {d : PD} (hn : pdn d < 7) {pe wo : Int32} {co qu to : Int64} {wv : Nat → Int32} (h : DX0 d pe wo co qu to wv) (b : Bool) : DX0 (dSin d b) (nI (pdn d + 1)) (if b = true then wo ||| ((1 : Int32) <<< (nI (pdn d) &&& 31)) else wo) co qu to wv := by
  obtain ⟨a1, a2, a3, a4, a5, a6⟩ := h
  refine ⟨rfl, fun i hi => ?_, a3, a4, a5, a6⟩
  show bt _ i = (decide (i < pdn d + 1) && (if i = pdn d then b else pdw d i))
  have e0 := a2 i hi
  have e1 : bt (if b = true then wo ||| ((1 : Int32) <<< (nI (pdn d) &&& 31)) else wo) i = (bt wo i || (b && decide (i = pdn d))) := by
    cases b
    · simp
    · rw [if_pos rfl, b_or, b_1shl (pdn d) (by omega) i hi, Bool.true_and]
  rw [e1, e0]
  by_cases q : i = pdn d
  · rw [if_pos q]; simp [q]
  · rw [if_neg q]
    have : decide (i < pdn d + 1) = decide (i < pdn d) := by rw [decide_eq_decide]; omega
    rw [this]; simp [q]
theorem dxCou {d : PD} (hn : pdn d < 6) {pe wo : Int32} {co qu to : Int64} {wv : Nat → Int32} (h : DX0 d pe wo co qu to wv) : DX0 (dCou d) (nI (pdn d + 2)) (wo ||| ((1 : Int32) <<< (nI (pdn d) &&& 31))) (co ||| f_X3_bothWays (nI (pdn d)) (nI (pdn d + 1))) qu to wv := by
  obtain ⟨a1, a2, a3, a4, a5, a6⟩ := h
  refine ⟨rfl, fun i hi => ?_, Mt_or a3 (Mt_both (by omega) (by omega)), a4, a5, a6⟩
  show bt _ i = (decide (i < pdn d + 2) && (if i = pdn d then true else if i = pdn d + 1 then false else pdw d i))
  rw [b_or, a2 i hi, b_1shl (pdn d) (by omega) i hi]
  by_cases q : i = pdn d
  · rw [if_pos q]; simp [q]
  · rw [if_neg q]
    by_cases q2 : i = pdn d + 1
    · rw [if_pos q2]; simp [q2]; exact fun g => absurd g (by omega)
    · rw [if_neg q2]
      have : decide (i < pdn d + 2) = decide (i < pdn d) := by rw [decide_eq_decide]; omega
      rw [this]; simp [q]
theorem dxQua {d : PD} {pe wo : Int32} {co qu to : Int64} {wv : Nat → Int32} (h : DX0 d pe wo co qu to wv) {i j : Nat} (hi : i < 8) (hj : j < 8) : DX0 (dQua d i j) pe wo co (qu ||| f_X3_bothWays (nI i) (nI j)) to wv := by
  obtain ⟨a1, a2, a3, a4, a5, a6⟩ := h
  exact ⟨a1, a2, a3, Mt_or a4 (Mt_both hi hj), a5, a6⟩
theorem dxTog {d : PD} {pe wo : Int32} {co qu to : Int64} {wv : Nat → Int32} (h : DX0 d pe wo co qu to wv) {i j : Nat} (hi : i < 8) (hj : j < 8) : DX0 (dTog d i j) pe wo co qu (to ||| f_X3_bothWays (nI i) (nI j)) wv := by
  obtain ⟨a1, a2, a3, a4, a5, a6⟩ := h
  exact ⟨a1, a2, a3, a4, Mt_or a5 (Mt_both hi hj), a6⟩
theorem dxWor {d : PD} {pe wo : Int32} {co qu to : Int64} {wv : Nat → Int32} (h : DX0 d pe wo co qu to wv) {i j x : Nat} (hi : i < 8) (hj : j < 8) : DX0 (dWor d i j x) pe wo co qu to (upd wv (8 * i + j) (nI x)) := by
  obtain ⟨a1, a2, a3, a4, a5, a6⟩ := h
  refine ⟨a1, a2, a3, a4, a5, fun p q hp hq => ?_⟩
  show upd wv (8 * i + j) (nI x) (8 * p + q) = nI (if p = i ∧ q = j then x else pdv d p q)
  by_cases g : p = i ∧ q = j
  · rw [if_pos g, g.1, g.2, pk_us]
  · rw [if_neg g, pk_un (by omega)]; exact a6 p q hp hq
/-! the model's -/
theorem add_lp {n : Nat} (hn : n < 7) : ∀ (m k : Nat) (w : Nat → Int32), k ≤ 7 → 7 - k < m → (∀ q, q < k → w (7 * n + q) = 0) → ∃ w', lf_X11_add_42 (nI n) m (nI k) w = some w' ∧ (∀ q, q < 7 → w' (7 * n + q) = 0) ∧ ∀ i, i < 7 * n → w' i = w i := by
  intro m
  induction m with
  | zero => intro k w h1 h2; omega
  | succ m ih =>
    intro k w h1 h2 h3
    rw [lf_X11_add_42]
    by_cases hk : 7 ≤ k
    · rw [qs_t (c := (7 : Int32) ≤ nI k) (nI_le (a := 7) hk (by omega))]
      exact ⟨w, rfl, fun q hq => h3 q (by omega), fun _ _ => rfl⟩
    · rw [qs_f (c := (7 : Int32) ≤ nI k) (nI_ge (b := 7) (by omega) (by omega))]
      simp (disch := omega) only [qs_7, qs_cl, qg_in2, qs_lt, nI_1]
      obtain ⟨w', e1, e2, e3⟩ := ih (k + 1) (upd w (7 * n + k) 0) (by omega) (by omega) (fun q hq => by
        by_cases g : q = k
        · rw [g, pk_us]
        · rw [pk_un (by omega)]; exact h3 q (by omega))
      exact ⟨w', e1, e2, fun i hi => by rw [e3 i hi, pk_un (by omega)]⟩
theorem add1M (b : Bool) (x2 : Int32) {n : Nat} (hn : n < 7) (woman mate quarrel joined worth : Nat → Int32) : ∃ w', f_X11_add (b2i b) x2 (nI n) woman mate quarrel joined worth = some (nI (n + 1), upd woman n (b2i b), upd mate n x2, upd quarrel n 0, upd joined n 0, w') ∧ (∀ q, q < 7 → w' (7 * n + q) = 0) ∧ ∀ i, i < 7 * n → w' i = worth i := by
  obtain ⟨w', e1, e2, e3⟩ := add_lp hn pw_FU 0 worth (by omega) (by unfold pw_FU; omega) (fun q hq => absurd hq (Nat.not_lt_zero _))
  have e1' : lf_X11_add_42 (nI n) pw_FU 0 worth = some w' := e1
  unfold f_X11_add
  have hb : vp_nar .boolean (b2i b) = b2i b := nar_b (by cases b; exact Or.inl rfl; exact Or.inr rfl)
  simp (disch := omega) only [qs_cl, qg_in2, qs_lt, hb, e1', qs_bd, qs_u1, nI_1]
  exact ⟨w', rfl, e2, e3⟩
theorem dmSin {d : PD} (hw : PWf d) {pm : Int32} {woman mate quarrel joined worth : Nat → Int32} (h : DM0 d pm woman mate quarrel joined worth) (b : Bool) {w' : Nat → Int32} (h1 : ∀ q, q < 7 → w' (7 * pdn d + q) = 0) (h2 : ∀ i, i < 7 * pdn d → w' i = worth i) : DM0 (dSin d b) (nI (pdn d + 1)) (upd woman (pdn d) (b2i b)) (upd mate (pdn d) (-9)) (upd quarrel (pdn d) 0) (upd joined (pdn d) 0) w' := by
  obtain ⟨a1, a2, a3, a4, a5, a6⟩ := h
  obtain ⟨w1, w2, w3, w4, w5, w6, w7⟩ := hw
  have hlt : ∀ p, p < pdn (dSin d b) → p = pdn d ∨ (p < pdn d ∧ p ≠ pdn d) := fun p hp => by
    have : p < pdn d + 1 := hp
    omega
  refine ⟨rfl, fun p hp => ?_, fun p hp => ?_, fun p hp i hi => ?_, fun p hp i hi => ?_, fun p q hp hq => ?_⟩
  · show _ = b2i (if p = pdn d then b else pdw d p)
    rcases hlt p hp with g | ⟨g, g2⟩
    · rw [if_pos g, g, pk_us]
    · rw [if_neg g2, pk_un g2]; exact a2 p g
  · show (∀ q, pdc d p q = true → _) ∧ ((∀ q, pdc d p q = false) → _)
    rcases hlt p hp with g | ⟨g, g2⟩
    · rw [g, pk_us]
      exact ⟨fun q g3 => by rw [PrS_no w2 (Nat.le_refl _)] at g3; exact absurd g3 (by decide), fun _ => rfl⟩
    · rw [pk_un g2]; exact a3 p g
  · show bt _ i = pdq d p i
    rcases hlt p hp with g | ⟨g, g2⟩
    · rw [g, pk_us, b_0, PrS_no w3 (Nat.le_refl _)]
    · rw [pk_un g2]; exact a4 p g i hi
  · show bt _ i = pdg d p i
    rcases hlt p hp with g | ⟨g, g2⟩
    · rw [g, pk_us, b_0, PrS_no w4 (Nat.le_refl _)]
    · rw [pk_un g2]; exact a5 p g i hi
  · show _ = nI (pdv d p q)
    rcases hlt p hp with g | ⟨g, g2⟩
    · rw [g, h1 q hq, w6 (pdn d) q (by omega)]; rfl
    · rw [h2 _ (by omega)]; exact a6 p q g hq
theorem dmCou {d : PD} (hw : PWf d) {pm : Int32} {woman mate quarrel joined worth : Nat → Int32} (h : DM0 d pm woman mate quarrel joined worth) {w1' w2' : Nat → Int32} (h1 : ∀ q, q < 7 → w1' (7 * pdn d + q) = 0) (h2 : ∀ i, i < 7 * pdn d → w1' i = worth i) (h3 : ∀ q, q < 7 → w2' (7 * (pdn d + 1) + q) = 0) (h4 : ∀ i, i < 7 * (pdn d + 1) → w2' i = w1' i) : DM0 (dCou d) (nI (pdn d + 2)) (upd (upd woman (pdn d) (b2i true)) (pdn d + 1) (b2i false)) (upd (upd mate (pdn d) (nI (pdn d + 1))) (pdn d + 1) (nI (pdn d))) (upd (upd quarrel (pdn d) 0) (pdn d + 1) 0) (upd (upd joined (pdn d) 0) (pdn d + 1) 0) w2' := by
  obtain ⟨a1, a2, a3, a4, a5, a6⟩ := h
  obtain ⟨w1, w2, w3, w4, w5, w6, w7⟩ := hw
  have hlt : ∀ p, p < pdn (dCou d) → p = pdn d + 1 ∨ (p = pdn d ∧ p ≠ pdn d + 1) ∨ (p < pdn d ∧ p ≠ pdn d ∧ p ≠ pdn d + 1) := fun p hp => by
    have : p < pdn d + 2 := hp
    omega
  have hne : pdn d ≠ pdn d + 1 := by omega
  refine ⟨rfl, fun p hp => ?_, fun p hp => ?_, fun p hp i hi => ?_, fun p hp i hi => ?_, fun p q hp hq => ?_⟩
  · show _ = b2i (if p = pdn d then true else if p = pdn d + 1 then false else pdw d p)
    rcases hlt p hp with g | ⟨g, g2⟩ | ⟨g, g2, g3⟩
    · rw [g, if_neg (Ne.symm hne), if_pos rfl, pk_us]
    · rw [if_pos g, g, pk_un hne, pk_us]
    · rw [if_neg g2, if_neg g3, pk_un g3, pk_un g2]; exact a2 p g
  · show (∀ q, (pdc d p q || two (pdn d) (pdn d + 1) p q) = true → _) ∧ ((∀ q, (pdc d p q || two (pdn d) (pdn d + 1) p q) = false) → _)
    rcases hlt p hp with g | ⟨g, g2⟩ | ⟨g, g2, g3⟩
    · subst g
      rw [pk_us]
      refine ⟨fun q g3 => ?_, fun g3 => ?_⟩
      · rw [PrS_no w2 (by omega), Bool.false_or, two_iff] at g3
        have : q = pdn d := by omega
        rw [this]
      · have := g3 (pdn d)
        rw [PrS_no w2 (by omega), Bool.false_or, Bool.eq_false_iff, ne_eq, two_iff] at this
        exact absurd (Or.inr ⟨rfl, rfl⟩) this
    · subst g
      rw [pk_un hne, pk_us]
      refine ⟨fun q g3 => ?_, fun g3 => ?_⟩
      · rw [PrS_no w2 (by omega), Bool.false_or, two_iff] at g3
        have : q = pdn d + 1 := by omega
        rw [this]
      · have := g3 (pdn d + 1)
        rw [PrS_no w2 (by omega), Bool.false_or, Bool.eq_false_iff, ne_eq, two_iff] at this
        exact absurd (Or.inl ⟨rfl, rfl⟩) this
    · rw [pk_un g3, pk_un g2]
      have e : ∀ q, two (pdn d) (pdn d + 1) p q = false := fun q => by
        rw [Bool.eq_false_iff, ne_eq, two_iff]; omega
      refine ⟨fun q g4 => (a3 p g).1 q ?_, fun g4 => (a3 p g).2 (fun q => ?_)⟩
      · rw [e q, Bool.or_false] at g4; exact g4
      · have := g4 q
        rw [e q, Bool.or_false] at this; exact this
  · show bt _ i = pdq d p i
    rcases hlt p hp with g | ⟨g, g2⟩ | ⟨g, g2, g3⟩
    · rw [g, pk_us, b_0, PrS_no w3 (by omega)]
    · rw [pk_un g2, g, pk_us, b_0, PrS_no w3 (by omega)]
    · rw [pk_un g3, pk_un g2]; exact a4 p g i hi
  · show bt _ i = pdg d p i
    rcases hlt p hp with g | ⟨g, g2⟩ | ⟨g, g2, g3⟩
    · rw [g, pk_us, b_0, PrS_no w4 (by omega)]
    · rw [pk_un g2, g, pk_us, b_0, PrS_no w4 (by omega)]
    · rw [pk_un g3, pk_un g2]; exact a5 p g i hi
  · show _ = nI (pdv d p q)
    rcases hlt p hp with g | ⟨g, g2⟩ | ⟨g, g2, g3⟩
    · rw [g, h3 q hq, w6 (pdn d + 1) q (by omega)]; rfl
    · rw [g, h4 _ (by omega), h1 q hq, w6 (pdn d) q (by omega)]; rfl
    · rw [h4 _ (by omega), h2 _ (by omega)]; exact a6 p q g hq
theorem row2 {f : Nat → Int32} {g : Nat → Nat → Bool} {n i j : Nat} (hi : i < n) (hj : j < n) (hne : i ≠ j) (hn : n ≤ 7) (h : ∀ p, p < n → ∀ b, b < 32 → bt (f p) b = g p b) : ∀ p, p < n → ∀ b, b < 32 → bt (upd (upd f i (f i ||| ((1 : Int32) <<< (nI j &&& 31)))) j (upd f i (f i ||| ((1 : Int32) <<< (nI j &&& 31))) j ||| ((1 : Int32) <<< (nI i &&& 31))) p) b = (g p b || two i j p b) := by
  intro p hp b hb
  by_cases q1 : p = j
  · rw [q1, pk_us, pk_un (Ne.symm hne), b_or, h j hj b hb, b_1shl i (by omega) b hb]
    congr 1
    rw [Bool.eq_iff_iff, two_iff, decide_eq_true_eq]; omega
  · rw [pk_un q1]
    by_cases q2 : p = i
    · rw [q2, pk_us, b_or, h i hi b hb, b_1shl j (by omega) b hb]
      congr 1
      rw [Bool.eq_iff_iff, two_iff, decide_eq_true_eq]; omega
    · rw [pk_un q2, h p hp b hb]
      have : two i j p b = false := by rw [Bool.eq_false_iff, ne_eq, two_iff]; omega
      rw [this, Bool.or_false]
theorem rowZ {f : Nat → Int32} {i j : Nat} : upd (upd f i (f i ||| 0)) j (upd f i (f i ||| 0) j ||| 0) = f := by
  funext p
  rw [or_zero, or_zero]
  by_cases q1 : p = j
  · rw [q1, pk_us]
    by_cases q2 : j = i
    · rw [q2, pk_us]
    · rw [pk_un q2]
  · rw [pk_un q1]
    by_cases q2 : p = i
    · rw [q2, pk_us]
    · rw [pk_un q2]
theorem dmQua {d : PD} (hn : pdn d ≤ 7) {pm : Int32} {woman mate quarrel joined worth : Nat → Int32} (h : DM0 d pm woman mate quarrel joined worth) {i j : Nat} (hi : i < pdn d) (hj : j < pdn d) (hne : i ≠ j) : DM0 (dQua d i j) pm woman mate (upd (upd quarrel i (quarrel i ||| ((1 : Int32) <<< (nI j &&& 31)))) j (upd quarrel i (quarrel i ||| ((1 : Int32) <<< (nI j &&& 31))) j ||| ((1 : Int32) <<< (nI i &&& 31)))) joined worth := by
  obtain ⟨a1, a2, a3, a4, a5, a6⟩ := h
  exact ⟨a1, a2, a3, row2 hi hj hne hn a4, a5, a6⟩
theorem dmTog {d : PD} (hn : pdn d ≤ 7) {pm : Int32} {woman mate quarrel joined worth : Nat → Int32} (h : DM0 d pm woman mate quarrel joined worth) {i j : Nat} (hi : i < pdn d) (hj : j < pdn d) (hne : i ≠ j) : DM0 (dTog d i j) pm woman mate quarrel (upd (upd joined i (joined i ||| ((1 : Int32) <<< (nI j &&& 31)))) j (upd joined i (joined i ||| ((1 : Int32) <<< (nI j &&& 31))) j ||| ((1 : Int32) <<< (nI i &&& 31)))) worth := by
  obtain ⟨a1, a2, a3, a4, a5, a6⟩ := h
  exact ⟨a1, a2, a3, a4, row2 hi hj hne hn a5, a6⟩
theorem dmWor {d : PD} (hn : pdn d ≤ 7) {pm : Int32} {woman mate quarrel joined worth : Nat → Int32} (h : DM0 d pm woman mate quarrel joined worth) {i j : Nat} (hi : i < pdn d) (hj : j < pdn d) (x : Nat) : DM0 (dWor d i j x) pm woman mate quarrel joined (upd worth (7 * i + j) (nI x)) := by
  obtain ⟨a1, a2, a3, a4, a5, a6⟩ := h
  refine ⟨a1, a2, a3, a4, a5, fun p q hp hq => ?_⟩
  show upd worth (7 * i + j) (nI x) (7 * p + q) = nI (if p = i ∧ q = j then x else pdv d p q)
  by_cases g : p = i ∧ q = j
  · rw [if_pos g, g.1, g.2, pk_us]
  · rw [if_neg g, pk_un (by omega)]; exact a6 p q hp hq
