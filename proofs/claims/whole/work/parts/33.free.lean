/-! ===== the text read: what a draft holds ===== -/
def DX0 (d : PD) (people women : Int32) (couples quarrels togethers : Int64) (worths : Nat → Int32) : Prop :=
  people = nI (pdn d) ∧ (∀ i, i < 32 → bt women i = (decide (i < pdn d) && pdw d i)) ∧ Mt couples (pdc d) ∧ Mt quarrels (pdq d) ∧ Mt togethers (pdg d) ∧ ∀ p q, p < 8 → q < 8 → worths (8 * p + q) = nI (pdv d p q)
def DM0 (d : PD) (people : Int32) (woman mate quarrel joined worth : Nat → Int32) : Prop :=
  people = nI (pdn d) ∧ (∀ p, p < pdn d → woman p = b2i (pdw d p)) ∧ (∀ p, p < pdn d → (∀ q, pdc d p q = true → mate p = nI q) ∧ ((∀ q, pdc d p q = false) → mate p = -9)) ∧ (∀ p, p < pdn d → ∀ i, i < 32 → bt (quarrel p) i = pdq d p i) ∧ (∀ p, p < pdn d → ∀ i, i < 32 → bt (joined p) i = pdg d p i) ∧ ∀ p q, p < pdn d → q < 7 → worth (7 * p + q) = nI (pdv d p q)
/-! with whom one may still be told -/
def frB (w : Bool) (d : PD) (i j : Nat) : Bool := decide (j < pdn d) && decide (j ≠ i) && cond w (decide (pdv d i j = 0)) (!(pdq d i j || pdg d i j))
def frA (w : Bool) (d : PD) (i : Nat) : Bool := (List.range (pdn d)).any (frB w d i)
def frE (w : Bool) (d : PD) : Bool := (List.range (pdn d)).any (frA w d)
theorem frB_lt {w : Bool} {d : PD} {i j : Nat} (h : frB w d i j = true) : j < pdn d ∧ j ≠ i := by
  unfold frB at h
  simp only [Bool.and_eq_true, decide_eq_true_eq] at h
  exact ⟨h.1.1, h.1.2⟩
theorem frA_iff {w : Bool} {d : PD} {i : Nat} : frA w d i = true ↔ ∃ j, frB w d i j = true := by
  unfold frA
  rw [List.any_eq_true]
  constructor
  · rintro ⟨j, _, h⟩; exact ⟨j, h⟩
  · rintro ⟨j, h⟩; exact ⟨j, List.mem_range.mpr (frB_lt h).1, h⟩
theorem frE_iff {w : Bool} {d : PD} : frE w d = true ↔ ∃ i, i < pdn d ∧ frA w d i = true := by
  unfold frE
  rw [List.any_eq_true]
  constructor
  · rintro ⟨j, h1, h⟩; exact ⟨j, List.mem_range.mp h1, h⟩
  · rintro ⟨j, h1, h⟩; exact ⟨j, List.mem_range.mpr h1, h⟩
def Fre (w : Bool) (d : PD) (i : Nat) (x : Int32) : Prop := ∀ b, b < 32 → bt x b = frB w d i b
theorem bt_zero {x : Int32} : x = 0 ↔ ∀ b, b < 32 → bt x b = false := by
  constructor
  · intro h b _; rw [h, b_0]
  · intro h; exact b_ext (fun b hb => by rw [h b hb, b_0])
theorem Fre_0 {w : Bool} {d : PD} (hn : pdn d ≤ 7) {i : Nat} {x : Int32} (h : Fre w d i x) : x = 0 ↔ frA w d i = false := by
  rw [bt_zero, Bool.eq_false_iff, ne_eq, frA_iff]
  constructor
  · rintro g ⟨j, hj⟩
    have := g j (by have := (frB_lt hj).1; omega)
    rw [h j (by have := (frB_lt hj).1; omega), hj] at this
    exact absurd this (by decide)
  · intro g b hb
    rw [h b hb, Bool.eq_false_iff]
    exact fun q => g ⟨b, q⟩
theorem msk : ∀ n, n < 8 → ∀ b, b < 32 → bt (((1 : Int32) <<< (nI n &&& 31)) - 1) b = decide (b < n) := by decide +kernel
theorem free_v {n i b : Nat} (hn : n ≤ 7) (hi : i < n) (hb : b < 32) : bt ((((1 : Int32) <<< (nI n &&& 31)) - 1) &&& (((1 : Int32) <<< (nI i &&& 31)) ^^^ (-1))) b = (decide (b < n) && decide (b ≠ i)) := by
  rw [b_and, msk n (by omega) b hb, b_xor, b_1shl i (by omega) b hb, b_m1 b hb]
  by_cases h : b = i <;> simp [h]
theorem fr45 {d : PD} (hw : PWf d) {i : Nat} (hi : i < pdn d) {wv : Nat → Int32} (hv : ∀ p q, p < 8 → q < 8 → wv (8 * p + q) = nI (pdv d p q)) : ∀ (m k : Nat) (x : Int32), k ≤ pdn d → pdn d - k < m → (∀ b, b < 32 → bt x b = (decide (b < pdn d) && decide (b ≠ i) && (decide (k ≤ b) || decide (pdv d i b = 0)))) → ∃ y, lf_X5_freeBeside_45 (nI i) (nI (pdn d)) wv m x (nI k) = some y ∧ Fre true d i y := by
  have hn := hw.1
  intro m
  induction m with
  | zero => intro k x h1 h2; omega
  | succ m ih =>
    intro k x h1 h2 h3
    rw [lf_X5_freeBeside_45]
    by_cases hk : pdn d ≤ k
    · rw [qs_t (nI_le hk (by omega))]
      refine ⟨x, rfl, fun b hb => ?_⟩
      rw [h3 b hb]
      unfold frB
      by_cases q : b < pdn d
      · have : ¬ k ≤ b := by omega
        simp [q, this]
      · simp [q]
    · have hk' : k < pdn d := by omega
      have h9 := hw.2.2.2.2.2.2 i k
      rw [qs_f (nI_ge hk' (by omega)), qs_f (c := (7 : Int32) ≤ nI k) (nI_ge (b := 7) (by omega) (by omega)), qs_lt, cell_nI (by omega) (by omega)]
      simp (disch := omega) only [qs_cl, qg_in2, qs_lt, nI_1, hv i k (by omega) (by omega)]
      by_cases hz : pdv d i k = 0
      · rw [hz, qs_t (c := nI 0 = 0) rfl]
        refine ih (k + 1) x (by omega) (by omega) (fun b hb => ?_)
        rw [h3 b hb]
        by_cases q : b = k
        · subst q; simp [hz]
        · have : decide (k ≤ b) = decide (k + 1 ≤ b) := by rw [decide_eq_decide]; omega
          rw [this]
      · rw [qs_f (nI_ne0 (by omega) (by omega))]
        refine ih (k + 1) _ (by omega) (by omega) (fun b hb => ?_)
        rw [b_and, h3 b hb, b_xor, b_1shl k (by omega) b hb, b_m1 b hb]
        by_cases q : b = k
        · subst q; simp [hz]
        · have : decide (k ≤ b) = decide (k + 1 ≤ b) := by rw [decide_eq_decide]; omega
          rw [this]; simp [q]
theorem freeX {d : PD} (hw : PWf d) {i : Nat} (hi : i < pdn d) {pe wo : Int32} {co qu to : Int64} {wv : Nat → Int32} (h : DX0 d pe wo co qu to wv) (ki : Int32) : ∃ y, f_X5_freeBeside (nI i) ki (nI (pdn d)) qu to wv = some y ∧ Fre (decide (ki = 87)) d i y := by
  have hn := hw.1
  obtain ⟨a1, a2, a3, a4, a5, a6⟩ := h
  unfold f_X5_freeBeside
  rw [qs_lt]
  by_cases hk : ki = 87
  · obtain ⟨y, e, hy⟩ := fr45 hw hi a6 pw_FU 0 _ (by omega) (by unfold pw_FU; omega) (fun b hb => by rw [free_v hn hi hb]; simp)
    have e' : lf_X5_freeBeside_45 (nI i) (nI (pdn d)) wv pw_FU ((((1 : Int32) <<< (nI (pdn d) &&& 31)) - 1) &&& (((1 : Int32) <<< (nI i &&& 31)) ^^^ (-1))) 0 = some y := e
    rw [qs_t hk, e', qs_bd, qs_u1, decide_eq_true hk]
    exact ⟨y, rfl, hy⟩
  · rw [qs_f hk, qs_lt, decide_eq_false hk]
    refine ⟨_, rfl, fun b hb => ?_⟩
    rw [b_and, free_v hn hi hb, b_xor, Mt_row (Mt_or a4 a5) (by omega) hb, b_m1 b hb]
    unfold frB
    by_cases q : b < pdn d
    · have : b < 8 := by omega
      simp [q, this]
    · simp [q]
theorem some_loop {d : PD} (hw : PWf d) {pe wo : Int32} {co qu to : Int64} {wv : Nat → Int32} (h : DX0 d pe wo co qu to wv) (ki : Int32) : ∀ (m k : Nat), k ≤ pdn d → pdn d - k < m → (∀ i, i < k → frA (decide (ki = 87)) d i = false) → lf_X5_someAreFree_2 ki (nI (pdn d)) qu to wv m (nI k) = some (if frE (decide (ki = 87)) d = true then .inl () else .inr ()) := by
  have hn := hw.1
  intro m
  induction m with
  | zero => intro k h1 h2; omega
  | succ m ih =>
    intro k h1 h2 h3
    rw [lf_X5_someAreFree_2]
    by_cases hk : pdn d ≤ k
    · rw [qs_t (nI_le hk (by omega)), if_neg (fun g => by
        obtain ⟨i, hi, g2⟩ := frE_iff.mp g
        rw [h3 i (by omega)] at g2
        exact absurd g2 (by decide))]
    · have hk' : k < pdn d := by omega
      obtain ⟨y, e, hy⟩ := freeX hw hk' h ki
      have hz := Fre_0 hn hy
      rw [qs_f (nI_ge hk' (by omega)), qs_f (c := (7 : Int32) ≤ nI k) (nI_ge (b := 7) (by omega) (by omega)), e, qs_bd, qs_u1, nI_1]
      by_cases hy0 : y = 0
      · rw [qs_t hy0]
        exact ih (k + 1) (by omega) (by omega) (fun i hi => by
          by_cases q : i = k
          · rw [q]; exact hz.mp hy0
          · exact h3 i (by omega))
      · rw [qs_f hy0, if_pos (frE_iff.mpr ⟨k, hk', by
          rcases Bool.eq_false_or_eq_true (frA (decide (ki = 87)) d k) with g | g
          · exact g
          · exact absurd (hz.mpr g) hy0⟩)]
theorem someX {d : PD} (hw : PWf d) {pe wo : Int32} {co qu to : Int64} {wv : Nat → Int32} (h : DX0 d pe wo co qu to wv) (ki : Int32) : f_X5_someAreFree ki (nI (pdn d)) qu to wv = some (b2i (frE (decide (ki = 87)) d)) := by
  have e : lf_X5_someAreFree_2 ki (nI (pdn d)) qu to wv pw_FU 0 = _ := some_loop hw h ki pw_FU 0 (by omega) (by have := hw.1; unfold pw_FU; omega) (fun i hi => absurd hi (Nat.not_lt_zero _))
  unfold f_X5_someAreFree
  rw [e]
  cases frE (decide (ki = 87)) d
  · rw [if_neg (by decide), qs_br]; rfl
  · rw [if_pos rfl, qs_bl]; rfl
/-! the model's -/
theorem opn_flag {d : PD} (hw : PWf d) {pm : Int32} {woman mate quarrel joined worth : Nat → Int32} (h : DM0 d pm woman mate quarrel joined worth) {i k : Nat} (hi : i < pdn d) (hk : k < pdn d) (w : Bool) (K : Int32 → Option Int32) : pw_jn K (fun k4 => pw_cd (b2i w = 0) (pw_gd (¬ (nI i < 0 ∨ 7 ≤ Int32.toNatClampNeg (nI i))) <| pw_gd (¬ (nI i < 0 ∨ 7 ≤ Int32.toNatClampNeg (nI i))) <| pw_cd (¬ ((((quarrel (Int32.toNatClampNeg (nI i))) ||| (joined (Int32.toNatClampNeg (nI i)))) >>> (nI k &&& 31)) &&& 1) = 0) (k4 0) (k4 1)) (pw_gd (¬ (((7 * nI i) + nI k) < 0 ∨ 49 ≤ Int32.toNatClampNeg ((7 * nI i) + nI k))) <| pw_cd (¬ (worth (Int32.toNatClampNeg ((7 * nI i) + nI k))) = 0) (k4 0) (k4 1))) = K (b2i (cond w (decide (pdv d i k = 0)) (!(pdq d i k || pdg d i k)))) := by
  have hn := hw.1
  obtain ⟨a1, a2, a3, a4, a5, a6⟩ := h
  have h9 := hw.2.2.2.2.2.2 i k
  rw [qs_jn]
  cases w
  · rw [qs_t (c := b2i false = 0) rfl]
    simp (disch := omega) only [qs_cl, qg_in2]
    have hb := bt_1 (quarrel i ||| joined i) (q := k) (by omega)
    rw [b_or, a4 i hi k (by omega), a5 i hi k (by omega)] at hb
    cases hq : (pdq d i k || pdg d i k)
    · rw [qs_nf (hb.mpr hq)]; rfl
    · rw [qs_nt (fun g => by rw [hb.mp g] at hq; exact absurd hq (by decide))]; rfl
  · rw [qs_f (c := b2i true = 0) (by decide)]
    simp (disch := omega) only [qs_7, qs_cl, qg_in2, a6 i k hi (by omega)]
    by_cases hz : pdv d i k = 0
    · rw [hz, qs_nf (c := nI 0 = 0) rfl]; simp [b2i]
    · rw [qs_nt (nI_ne0 (by omega) (by omega))]; simp [hz, b2i]
theorem or_zero (x : Int32) : x ||| 0 = x := b_ext (fun i _ => by rw [b_or, b_0, Bool.or_false])
theorem opn_loop {d : PD} (hw : PWf d) {pm : Int32} {woman mate quarrel joined worth : Nat → Int32} (h : DM0 d pm woman mate quarrel joined worth) {i : Nat} (hi : i < pdn d) (w : Bool) : ∀ (m k : Nat) (x : Int32), k ≤ pdn d → pdn d - k < m → (∀ b, b < 32 → bt x b = (decide (b < k) && frB w d i b)) → ∃ y, lf_X11_open_5 (nI i) (b2i w) (nI (pdn d)) quarrel joined worth m x (nI k) = some y ∧ Fre w d i y := by
  have hn := hw.1
  intro m
  induction m with
  | zero => intro k x h1 h2; omega
  | succ m ih =>
    intro k x h1 h2 h3
    rw [lf_X11_open_5]
    by_cases hk : pdn d ≤ k
    · rw [qs_t (nI_le hk (by omega))]
      refine ⟨x, rfl, fun b hb => ?_⟩
      rw [h3 b hb]
      by_cases q : b < k
      · simp [q]
      · have : frB w d i b = false := by
          rw [Bool.eq_false_iff]
          intro g
          have := (frB_lt g).1
          omega
        simp [this]
    · have hk' : k < pdn d := by omega
      have hstep : ∀ y : Int32, (∀ b, b < 32 → bt y b = (decide (b < k) && frB w d i b || (decide (b = k) && frB w d i k))) → ∃ z, lf_X11_open_5 (nI i) (b2i w) (nI (pdn d)) quarrel joined worth m y (nI (k + 1)) = some z ∧ Fre w d i z := fun y hy => ih (k + 1) y (by omega) (by omega) (fun b hb => by
        rw [hy b hb]
        by_cases q : b = k
        · subst q; simp
        · have : decide (b < k + 1) = decide (b < k) := by rw [decide_eq_decide]; omega
          rw [this]; simp [q])
      rw [qs_f (nI_ge hk' (by omega)), opn_flag hw h hi hk' w, nI_1]
      simp only [qs_lt, or_zero]
      by_cases q : k = i
      · rw [qs_t (c := nI k = nI i) (by rw [q])]
        refine hstep x (fun b hb => ?_)
        have : frB w d i k = false := by unfold frB; simp [q]
        rw [h3 b hb, this]; simp
      · rw [qs_f (c := nI k = nI i) (fun g => q ((nI_eq (by omega) (by omega)).mp g))]
        have ef : frB w d i k = cond w (decide (pdv d i k = 0)) (!(pdq d i k || pdg d i k)) := by unfold frB; simp [q, hk']
        rw [← ef]
        cases hf : frB w d i k
        · rw [qs_t (c := b2i false = 0) rfl]
          refine hstep x (fun b hb => ?_)
          rw [h3 b hb, hf]; simp
        · rw [qs_f (c := b2i true = 0) (by decide)]
          refine hstep _ (fun b hb => ?_)
          rw [b_or, h3 b hb, hf, b_1shl k (by omega) b hb]; simp
theorem openM {d : PD} (hw : PWf d) {pm : Int32} {woman mate quarrel joined worth : Nat → Int32} (h : DM0 d pm woman mate quarrel joined worth) {i : Nat} (hi : i < pdn d) (w : Bool) : ∃ y, f_X11_open (nI i) (b2i w) (nI (pdn d)) quarrel joined worth = some y ∧ Fre w d i y := by
  obtain ⟨y, e, hy⟩ := opn_loop hw h hi w pw_FU 0 0 (by omega) (by have := hw.1; unfold pw_FU; omega) (fun b hb => by rw [b_0]; simp)
  have e' : lf_X11_open_5 (nI i) (b2i w) (nI (pdn d)) quarrel joined worth pw_FU 0 0 = some y := e
  unfold f_X11_open
  rw [e', qs_bd, qs_u1]
  exact ⟨y, rfl, hy⟩
theorem beg_lp {d : PD} (hw : PWf d) {pm : Int32} {woman mate quarrel joined worth : Nat → Int32} (h : DM0 d pm woman mate quarrel joined worth) (w : Bool) : ∀ (m k : Nat) (x : Int32), k ≤ pdn d → pdn d - k < m → (∀ b, b < 32 → bt x b = (decide (b < k) && frA w d b)) → ∃ y, lf_X11_begins_4 (b2i w) (nI (pdn d)) quarrel joined worth m x (nI k) = some y ∧ ∀ b, b < 32 → bt y b = (decide (b < pdn d) && frA w d b) := by
  have hn := hw.1
  intro m
  induction m with
  | zero => intro k x h1 h2; omega
  | succ m ih =>
    intro k x h1 h2 h3
    rw [lf_X11_begins_4]
    by_cases hk : pdn d ≤ k
    · have : k = pdn d := by omega
      subst this
      rw [qs_t (nI_le hk (by omega))]
      exact ⟨x, rfl, h3⟩
    · have hk' : k < pdn d := by omega
      obtain ⟨y, e, hy⟩ := openM hw h hk' w
      have hz := Fre_0 hn hy
      rw [qs_f (nI_ge hk' (by omega)), e, qs_bd, qs_u1, nI_1]
      simp only [qs_lt, or_zero]
      by_cases hy0 : y = 0
      · rw [qs_t hy0]
        refine ih (k + 1) x (by omega) (by omega) (fun b hb => ?_)
        rw [h3 b hb]
        by_cases q : b = k
        · subst q; rw [hz.mp hy0]; simp
        · have : decide (b < k + 1) = decide (b < k) := by rw [decide_eq_decide]; omega
          rw [this]
      · rw [qs_f hy0]
        have hA : frA w d k = true := by
          rcases Bool.eq_false_or_eq_true (frA w d k) with g | g
          · exact g
          · exact absurd (hz.mpr g) hy0
        refine ih (k + 1) _ (by omega) (by omega) (fun b hb => ?_)
        rw [b_or, h3 b hb, b_1shl k (by omega) b hb]
        by_cases q : b = k
        · subst q; simp [hA]
        · have : decide (b < k + 1) = decide (b < k) := by rw [decide_eq_decide]; omega
          rw [this]; simp [q]
theorem begsM {d : PD} (hw : PWf d) {pm : Int32} {woman mate quarrel joined worth : Nat → Int32} (h : DM0 d pm woman mate quarrel joined worth) (w : Bool) : ∃ y, f_X11_begins (b2i w) (nI (pdn d)) quarrel joined worth = some y ∧ (∀ b, b < 32 → bt y b = (decide (b < pdn d) && frA w d b)) ∧ (y = 0 ↔ frE w d = false) := by
  have hn := hw.1
  obtain ⟨y, e, hy⟩ := beg_lp hw h w pw_FU 0 0 (by omega) (by unfold pw_FU; omega) (fun b hb => by rw [b_0]; simp)
  have e' : lf_X11_begins_4 (b2i w) (nI (pdn d)) quarrel joined worth pw_FU 0 0 = some y := e
  unfold f_X11_begins
  rw [e', qs_bd, qs_u1]
  refine ⟨y, rfl, hy, ?_⟩
  rw [bt_zero, Bool.eq_false_iff, ne_eq, frE_iff]
  constructor
  · rintro g ⟨i, hi, g2⟩
    have := g i (by omega)
    rw [hy i (by omega), g2] at this
    simp [hi] at this
  · intro g b hb
    rw [hy b hb, Bool.eq_false_iff]
    intro q
    simp only [Bool.and_eq_true, decide_eq_true_eq] at q
    exact g ⟨b, q.1, q.2⟩
