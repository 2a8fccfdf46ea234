/-! ===== a seating's number among all (the model's code) ===== -/
theorem bt_b (x : Int32) {q : Nat} (hq : q < 31) : ((x >>> (nI q &&& 31)) &&& 1) = b2i (bt x q) := by
  cases h : bt x q
  · exact (bt_1 x hq).mpr h
  · refine b_ext (fun i hi => ?_)
    have e1 : ∀ i, i < 32 → bt (b2i true) i = decide (i = 0) := by decide +kernel
    have e2 : ∀ i, i < 32 → bt 1 i = decide (i = 0) := by decide +kernel
    rw [b_and, b_sshr q (by omega) x hi, e1 i hi, e2 i hi]
    by_cases h0 : i = 0
    · subst h0; rw [if_pos (by omega), Nat.add_zero, h]; rfl
    · simp [h0]
def dgp (τ : Nat → Nat) (c e : Nat) : Bool := decide (c < e) && decide (τ e < τ c)
def dig (d : PD) (τ : Nat → Nat) (c : Nat) : Nat := cnt (dgp τ c) (pdn d)
def cdh (d : PD) (τ : Nat → Nat) : Nat → Nat
  | 0 => 0
  | k + 1 => cdh d τ k * (pdn d - k) + dig d τ k
def cod (d : PD) (τ : Nat → Nat) : Nat := cdh d τ (pdn d)
theorem cnt_from {p : Nat → Bool} {c : Nat} (h : ∀ e, e ≤ c → p e = false) : ∀ n, cnt p n ≤ n - (c + 1) := by
  intro n
  induction n with
  | zero => exact Nat.zero_le _
  | succ n ih =>
    have e : cnt p (n + 1) = cnt p n + (if p n = true then 1 else 0) := rfl
    by_cases hn : n ≤ c
    · rw [e, h n hn, if_neg (by decide)]; omega
    · rw [e]; split <;> omega
theorem dig_lt {d : PD} {τ : Nat → Nat} {c : Nat} (hc : c < pdn d) : dig d τ c < pdn d - c := by
  have := cnt_from (p := dgp τ c) (c := c) (fun e he => by unfold dgp; simp; omega) (pdn d)
  unfold dig; omega
def prd (n : Nat) : Nat → Nat
  | 0 => 1
  | k + 1 => prd n k * (n - k)
theorem prd_fct {n : Nat} : ∀ k, k ≤ n → prd n k * fct (n - k) = fct n := by
  intro k
  induction k with
  | zero => intro _; show 1 * fct (n - 0) = _; rw [Nat.one_mul, Nat.sub_zero]
  | succ k ih =>
    intro h
    have e : fct (n - k) = (n - k) * fct (n - (k + 1)) := by
      have : n - k = (n - (k + 1)) + 1 := by omega
      rw [this]; rfl
    show prd n k * (n - k) * fct (n - (k + 1)) = _
    rw [Nat.mul_assoc, ← e, ih (by omega)]
theorem cdh_lt {d : PD} {τ : Nat → Nat} : ∀ k, k ≤ pdn d → cdh d τ k < prd (pdn d) k := by
  intro k
  induction k with
  | zero => intro _; exact Nat.one_pos
  | succ k ih =>
    intro h
    have h1 := ih (by omega)
    have h2 := dig_lt (d := d) (τ := τ) (show k < pdn d by omega)
    show cdh d τ k * (pdn d - k) + dig d τ k < prd (pdn d) k * (pdn d - k)
    have h3 : (cdh d τ k + 1) * (pdn d - k) ≤ prd (pdn d) k * (pdn d - k) := Nat.mul_le_mul_right _ h1
    rw [Nat.add_mul, Nat.one_mul] at h3
    omega
theorem code_lt {d : PD} (hn : pdn d ≤ 6) {τ : Nat → Nat} : cod d τ < 720 := by
  have h1 := cdh_lt (d := d) (τ := τ) (pdn d) (Nat.le_refl _)
  have h2 := prd_fct (n := pdn d) (pdn d) (Nat.le_refl _)
  rw [Nat.sub_self] at h2
  have h3 : fct 0 = 1 := rfl
  rw [h3, Nat.mul_one] at h2
  rw [h2] at h1
  have h4 : ∀ n, n ≤ 6 → fct n ≤ 720 := by decide
  have := h4 _ hn
  unfold cod; omega
theorem prd_le {n : Nat} (hn : n ≤ 7) {k : Nat} (hk : k ≤ n) : prd n k ≤ 5040 := by
  have h := prd_fct k hk
  have h1 := fct_pos (n - k)
  have h2 := fct_le n hn
  have : prd n k * 1 ≤ prd n k * fct (n - k) := Nat.mul_le_mul_left _ h1
  omega
/-! the model finds it -/
theorem dig_loop {d : PD} (hn : pdn d ≤ 7) {τ : Nat → Nat} (hst : ST d τ) {row : Nat → Int32} (hrow : RowM d τ row) {c : Nat} (hc : c < pdn d) : ∀ (m e : Nat), c < e → e ≤ pdn d → pdn d - e < m → lf_X11_codeOf_20 (nI c) (nI (pdn d)) row m (nI (cnt (dgp τ c) e)) (nI e) = some (nI (dig d τ c)) := by
  intro m
  induction m with
  | zero => intro e h0 h1 h2; omega
  | succ m ih =>
    intro e h0 h1 h2
    rw [lf_X11_codeOf_20]
    by_cases he : pdn d ≤ e
    · have : e = pdn d := by omega
      subst this
      rw [qs_t (nI_le he (by omega))]; rfl
    · have he' : e < pdn d := by omega
      have hs1 := hst.2.1 c hc
      have hs2 := hst.2.1 e he'
      have es : cnt (dgp τ c) (e + 1) = cnt (dgp τ c) e + (if dgp τ c e = true then 1 else 0) := rfl
      have hi := ih (e + 1) (by omega) (by omega) (by omega)
      rw [es] at hi
      rw [qs_f (nI_ge he' (by omega))]
      simp (disch := omega) only [qs_cl, qg_in2, qs_lt, nI_1, hrow c hc, hrow e he']
      by_cases hlt : τ c ≤ τ e
      · have : dgp τ c e = false := by unfold dgp; simp; omega
        rw [this, if_neg (by decide), Nat.add_zero] at hi
        rw [qs_t (nI_le hlt (by omega))]
        have h0' : nI (cnt (dgp τ c) e) + 0 = nI (cnt (dgp τ c) e) := by show nI _ + nI 0 = _; rw [nI_add]; rfl
        rw [h0']; exact hi
      · have : dgp τ c e = true := by unfold dgp; simp; omega
        rw [this, if_pos rfl] at hi
        rw [qs_f (nI_ge (by omega) (by omega))]
        exact hi
theorem code_loop {d : PD} (hn : pdn d ≤ 7) {τ : Nat → Nat} (hst : ST d τ) {row : Nat → Int32} (hrow : RowM d τ row) : ∀ (m k : Nat), k ≤ pdn d → pdn d - k < m → lf_X11_codeOf_4 (nI (pdn d)) row m (nI (cdh d τ k)) (nI k) = some (nI (cod d τ)) := by
  intro m
  induction m with
  | zero => intro k h1 h2; omega
  | succ m ih =>
    intro k h1 h2
    rw [lf_X11_codeOf_4]
    by_cases hk : pdn d ≤ k
    · have : k = pdn d := by omega
      subst this
      rw [qs_t (nI_le hk (by omega))]; rfl
    · have hk' : k < pdn d := by omega
      have hz : cnt (dgp τ k) (k + 1) = 0 := by
        have := cnt_from (p := dgp τ k) (c := k) (fun e he => by unfold dgp; simp; omega) (k + 1)
        omega
      have e1 : lf_X11_codeOf_20 (nI k) (nI (pdn d)) row pw_FU 0 (nI (k + 1)) = some (nI (dig d τ k)) := by
        have := dig_loop hn hst hrow hk' pw_FU (k + 1) (by omega) (by omega) (by unfold pw_FU; omega)
        rw [hz] at this; exact this
      rw [qs_f (nI_ge hk' (by omega)), nI_1, qs_lt, e1, qs_bd, qs_u1, qs_lt, pk_sub (by omega), pk_mul, nI_add]
      exact ih (k + 1) (by omega) (by omega)
theorem codeM {d : PD} (hn : pdn d ≤ 7) {τ : Nat → Nat} (hst : ST d τ) {row : Nat → Int32} (hrow : RowM d τ row) : f_X11_codeOf (nI (pdn d)) row = some (nI (cod d τ)) := by
  unfold f_X11_codeOf
  have e : lf_X11_codeOf_4 (nI (pdn d)) row pw_FU 0 0 = some (nI (cod d τ)) := code_loop hn hst hrow pw_FU 0 (by omega) (by unfold pw_FU; omega)
  rw [e, qs_bd, qs_u1]
/-! and back -/
theorem dec_loop {d : PD} (hn : pdn d ≤ 7) {τ : Nat → Nat} : ∀ (m k : Nat) (dg : Nat → Int32), k ≤ pdn d → k < m → (∀ c, k ≤ c → c < pdn d → dg c = nI (dig d τ c)) → ∃ dg', lf_X11_layCode_9 (nI (pdn d)) m (nI (cdh d τ k)) (nI k - 1) dg = some dg' ∧ ∀ c, c < pdn d → dg' c = nI (dig d τ c) := by
  intro m
  induction m with
  | zero => intro k dg h1 h2; omega
  | succ m ih =>
    intro k dg h1 h2 h3
    rw [lf_X11_layCode_9]
    cases k with
    | zero =>
      rw [qs_t (c := nI 0 - 1 < 0) (by decide)]
      exact ⟨dg, rfl, fun c hc => h3 c (by omega) hc⟩
    | succ k =>
      have hd := dig_lt (d := d) (τ := τ) (show k < pdn d by omega)
      have hc := cdh_lt (d := d) (τ := τ) (k + 1) h1
      have hp := prd_le hn h1
      have es : cdh d τ (k + 1) = cdh d τ k * (pdn d - k) + dig d τ k := rfl
      have hmod : cdh d τ (k + 1) % (pdn d - k) = dig d τ k := by
        rw [es, Nat.mul_comm, Nat.mul_add_mod, Nat.mod_eq_of_lt hd]
      have hdiv : cdh d τ (k + 1) / (pdn d - k) = cdh d τ k := by
        rw [es, Nat.mul_comm, Nat.mul_add_div (by omega), Nat.div_eq_of_lt hd, Nat.add_zero]
      have hne : ¬ nI (pdn d - k) = 0 := nI_ne0 (by omega) (by omega)
      rw [nI_dn, nI_pred, qs_f (nI_pos (by omega)), pk_sub (by omega), qs_g hne, pk_rem (by omega) (by omega) (by omega), pk_div (by omega) (by omega) (by omega), hmod, hdiv]
      simp (disch := omega) only [qs_cl, qg_in2, qs_lt]
      rw [qs_g hne]
      exact ih k _ (by omega) (by omega) (fun c h4 h5 => by
        by_cases q : c = k
        · rw [q, pk_us]
        · rw [pk_un q]; exact h3 c (by omega) h5)
theorem dig_un {d : PD} {τ : Nat → Nat} (hst : ST d τ) {c : Nat} (hc : c < pdn d) : dig d τ c = cnt (fun p => decide (p < τ c) && !sea τ c p) (pdn d) := by
  unfold dig
  rw [cnt_sm, cnt_sm, ← sm_perm hst (F := fun p => if (decide (p < τ c) && !sea τ c p) = true then 1 else 0)]
  refine sm_cong (fun e he => ?_)
  have : dgp τ c e = (decide (τ e < τ c) && !sea τ c (τ e)) := by
    unfold dgp
    rw [Bool.eq_iff_iff]
    simp only [Bool.and_eq_true, decide_eq_true_eq, Bool.not_eq_true', Bool.eq_false_iff, ne_eq, sea_iff]
    constructor
    · rintro ⟨h1, h2⟩
      refine ⟨h2, ?_⟩
      rintro ⟨e', h3, h4⟩
      have := hst.2.2 e' e (by omega) he h4
      omega
    · rintro ⟨h1, h2⟩
      refine ⟨?_, h1⟩
      rcases Nat.lt_trichotomy c e with g | g | g
      · exact g
      · rw [g] at h1; omega
      · exact absurd ⟨e, g, rfl⟩ h2
  rw [this]
theorem pick_loop {d : PD} (hn : pdn d ≤ 7) {τ : Nat → Nat} (hst : ST d τ) {c : Nat} (hc : c < pdn d) {mask : Int32} (hm : ∀ i, i < 31 → bt mask i = sea τ c i) : ∀ (m p : Nat), p ≤ τ c → τ c - p < m → lf_X11_layCode_68 mask m (nI p) (nI (dig d τ c - cnt (fun q => decide (q < τ c) && !sea τ c q) p)) = some (nI (τ c)) := by
  have hs := hst.2.1 c hc
  have hfull : ∀ k, τ c ≤ k → cnt (fun q => decide (q < τ c) && !sea τ c q) k = cnt (fun q => decide (q < τ c) && !sea τ c q) (τ c) := fun k hk => by
    obtain ⟨j, rfl⟩ : ∃ j, k = τ c + j := ⟨k - τ c, by omega⟩
    exact cnt_off (fun i h1 h2 => by simp; omega)
  have hdig : dig d τ c = cnt (fun q => decide (q < τ c) && !sea τ c q) (τ c) := by
    rw [dig_un hst hc, hfull _ (by omega)]
  have hself : sea τ c (τ c) = false := by
    rw [Bool.eq_false_iff]
    intro g
    obtain ⟨e, he, g2⟩ := sea_iff.mp g
    have := hst.2.2 e c (by omega) hc g2
    omega
  intro m
  induction m with
  | zero => intro p h1 h2; omega
  | succ m ih =>
    intro p h1 h2
    have hb : ((mask >>> (nI p &&& 31)) &&& 1) = b2i (sea τ c p) := by rw [bt_b mask (by omega), hm p (by omega)]
    have hm0 : dig d τ c ≤ 7 := by have := dig_lt (d := d) (τ := τ) hc; omega
    rw [lf_X11_layCode_68, hb, qs_jn]
    simp only [qs_lt, nI_1]
    by_cases hp : p = τ c
    · subst hp
      rw [hdig, Nat.sub_self, qs_f (c := (0 : Int32) < nI 0) (by decide), hself, qs_t (c := ¬ b2i false = 1) (by decide)]
    · have hp' : p < τ c := by omega
      have es : cnt (fun q => decide (q < τ c) && !sea τ c q) (p + 1) = cnt (fun q => decide (q < τ c) && !sea τ c q) p + (if (decide (p < τ c) && !sea τ c p) = true then 1 else 0) := rfl
      have hi := ih (p + 1) (by omega) (by omega)
      rw [es] at hi
      cases hse : sea τ c p
      · rw [hse] at hi
        have hcond : (decide (p < τ c) && !false) = true := by simp [hp']
        rw [if_pos hcond] at hi
        have hcm := cnt_mono (fun q => decide (q < τ c) && !sea τ c q) (show p + 1 ≤ τ c by omega)
        rw [es, hse, if_pos hcond, ← hdig] at hcm
        have e1 : nI (dig d τ c - cnt (fun q => decide (q < τ c) && !sea τ c q) p) - 1 = nI (dig d τ c - (cnt (fun q => decide (q < τ c) && !sea τ c q) p + 1)) := by
          rw [nI_sub1 (by omega)]; congr 1
        rw [qs_t (c := (0 : Int32) < nI (dig d τ c - cnt (fun q => decide (q < τ c) && !sea τ c q) p)) (nI_lt (a := 0) (by omega) (by omega)), qs_f (c := ¬ b2i false = 0) (by decide), e1]
        exact hi
      · rw [hse] at hi
        rw [if_neg (by simp), Nat.add_zero] at hi
        have e0 : ∀ x : Int32, x - 0 = x := fun x => Int32.sub_zero x
        rw [qs_t (c := ¬ b2i true = 0) (by decide), e0, qs_f (c := ¬ b2i true = 1) (by decide)]
        unfold pw_cd
        split <;> exact hi
theorem lay47 {d : PD} (hn : pdn d ≤ 7) {τ : Nat → Nat} (hst : ST d τ) {dg : Nat → Int32} (hdg : ∀ c, c < pdn d → dg c = nI (dig d τ c)) : ∀ (m c : Nat) (mask : Int32) (perm : Nat → Int32), c ≤ pdn d → pdn d - c < m → (∀ i, i < 32 → bt mask i = sea τ c i) → (∀ e, e < c → perm e = nI (τ e)) → ∃ perm', lf_X11_layCode_47 (nI (pdn d)) dg m mask (nI c) perm = some perm' ∧ RowM d τ perm' := by
  intro m
  induction m with
  | zero => intro c mask perm h1 h2; omega
  | succ m ih =>
    intro c mask perm h1 h2 hm hp
    rw [lf_X11_layCode_47]
    by_cases hc : pdn d ≤ c
    · have : c = pdn d := by omega
      subst this
      rw [qs_t (nI_le hc (by omega))]
      exact ⟨perm, rfl, hp⟩
    · have hc' : c < pdn d := by omega
      have hs := hst.2.1 c hc'
      have e1 : lf_X11_layCode_68 mask pw_FU 0 (nI (dig d τ c)) = some (nI (τ c)) := pick_loop hn hst hc' (fun i hi => hm i (by omega)) pw_FU 0 (by omega) (by unfold pw_FU; omega)
      rw [qs_f (nI_ge hc' (by omega))]
      simp (disch := omega) only [qs_cl, qg_in2, qs_lt, nI_1, hdg c hc', e1, qs_bd, qs_u1]
      refine ih (c + 1) _ _ (by omega) (by omega) (fun i hi => ?_) (fun e he => ?_)
      · rw [b_or, hm i hi, b_1shl (τ c) (by omega) i hi, Bool.eq_iff_iff, Bool.or_eq_true, sea_iff, sea_iff, decide_eq_true_eq]
        constructor
        · rintro (⟨e, he, g⟩ | g)
          · exact ⟨e, by omega, g⟩
          · exact ⟨c, by omega, g.symm⟩
        · rintro ⟨e, he, g⟩
          by_cases q : e = c
          · rw [q] at g; exact Or.inr g.symm
          · exact Or.inl ⟨e, by omega, g⟩
      · by_cases q : e = c
        · rw [q, pk_us]
        · rw [pk_un q]; exact hp e (by omega)
theorem layM {d : PD} (hn : pdn d ≤ 7) {τ : Nat → Nat} (hst : ST d τ) (perm dg : Nat → Int32) : ∃ perm' dg', f_X11_layCode (nI (cod d τ)) (nI (pdn d)) perm dg = some (perm', dg') ∧ RowM d τ perm' := by
  unfold f_X11_layCode
  obtain ⟨dg', e1, h1⟩ := dec_loop hn (τ := τ) pw_FU (pdn d) dg (Nat.le_refl _) (by unfold pw_FU; omega) (fun c h1 h2 => by omega)
  have e1' : lf_X11_layCode_9 (nI (pdn d)) pw_FU (nI (cod d τ)) (nI (pdn d) - 1) dg = some dg' := e1
  obtain ⟨p', e2, h2⟩ := lay47 hn hst h1 pw_FU 0 0 perm (by omega) (by unfold pw_FU; omega) (fun i hi => by rw [b_0]; rfl) (fun e he => absurd he (Nat.not_lt_zero _))
  have e2' : lf_X11_layCode_47 (nI (pdn d)) dg' pw_FU 0 0 perm = some p' := e2
  rw [qs_lt, e1', qs_bd, qs_u1, e2', qs_bd, qs_u1]
  exact ⟨_, _, rfl, h2⟩
theorem RowM_uniq {d : PD} (hn : pdn d ≤ 7) {σ τ : Nat → Nat} (h1 : ST d σ) (h2 : ST d τ) {row : Nat → Int32} (r1 : RowM d σ row) (r2 : RowM d τ row) : σ = τ := ST_ext h1 h2 (fun c hc => by
  have e := (r1 c hc).symm.trans (r2 c hc)
  have a := h1.2.1 c hc
  have b := h2.2.1 c hc
  exact (nI_eq (by omega) (by omega)).mp e)
theorem code_inj {d : PD} (hn : pdn d ≤ 7) {σ τ : Nat → Nat} (h1 : ST d σ) (h2 : ST d τ) (e : cod d σ = cod d τ) : σ = τ := by
  obtain ⟨p1, q1, e1, r1⟩ := layM hn h1 (fun _ => 0) (fun _ => 0)
  obtain ⟨p2, q2, e2, r2⟩ := layM hn h2 (fun _ => 0) (fun _ => 0)
  rw [e, e2] at e1
  obtain ⟨g, _⟩ := Prod.mk.inj (Option.some.inj e1)
  subst g
  exact RowM_uniq hn h1 h2 r1 r2
