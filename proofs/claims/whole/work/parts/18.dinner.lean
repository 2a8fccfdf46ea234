/-! ===== a dinner ===== -/
def Fp (d : PD) (σ : Nat → Nat) (f : Nat → Nat → Nat) (j : Nat) : Nat := f (σ j) (σ (bhd d j))
theorem most_loop {d : PD} {σ : Nat → Nat} {f : Nat → Nat → Nat} {a : Nat → Int32} (hn : pdn d ≤ 7) (hst : ST d σ) (hs : ∀ p q, f p q = f q p) (h99 : ∀ p q, f p q ≤ 99) (h : DX f a) : ∀ (m k M : Nat), k ≤ npr d → npr d - k < m → M ≤ 99 → ∃ M', lf_X8_mostDined_10 (f_X4_neighbourPairs (b2i (pdr d)) (nI (pdn d))) (nI (pk σ)) a (nI (pdn d)) m (nI M) (nI k) = some (nI M') ∧ M' ≤ 99 ∧ (99 ≤ M' ↔ 99 ≤ M ∨ ∃ j, k ≤ j ∧ j < npr d ∧ 99 ≤ Fp d σ f j) := by
  intro m
  induction m with
  | zero => intro k M h1 h2; omega
  | succ m ih =>
    intro k M h1 h2 hM
    have hk7 : k ≤ 7 := Nat.le_trans h1 (Nat.le_trans npr_le hn)
    rw [lf_X8_mostDined_10]
    by_cases hk : npr d ≤ k
    · rw [qs_t ((pairs_le hn hk7).mpr hk)]
      refine ⟨M, rfl, hM, Or.inl, ?_⟩
      rintro (g | ⟨j, g1, g2, _⟩)
      · exact g
      · omega
    · have hk' : k < npr d := by omega
      have hkn : k < pdn d := Nat.lt_of_lt_of_le hk' npr_le
      obtain ⟨ec, hc64⟩ := cop_eq hn hst hk'
      rw [qs_f (fun h => hk ((pairs_le hn hk7).mp h)), qs_f (c := (7 : Int32) ≤ nI k) (nI_ge (b := 7) (by omega) (by omega)), qs_lt, ec]
      simp (disch := omega) only [qs_cl, qg_in2, qs_lt, nI_1]
      rw [DX_clk hn hst hs h hk']
      have hF : Fp d σ f k ≤ 99 := h99 _ _
      have hFe : f (σ k) (σ (bhd d k)) = Fp d σ f k := rfl
      rw [hFe]
      have em : (if nI M < nI (Fp d σ f k) then nI (Fp d σ f k) else nI M) = nI (if M < Fp d σ f k then Fp d σ f k else M) := by
        by_cases hl : M < Fp d σ f k
        · rw [if_pos hl, if_pos (nI_lt hl (by omega))]
        · rw [if_neg hl, if_neg (nI_nlt (by omega) (by omega))]
      rw [em]
      obtain ⟨M', e, g1, g2⟩ := ih (k + 1) (if M < Fp d σ f k then Fp d σ f k else M) (by omega) (by omega) (by split <;> omega)
      refine ⟨M', e, g1, g2.trans ?_⟩
      constructor
      · rintro (g | ⟨j, q1, q2, q3⟩)
        · by_cases hl : M < Fp d σ f k
          · rw [if_pos hl] at g; exact Or.inr ⟨k, by omega, hk', g⟩
          · rw [if_neg hl] at g; exact Or.inl g
        · exact Or.inr ⟨j, by omega, q2, q3⟩
      · rintro (g | ⟨j, q1, q2, q3⟩)
        · refine Or.inl ?_
          by_cases hl : M < Fp d σ f k
          · rw [if_pos hl]; omega
          · rw [if_neg hl]; exact g
        · by_cases hj : j = k
          · subst hj
            refine Or.inl ?_
            by_cases hl : M < Fp d σ f j
            · rw [if_pos hl]; exact q3
            · rw [if_neg hl]; omega
          · exact Or.inr ⟨j, by omega, q2, q3⟩
theorem mostX {d : PD} {σ : Nat → Nat} {f : Nat → Nat → Nat} {a : Nat → Int32} (hn : pdn d ≤ 7) (hst : ST d σ) (hs : ∀ p q, f p q = f q p) (h99 : ∀ p q, f p q ≤ 99) (h : DX f a) : ∃ M, f_X8_mostDined (nI (pk σ)) a (b2i (pdr d)) (nI (pdn d)) = some (nI M) ∧ M ≤ 99 ∧ (99 ≤ M ↔ ∃ j, j < npr d ∧ 99 ≤ Fp d σ f j) := by
  obtain ⟨M, e, g1, g2⟩ := most_loop hn hst hs h99 h pw_FU 0 0 (by omega) (by have := npr_le (d := d); unfold pw_FU; omega) (by omega)
  have e' : lf_X8_mostDined_10 (f_X4_neighbourPairs (b2i (pdr d)) (nI (pdn d))) (nI (pk σ)) a (nI (pdn d)) pw_FU 0 0 = some (nI M) := e
  unfold f_X8_mostDined
  rw [qs_lt, e', qs_bd, qs_u1]
  refine ⟨M, rfl, g1, g2.trans ?_⟩
  constructor
  · rintro (g | ⟨j, _, q2, q3⟩)
    · omega
    · exact ⟨j, q2, q3⟩
  · rintro ⟨j, q2, q3⟩; exact Or.inr ⟨j, by omega, q2, q3⟩
def G1 (x : Nat) : Nat := if 0 < x then 1 else 0
theorem knew_loop {d : PD} {σ : Nat → Nat} {f : Nat → Nat → Nat} {a : Nat → Int32} (hn : pdn d ≤ 7) (hst : ST d σ) (hs : ∀ p q, f p q = f q p) (h99 : ∀ p q, f p q ≤ 99) (h : DX f a) : ∀ (m k : Nat), k ≤ npr d → npr d - k < m → lf_X8_pairsThatDined_10 (f_X4_neighbourPairs (b2i (pdr d)) (nI (pdn d))) (nI (pk σ)) a (nI (pdn d)) m (nI (sm (fun j => G1 (Fp d σ f j)) k)) (nI k) = some (nI (sm (fun j => G1 (Fp d σ f j)) (npr d))) := by
  intro m
  induction m with
  | zero => intro k h1 h2; omega
  | succ m ih =>
    intro k h1 h2
    have hk7 : k ≤ 7 := Nat.le_trans h1 (Nat.le_trans npr_le hn)
    rw [lf_X8_pairsThatDined_10]
    by_cases hk : npr d ≤ k
    · have ek : k = npr d := by omega
      rw [qs_t ((pairs_le hn hk7).mpr hk), ek]
    · have hk' : k < npr d := by omega
      have hkn : k < pdn d := Nat.lt_of_lt_of_le hk' npr_le
      obtain ⟨ec, hc64⟩ := cop_eq hn hst hk'
      rw [qs_f (fun h => hk ((pairs_le hn hk7).mp h)), qs_f (c := (7 : Int32) ≤ nI k) (nI_ge (b := 7) (by omega) (by omega)), qs_lt, ec]
      simp (disch := omega) only [qs_cl, qg_in2, qs_lt, nI_1]
      rw [DX_clk hn hst hs h hk']
      have hF : Fp d σ f k ≤ 99 := h99 _ _
      have hFe : f (σ k) (σ (bhd d k)) = Fp d σ f k := rfl
      rw [hFe]
      have i1 := ih (k + 1) (by omega) (by omega)
      rw [sm] at i1
      by_cases h0 : Fp d σ f k = 0
      · rw [qs_t (c := nI (Fp d σ f k) ≤ 0) (by rw [h0]; decide)]
        have : G1 (Fp d σ f k) = 0 := by rw [h0]; rfl
        rw [this, Nat.add_zero] at i1; exact i1
      · rw [qs_f (c := nI (Fp d σ f k) ≤ 0) (nI_nle (by omega) (by omega))]
        have : G1 (Fp d σ f k) = 1 := by unfold G1; rw [if_pos (by omega)]
        rw [this] at i1; exact i1
theorem knewX {d : PD} {σ : Nat → Nat} {f : Nat → Nat → Nat} {a : Nat → Int32} (hn : pdn d ≤ 7) (hst : ST d σ) (hs : ∀ p q, f p q = f q p) (h99 : ∀ p q, f p q ≤ 99) (h : DX f a) : f_X8_pairsThatDined (nI (pk σ)) a (b2i (pdr d)) (nI (pdn d)) = some (nI (sm (fun j => G1 (Fp d σ f j)) (npr d))) := by
  have e : lf_X8_pairsThatDined_10 (f_X4_neighbourPairs (b2i (pdr d)) (nI (pdn d))) (nI (pk σ)) a (nI (pdn d)) pw_FU 0 0 = some (nI (sm (fun j => G1 (Fp d σ f j)) (npr d))) := knew_loop hn hst hs h99 h pw_FU 0 (by omega) (by have := npr_le (d := d); unfold pw_FU; omega)
  unfold f_X8_pairsThatDined
  rw [qs_lt, e, qs_bd, qs_u1]
/-! the model: is it full -/
theorem dm0 {d : PD} {f : Nat → Nat → Nat} {a : Nat → Int32} (h : DMs d f a 0) {p q : Nat} (hp : p < pdn d) (hq : q < pdn d) : a (7 * p + q) = nI (f p q) := by
  have := h p q hp hq
  rw [Nat.zero_add] at this; exact this
theorem full_in {d : PD} {σ : Nat → Nat} {f : Nat → Nat → Nat} {seat a : Nat → Int32} (hn : pdn d ≤ 7) (hst : ST d σ) (h99 : ∀ p q, f p q ≤ 99) (hrow : RowM d σ seat) (h : DMs d f a 0) {c : Nat} (hc : c < pdn d) : ∀ (m e : Nat) (full : Int32) (Z : Prop), e ≤ c → c - e < m → IsB full Z → ∃ r, lf_X11_dinner_14 (nI c) (nI (pdn d)) (b2i (pdr d)) seat a m full (nI e) = some r ∧ IsB r (Z ∨ ∃ e', e ≤ e' ∧ e' < c ∧ nx d c e' = true ∧ f (σ c) (σ e') = 99) := by
  intro m
  induction m with
  | zero => intro e full Z h1 h2; omega
  | succ m ih =>
    intro e full Z h1 h2 hf
    rw [lf_X11_dinner_14]
    by_cases he : c ≤ e
    · rw [qs_t (nI_le he (by omega))]
      refine ⟨full, rfl, IsB_iff hf ⟨Or.inl, ?_⟩⟩
      rintro (g | ⟨e', g1, g2, _⟩)
      · exact g
      · omega
    · have he' : e < c := by omega
      rw [qs_f (nI_ge he' (by omega)), nI_1]
      have go : ∀ (v : Int32) (Y : Prop), IsB v Y → (Y ↔ Z ∨ (nx d c e = true ∧ f (σ c) (σ e) = 99)) → ∃ r, lf_X11_dinner_14 (nI c) (nI (pdn d)) (b2i (pdr d)) seat a m v (nI (e + 1)) = some r ∧ IsB r (Z ∨ ∃ e', e ≤ e' ∧ e' < c ∧ nx d c e' = true ∧ f (σ c) (σ e') = 99) := by
        intro v Y hv hY
        obtain ⟨r, e1, g1⟩ := ih (e + 1) v Y (by omega) (by omega) hv
        refine ⟨r, e1, IsB_iff g1 ?_⟩
        rw [hY]
        constructor
        · rintro ((g | g) | ⟨e', q1, q2, q3⟩)
          · exact Or.inl g
          · exact Or.inr ⟨e, by omega, he', g⟩
          · exact Or.inr ⟨e', by omega, q2, q3⟩
        · rintro (g | ⟨e', q1, q2, q3⟩)
          · exact Or.inl (Or.inl g)
          · by_cases q : e' = e
            · subst q; exact Or.inl (Or.inr q3)
            · exact Or.inr ⟨e', by omega, q2, q3⟩
      rcases hf with ⟨rfl, hz⟩ | ⟨rfl, hz⟩
      · rw [qs_t (c := ¬ (1 : Int32) = 0) (by decide)]
        exact go 1 Z (Or.inl ⟨rfl, hz⟩) ⟨Or.inl, fun _ => hz⟩
      · rw [qs_f (c := ¬ (0 : Int32) = 0) (fun g => g rfl), qs_lt, next_eq hn hc (by omega) (by omega)]
        cases hnx : nx d c e
        · rw [qs_t (c := b2i false = 0) rfl]
          exact go 0 Z (Or.inr ⟨rfl, hz⟩) ⟨Or.inl, by rintro (g | g); exact g; exact absurd g.1 (by rw [hnx]; decide)⟩
        · have hsc := hst.2.1 c hc
          have hse := hst.2.1 e (by omega)
          rw [qs_f (c := b2i true = 0) (by decide)]
          simp (disch := omega) only [qs_cl, qg_in2, hrow c hc, hrow e (show e < pdn d by omega), qs_7, dm0 h hsc hse]
          have hF := h99 (σ c) (σ e)
          by_cases h9 : f (σ c) (σ e) = 99
          · rw [qs_f (c := ¬ nI (f (σ c) (σ e)) = 99) (fun g => g (by rw [h9]; rfl))]
            exact go 1 True (Or.inl ⟨rfl, trivial⟩) ⟨fun _ => Or.inr ⟨hnx, h9⟩, fun _ => trivial⟩
          · rw [qs_t (c := ¬ nI (f (σ c) (σ e)) = 99) (fun g => h9 ((nI_eq (b := 99) (by omega) (by omega)).mp g))]
            exact go 0 Z (Or.inr ⟨rfl, hz⟩) ⟨Or.inl, by rintro (g | g); exact g; exact absurd g.2 h9⟩
theorem full_out {d : PD} {σ : Nat → Nat} {f : Nat → Nat → Nat} {seat a : Nat → Int32} (hn : pdn d ≤ 7) (hst : ST d σ) (h99 : ∀ p q, f p q ≤ 99) (hrow : RowM d σ seat) (h : DMs d f a 0) : ∀ (m c : Nat) (full : Int32), c ≤ pdn d → pdn d - c < m → IsB full (∃ c' e', e' < c' ∧ c' < c ∧ nx d c' e' = true ∧ f (σ c') (σ e') = 99) → ∃ r, lf_X11_dinner_4 (nI (pdn d)) (b2i (pdr d)) seat a m full (nI c) = some r ∧ IsB r (∃ c' e', e' < c' ∧ c' < pdn d ∧ nx d c' e' = true ∧ f (σ c') (σ e') = 99) := by
  intro m
  induction m with
  | zero => intro c full h1 h2; omega
  | succ m ih =>
    intro c full h1 h2 hf
    rw [lf_X11_dinner_4]
    by_cases hc : pdn d ≤ c
    · have ec : c = pdn d := by omega
      subst ec
      rw [qs_t (nI_le hc (by omega))]
      exact ⟨full, rfl, hf⟩
    · have hc' : c < pdn d := by omega
      obtain ⟨r, e1, g1⟩ := full_in hn hst h99 hrow h hc' pw_FU 0 full _ (by omega) (by unfold pw_FU; omega) hf
      have e1' : lf_X11_dinner_14 (nI c) (nI (pdn d)) (b2i (pdr d)) seat a pw_FU full 0 = some r := e1
      rw [qs_f (nI_ge hc' (by omega)), e1', qs_bd, qs_u1, nI_1]
      refine ih (c + 1) r (by omega) (by omega) (IsB_iff g1 ?_)
      constructor
      · rintro (⟨c', e', q1, q2, q3⟩ | ⟨e', q1, q2, q3⟩)
        · exact ⟨c', e', q1, by omega, q3⟩
        · exact ⟨c, e', q2, by omega, q3⟩
      · rintro ⟨c', e', q1, q2, q3⟩
        by_cases q : c' = c
        · subst q; exact Or.inr ⟨e', by omega, q1, q3⟩
        · exact Or.inl ⟨c', e', q1, by omega, q3⟩
theorem full_iff {d : PD} {σ : Nat → Nat} {f : Nat → Nat → Nat} (hs : ∀ p q, f p q = f q p) (h99 : ∀ p q, f p q ≤ 99) : (∃ c e, e < c ∧ c < pdn d ∧ nx d c e = true ∧ f (σ c) (σ e) = 99) ↔ ∃ j, j < npr d ∧ 99 ≤ Fp d σ f j := by
  constructor
  · rintro ⟨c, e, q1, q2, q3, q4⟩
    obtain ⟨j, hj, ⟨g1, g2⟩ | ⟨g1, g2⟩⟩ := (nx_pairs q2 (by omega)).mp q3
    · exact ⟨j, hj, by unfold Fp; rw [← g2, ← g1]; omega⟩
    · exact ⟨j, hj, by unfold Fp; rw [← g2, ← g1, hs]; omega⟩
  · rintro ⟨j, hj, g⟩
    have hjn : j < pdn d := Nat.lt_of_lt_of_le hj npr_le
    have hb := bhd_lt hjn
    have hne := bhd_ne hj
    have hF := h99 (σ j) (σ (bhd d j))
    have hx := (nx_pairs hjn hb).mpr ⟨j, hj, Or.inl ⟨rfl, rfl⟩⟩
    unfold Fp at g
    by_cases hl : bhd d j < j
    · exact ⟨j, bhd d j, hl, hjn, hx, by omega⟩
    · exact ⟨bhd d j, j, by omega, hb, nx_sym hx, by rw [hs]; omega⟩
/-! the model: the dinner itself, chair by chair -/
def Prc (d : PD) (c e a b : Nat) : Bool := nx d a b && (decide ((a < c ∧ b < c)) || decide ((a = c ∧ b < e) ∨ (b = c ∧ a < e)))
/-- the rows of who dined, seen by chairs, with those that are done one up -/
def DC (d : PD) (σ : Nat → Nat) (f : Nat → Nat → Nat) (c e : Nat) (a : Nat → Int32) : Prop := ∀ x y, x < pdn d → y < pdn d → a (7 * σ x + σ y) = nI (f (σ x) (σ y) + (if Prc d c e x y = true then 1 else 0))
theorem Prc_0 {d : PD} {c x y : Nat} (h : nx d x y = true → True) : Prc d c c x y = Prc d (c + 1) 0 x y := by
  rw [Bool.eq_iff_iff]
  unfold Prc
  simp only [Bool.and_eq_true, Bool.or_eq_true, decide_eq_true_eq]
  constructor
  · rintro ⟨g, q⟩; exact ⟨g, by omega⟩
  · rintro ⟨g, q⟩
    have := nx_ne g
    exact ⟨g, by omega⟩
theorem din_in {d : PD} {σ : Nat → Nat} {f : Nat → Nat → Nat} {seat : Nat → Int32} (hn : pdn d ≤ 7) (hst : ST d σ) (hs : ∀ p q, f p q = f q p) (h99 : ∀ p q, f p q ≤ 99) (hrow : RowM d σ seat) {c : Nat} (hc : c < pdn d) : ∀ (m e h : Nat) (a : Nat → Int32), e ≤ c → c - e < m → h + (c - e) < 1000 → DC d σ f c e a → ∃ h' r, lf_X11_dinner_102 (nI c) (nI (pdn d)) (b2i (pdr d)) seat m (nI h) (nI e) a = some (nI h', r) ∧ h' + sm (fun e => if nx d c e = true then G1 (f (σ c) (σ e)) else 0) e = h + sm (fun e => if nx d c e = true then G1 (f (σ c) (σ e)) else 0) c ∧ h' ≤ h + (c - e) ∧ DC d σ f c c r := by
  intro m
  induction m with
  | zero => intro e h a h1 h2; omega
  | succ m ih =>
    intro e h a h1 h2 h3 ha
    rw [lf_X11_dinner_102]
    by_cases he : c ≤ e
    · have ee : e = c := by omega
      subst ee
      rw [qs_t (nI_le he (by omega))]
      exact ⟨h, a, rfl, rfl, by omega, ha⟩
    · have he' : e < c := by omega
      have hen : e < pdn d := by omega
      rw [qs_f (nI_ge he' (by omega)), qs_lt, next_eq hn hc hen (by omega), nI_1]
      cases hnx : nx d c e
      · rw [qs_t (c := b2i false = 0) rfl]
        obtain ⟨h', r, e1, g1, g2, g3⟩ := ih (e + 1) h a (by omega) (by omega) (by omega) (fun x y hx hy => by
          rw [ha x y hx hy]
          have : Prc d c e x y = Prc d c (e + 1) x y := by
            rw [Bool.eq_iff_iff]
            unfold Prc
            simp only [Bool.and_eq_true, Bool.or_eq_true, decide_eq_true_eq]
            constructor
            · rintro ⟨g, q⟩; exact ⟨g, by omega⟩
            · rintro ⟨g, q⟩
              refine ⟨g, ?_⟩
              by_cases q1 : x = c ∧ y = e
              · rw [q1.1, q1.2, hnx] at g; exact absurd g (by decide)
              · by_cases q2 : y = c ∧ x = e
                · have := nx_sym g; rw [q2.1, q2.2, hnx] at this; exact absurd this (by decide)
                · omega
          rw [this])
        refine ⟨h', r, e1, ?_, by omega, g3⟩
        rw [sm, hnx] at g1
        simp only [Bool.false_eq_true, if_false] at g1
        omega
      · rw [qs_f (c := b2i true = 0) (by decide)]
        have hsc := hst.2.1 c hc
        have hse := hst.2.1 e hen
        have hne : σ c ≠ σ e := fun g => by have := hst.2.2 c e hc hen g; omega
        have p0 : Prc d c e c e = false := by
          rw [Bool.eq_false_iff]; unfold Prc
          simp only [ne_eq, Bool.and_eq_true, Bool.or_eq_true, decide_eq_true_eq]
          rintro ⟨_, q⟩; omega
        have p0' : Prc d c e e c = false := by
          rw [Bool.eq_false_iff]; unfold Prc
          simp only [ne_eq, Bool.and_eq_true, Bool.or_eq_true, decide_eq_true_eq]
          rintro ⟨_, q⟩; omega
        have v1 : a (7 * σ c + σ e) = nI (f (σ c) (σ e)) := by rw [ha c e hc hen, p0]; rfl
        have v2 : a (7 * σ e + σ c) = nI (f (σ c) (σ e)) := by rw [ha e c hen hc, p0', hs]; rfl
        have hF := h99 (σ c) (σ e)
        have hidx : 7 * σ e + σ c ≠ 7 * σ c + σ e := by omega
        have v3 : upd a (7 * σ c + σ e) (nI (f (σ c) (σ e) + 1)) (7 * σ e + σ c) = nI (f (σ c) (σ e)) := by rw [pk_un hidx, v2]
        have j1 : pw_cd (nI (f (σ c) (σ e)) ≤ 0) (0 : Int32) 1 = nI (G1 (f (σ c) (σ e))) := by
          unfold G1
          by_cases h0 : f (σ c) (σ e) = 0
          · rw [qs_t (c := nI (f (σ c) (σ e)) ≤ 0) (by rw [h0]; decide), if_neg (by omega)]; rfl
          · rw [qs_f (c := nI (f (σ c) (σ e)) ≤ 0) (nI_nle (by omega) (by omega)), if_pos (by omega)]; rfl
        simp (disch := omega) only [qs_cl, qg_in2, hrow c hc, hrow e hen, qs_7, v1, qs_lt, nI_1, v3, j1, nI_add]
        have hG : G1 (f (σ c) (σ e)) ≤ 1 := by unfold G1; split <;> omega
        obtain ⟨h', r, e1, g1, g2, g3⟩ := ih (e + 1) (h + G1 (f (σ c) (σ e))) (upd (upd a (7 * σ c + σ e) (nI (f (σ c) (σ e) + 1))) (7 * σ e + σ c) (nI (f (σ c) (σ e) + 1))) (by omega) (by omega) (by omega) (fun x y hx hy => by
          have hsx := hst.2.1 x hx
          have hsy := hst.2.1 y hy
          by_cases q1 : x = e ∧ y = c
          · obtain ⟨rfl, rfl⟩ := q1
            have : Prc d y (x + 1) x y = true := by
              unfold Prc
              simp only [Bool.and_eq_true, Bool.or_eq_true, decide_eq_true_eq]
              exact ⟨nx_sym hnx, by simp⟩
            rw [pk_us, this, hs (σ x)]; rfl
          · have i1 : 7 * σ x + σ y ≠ 7 * σ e + σ c := by
              intro g
              refine q1 ⟨hst.2.2 x e hx hen (by omega), hst.2.2 y c hy hc (by omega)⟩
            rw [pk_un i1]
            by_cases q2 : x = c ∧ y = e
            · obtain ⟨rfl, rfl⟩ := q2
              have : Prc d x (y + 1) x y = true := by
                unfold Prc
                simp only [Bool.and_eq_true, Bool.or_eq_true, decide_eq_true_eq]
                exact ⟨hnx, by simp⟩
              rw [pk_us, this]; rfl
            · have i2 : 7 * σ x + σ y ≠ 7 * σ c + σ e := by
                intro g
                refine q2 ⟨hst.2.2 x c hx hc (by omega), hst.2.2 y e hy hen (by omega)⟩
              rw [pk_un i2, ha x y hx hy]
              have : Prc d c e x y = Prc d c (e + 1) x y := by
                rw [Bool.eq_iff_iff]
                unfold Prc
                simp only [Bool.and_eq_true, Bool.or_eq_true, decide_eq_true_eq]
                constructor
                · rintro ⟨g, q⟩; exact ⟨g, by omega⟩
                · rintro ⟨g, q⟩; exact ⟨g, by omega⟩
              rw [this])
        refine ⟨h', r, e1, ?_, by omega, g3⟩
        rw [sm, hnx] at g1
        simp only [if_true] at g1
        omega
theorem din_out {d : PD} {σ : Nat → Nat} {f : Nat → Nat → Nat} {seat : Nat → Int32} (hn : pdn d ≤ 7) (hst : ST d σ) (hs : ∀ p q, f p q = f q p) (h99 : ∀ p q, f p q ≤ 99) (hrow : RowM d σ seat) : ∀ (m c : Nat) (a : Nat → Int32), c ≤ pdn d → pdn d - c < m → DC d σ f c 0 a → sm (fun c => sm (fun e => if nx d c e = true then G1 (f (σ c) (σ e)) else 0) c) c ≤ 7 * c → ∃ r, lf_X11_dinner_91 (nI (pdn d)) (b2i (pdr d)) seat m (nI (sm (fun c => sm (fun e => if nx d c e = true then G1 (f (σ c) (σ e)) else 0) c) c)) (nI c) a = some (nI (sm (fun c => sm (fun e => if nx d c e = true then G1 (f (σ c) (σ e)) else 0) c) (pdn d)), r) ∧ DC d σ f (pdn d) 0 r := by
  intro m
  induction m with
  | zero => intro c a h1 h2; omega
  | succ m ih =>
    intro c a h1 h2 ha hb
    rw [lf_X11_dinner_91]
    by_cases hc : pdn d ≤ c
    · have ec : c = pdn d := by omega
      subst ec
      rw [qs_t (nI_le hc (by omega))]
      exact ⟨a, rfl, ha⟩
    · have hc' : c < pdn d := by omega
      obtain ⟨h', r, e1, g1, g2, g3⟩ := din_in hn hst hs h99 hrow hc' pw_FU 0 (sm (fun c => sm (fun e => if nx d c e = true then G1 (f (σ c) (σ e)) else 0) c) c) a (by omega) (by unfold pw_FU; omega) (by omega) ha
      have e1' : lf_X11_dinner_102 (nI c) (nI (pdn d)) (b2i (pdr d)) seat pw_FU (nI (sm (fun c => sm (fun e => if nx d c e = true then G1 (f (σ c) (σ e)) else 0) c) c)) 0 a = some (nI h', r) := e1
      rw [qs_f (nI_ge hc' (by omega)), e1', qs_bd, qs_u2, nI_1]
      have eh : h' = sm (fun c => sm (fun e => if nx d c e = true then G1 (f (σ c) (σ e)) else 0) c) (c + 1) := by
        rw [sm]
        have : sm (fun e => if nx d c e = true then G1 (f (σ c) (σ e)) else 0) 0 = 0 := rfl
        omega
      rw [eh]
      refine ih (c + 1) r (by omega) (by omega) (fun x y hx hy => ?_) (by omega)
      rw [g3 x y hx hy, Prc_0 (fun _ => trivial)]
theorem DC_end {d : PD} {σ : Nat → Nat} {f : Nat → Nat → Nat} {a : Nat → Int32} (hst : ST d σ) (h : DC d σ f (pdn d) 0 a) : DMs d (dnp d σ f) a 0 := by
  intro p q hp hq
  obtain ⟨x, hx, rfl⟩ := ST_onto hst hp
  obtain ⟨y, hy, rfl⟩ := ST_onto hst hq
  rw [Nat.zero_add, h x y hx hy]
  unfold dnp
  have : Prc d (pdn d) 0 x y = adj d σ (σ x) (σ y) := by
    rw [Bool.eq_iff_iff, adj_iff]
    unfold Prc
    simp only [Bool.and_eq_true, Bool.or_eq_true, decide_eq_true_eq]
    constructor
    · rintro ⟨g, _⟩; exact ⟨x, y, hx, hy, g, rfl, rfl⟩
    · rintro ⟨c, e, hc, he, g, g1, g2⟩
      have e1 := hst.2.2 c x hc hx g1
      have e2 := hst.2.2 e y he hy g2
      subst e1; subst e2
      exact ⟨g, by omega⟩
  rw [this]
theorem DN_dnp {d : PD} {σ : Nat → Nat} {f : Nat → Nat → Nat} (hst : ST d σ) (h : DN d f) (hl : ∀ j, j < npr d → Fp d σ f j < 99) : DN d (dnp d σ f) := by
  refine ⟨fun p q => ?_, fun p q => ?_, fun p q hpq => ?_⟩
  · unfold dnp; rw [h.1 p q, adj_sym]
  · unfold dnp
    by_cases ha : adj d σ p q = true
    · rw [if_pos ha]
      obtain ⟨c, e, hc, he, g, g1, g2⟩ := adj_iff.mp ha
      obtain ⟨j, hj, ⟨q1, q2⟩ | ⟨q1, q2⟩⟩ := (nx_pairs hc he).mp g
      · have := hl j hj; unfold Fp at this; rw [← q2, ← q1, g1, g2] at this; omega
      · have := hl j hj; unfold Fp at this; rw [← q2, ← q1, g1, g2, h.1] at this; omega
    · rw [if_neg ha]; exact h.2.1 p q
  · unfold dnp
    rw [h.2.2 p q hpq, if_neg (fun g => hpq (adj_lt hst g))]
theorem Sim_dinner_ok : Sim_dinner Inv := by
  intro s t hI
  obtain ⟨h1, h2, h3, h4, d, σ, f, hw, hx, hm, hst, hdn, hse, hdx, hsm, hdm, hac, hs0, hs1, hla⟩ := id hI
  have hn := hw.1
  have er : sx_guests_round s = b2i (pdr d) := hx.1
  have ep : sx_guests_people s = nI (pdn d) := hx.2.2.2.1
  have em : sm_people t = nI (pdn d) := hm.1
  have em2 : sm_isRound t = b2i (pdr d) := hm.2.1
  have hrow := SMs_row hsm
  obtain ⟨M, eM, hM, iM⟩ := mostX hn hst hdn.1 hdn.2.1 hdx
  obtain ⟨fu, eF, hF⟩ := full_out hn hst hdn.2.1 hrow hdm pw_FU 0 0 (by omega) (by unfold pw_FU; omega) (Or.inr ⟨rfl, by rintro ⟨c, e, _, g, _⟩; omega⟩)
  have eF' : lf_X11_dinner_4 (nI (pdn d)) (b2i (pdr d)) (sm_seat_v t) (sm_dines_v t) pw_FU 0 0 = some fu := eF
  have hF2 := IsB_iff hF (full_iff hdn.1 hdn.2.1)
  unfold f_X10_dinner f_X11_dinner
  rw [hse, er, ep, em, em2, eM, qs_bd, qs_u1, eF', qs_bd, qs_u1]
  rcases hF2 with ⟨rfl, hf⟩ | ⟨rfl, hf⟩
  · have h99 : 99 ≤ M := iM.mpr hf
    rw [qs_f (c := nI M < 99) (nI_nlt (b := 99) h99 (by omega)), qs_f (c := (1 : Int32) = 0) (by decide)]
    exact ⟨-4, _, _, _, _, _, _, _, _, rfl, rfl, hI⟩
  · have h99 : M < 99 := by
      rcases Nat.lt_or_ge M 99 with g | g
      · exact g
      · exact absurd (iM.mp g) hf
    have hlt : ∀ j, j < npr d → Fp d σ f j < 99 := fun j hj => by
      rcases Nat.lt_or_ge (Fp d σ f j) 99 with g | g
      · exact g
      · exact absurd ⟨j, hj, g⟩ hf
    rw [qs_t (c := nI M < 99) (nI_lt (b := 99) h99 (by omega)), qs_t (c := (0 : Int32) = 0) rfl, knewX hn hst hdn.1 hdn.2.1 hdx, qs_bd, qs_u1]
    obtain ⟨sz2, bf, df, ac2, nx2, r, eX, eK, hac2⟩ := act_add (σ' := σ) (f' := dnp d σ f) hn hst hdn hac hsm hdm true (fun g => absurd g (by decide)) (fun _ => ⟨rfl, fun p q => rfl⟩)
    obtain ⟨rd, eD, hD⟩ := dineX hn hst hdn.1 hdx
    obtain ⟨ra, eA, hA⟩ := din_out hn hst hdn.1 hdn.2.1 hrow pw_FU 0 (sm_dines_v t) (by omega) (by unfold pw_FU; omega) (fun x y hx hy => by
      have : Prc d 0 0 x y = false := by
        rw [Bool.eq_false_iff]; unfold Prc
        simp only [ne_eq, Bool.and_eq_true, Bool.or_eq_true, decide_eq_true_eq]
        rintro ⟨_, q⟩; omega
      rw [dm0 hdm (hst.2.1 x hx) (hst.2.1 y hy), this]; rfl) (by simp [sm])
    have eA' : lf_X11_dinner_91 (nI (pdn d)) (b2i (pdr d)) (sm_seat_v t) pw_FU 0 0 (sm_dines_v t) = some (nI (sm (fun c => sm (fun e => if nx d c e = true then G1 (f (σ c) (σ e)) else 0) c) (pdn d)), ra) := eA
    have eX' : f_X0_add (nI (pk σ)) 1 (sx_acts_size s) (sx_acts_before_v s) (sx_acts_dinners_v s) = some (sz2, bf, df) := eX
    rw [eX', qs_bd, qs_u3, eD, qs_bd, qs_u1, eK, qs_bd, qs_u3, eA', qs_bd, qs_u2, nb_sum hn (g := fun c e => G1 (f (σ c) (σ e))) (fun a b => by rw [hdn.1])]
    exact ⟨_, _, _, _, _, _, _, _, _, rfl, rfl, h1, h2, h3, h4, d, σ, dnp d σ f, hw, hx, hm, hst, DN_dnp hst hdn hlt, hse, hD, hsm, DC_end hst hA, hac2, hs0, hs1, hla⟩
