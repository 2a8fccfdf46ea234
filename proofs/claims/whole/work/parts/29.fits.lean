/-! ===== what gossips told ===== -/
/-- gossip j: of A j and E j, beside each other or not -/
def GD (A E : Nat → Nat) (B : Nat → Bool) (k : Nat) (ones others besides one other beside : Nat → Int32) : Prop := ∀ j, j < k → A j < 7 ∧ E j < 7 ∧ A j ≠ E j ∧ ones j = nI (A j) ∧ one j = nI (A j) ∧ others j = nI (E j) ∧ other j = nI (E j) ∧ besides j = b2i (B j) ∧ beside j = b2i (B j)
theorem GD_of {ones others besides one other beside : Nat → Int32} {size told : Int32} (h : RGos ones others besides size told one other beside) : ∃ (k : Nat) (A E : Nat → Nat) (B : Nat → Bool), k ≤ 8 ∧ size = nI k ∧ told = nI k ∧ GD A E B k ones others besides one other beside := by
  obtain ⟨k, h1, h2, h3, h4⟩ := h
  refine ⟨k, fun j => (ones j).toNatClampNeg, fun j => (others j).toNatClampNeg, fun j => decide (besides j = 1), h1, h2, h3, fun j hj => ?_⟩
  obtain ⟨a, e, b, a1, a2, a3, a4, a5, a6, a7, a8, a9⟩ := h4 j hj
  have e1 : (ones j).toNatClampNeg = a := by rw [a4]; exact qs_cl (by omega)
  have e2 : (others j).toNatClampNeg = e := by rw [a6]; exact qs_cl (by omega)
  have e3 : decide (besides j = 1) = b := by rw [a8]; cases b <;> decide
  show (ones j).toNatClampNeg < 7 ∧ (others j).toNatClampNeg < 7 ∧ (ones j).toNatClampNeg ≠ (others j).toNatClampNeg ∧ ones j = nI (ones j).toNatClampNeg ∧ one j = nI (ones j).toNatClampNeg ∧ others j = nI (others j).toNatClampNeg ∧ other j = nI (others j).toNatClampNeg ∧ besides j = b2i (decide (besides j = 1)) ∧ beside j = b2i (decide (besides j = 1))
  rw [e1, e2, e3]
  exact ⟨a1, a2, a3, a4, a5, a6, a7, a8, a9⟩
def lie (d : PD) (A E : Nat → Nat) (B : Nat → Bool) (τ : Nat → Nat) (j : Nat) : Bool := decide (A j < pdn d) && decide (E j < pdn d) && (adj d τ (A j) (E j) != B j)
def fit (d : PD) (A E : Nat → Nat) (B : Nat → Bool) (k L1 : Nat) (τ : Nat → Nat) : Bool := decide (cnt (lie d A E B τ) k ≤ L1)
section
theorem fitX_loop {d : PD} (hw : PWf d) {A E : Nat → Nat} {B : Nat → Bool} {k : Nat} {ones others besides one other beside : Nat → Int32} (hG : GD A E B k ones others besides one other beside) (hk8 : k ≤ 8) {τ : Nat → Nat} (hst : ST d τ) {nb : Int64} (hnb : Mt nb (adj d τ)) {L1 : Nat} (hL1 : L1 ≤ 1) : ∀ (m j : Nat), j ≤ k → k - j < m → ∃ y, y ≤ 8 ∧ lf_X1_fitsBut_13 (nI L1) nb (nI k) ones others besides (nI (pdn d)) m (nI (cnt (lie d A E B τ) j)) (nI j) = some (nI y) ∧ (L1 < y ↔ L1 < cnt (lie d A E B τ) k) := by
  have hn := hw.1
  intro m
  induction m with
  | zero => intro j h1 h2; omega
  | succ m ih =>
    intro j h1 h2
    have hcl : cnt (lie d A E B τ) j ≤ j := cnt_le _ _
    rw [lf_X1_fitsBut_13]
    by_cases hj : k ≤ j
    · have : j = k := by omega
      subst this
      rw [qs_t (nI_le hj (by omega))]
      exact ⟨_, by omega, rfl, Iff.rfl⟩
    · have hj' : j < k := by omega
      rw [qs_f (nI_ge hj' (by omega)), qs_f (c := (8 : Int32) ≤ nI j) (nI_ge (b := 8) (by omega) (by omega))]
      by_cases hgt : L1 < cnt (lie d A E B τ) j
      · rw [qs_t (nI_lt hgt (by omega))]
        exact ⟨_, by omega, rfl, fun _ => Nat.lt_of_lt_of_le hgt (cnt_mono _ h1), fun _ => hgt⟩
      · rw [qs_f (nI_nlt (by omega) (by omega))]
        obtain ⟨g1, g2, g3, g4, _, g6, _, g8, _⟩ := hG j hj'
        have es : cnt (lie d A E B τ) (j + 1) = cnt (lie d A E B τ) j + (if lie d A E B τ j = true then 1 else 0) := rfl
        have hi := ih (j + 1) (by omega) (by omega)
        rw [es] at hi
        simp (disch := omega) only [qs_cl, qg_in2, qs_lt, nI_1, g4, g6, g8]
        have hM := Mt_and hnb (Mt_both (p := A j) (q := E j) (by omega) (by omega))
        have hz : (lg_cmp (nb &&& f_X3_bothWays (nI (A j)) (nI (E j))) 0 = 0) ↔ adj d τ (A j) (E j) = false := by
          rw [l_cmp0, Mt_zero hM]
          constructor
          · intro h
            have := h (A j) (E j) (by omega) (by omega)
            simpa using this
          · intro h p q _ _
            rw [Bool.eq_false_iff]
            simp only [ne_eq, Bool.and_eq_true, Bool.or_eq_true, decide_eq_true_eq]
            rintro ⟨q1, ⟨rfl, rfl⟩ | ⟨rfl, rfl⟩⟩
            · rw [h] at q1; exact absurd q1 (by decide)
            · rw [adj_sym, h] at q1; exact absurd q1 (by decide)
        have hj13 : pw_cd (lg_cmp (nb &&& f_X3_bothWays (nI (A j)) (nI (E j))) 0 = 0) (0 : Int32) 1 = b2i (adj d τ (A j) (E j)) := by
          cases hh : adj d τ (A j) (E j)
          · rw [qs_t (hz.mpr hh)]; rfl
          · rw [qs_f (fun g => by rw [hz.mp g] at hh; exact absurd hh (by decide))]; rfl
        rw [hj13, hb_eq]
        have hinj : b2i (adj d τ (A j) (E j)) = b2i (B j) ↔ adj d τ (A j) (E j) = B j := by
          cases adj d τ (A j) (E j) <;> cases B j <;> decide
        by_cases heq : adj d τ (A j) (E j) = B j
        · rw [qs_t (hinj.mpr heq)]
          have : lie d A E B τ j = false := by unfold lie; rw [heq]; simp
          rw [this, if_neg (by decide), Nat.add_zero] at hi
          exact hi
        · rw [qs_f (fun g => heq (hinj.mp g))]
          have hne : (adj d τ (A j) (E j) != B j) = true := by simpa using heq
          by_cases ha : A j < pdn d
          · rw [hp_in ha hn, if_neg (by decide)]
            by_cases he : E j < pdn d
            · rw [hp_in he hn, if_neg (by decide), qs_f (c := (1 : Int32) = 0) (by decide)]
              have : lie d A E B τ j = true := by unfold lie; rw [hne]; simp [ha, he]
              rw [this, if_pos rfl] at hi
              exact hi
            · rw [hp_out hn (fun p hp g => he (by have := (nI_eq (by omega) (by omega)).mp g; omega)), if_pos rfl, qs_t (c := (0 : Int32) = 0) rfl]
              have : lie d A E B τ j = false := by unfold lie; simp [he]
              rw [this, if_neg (by decide), Nat.add_zero] at hi
              exact hi
          · rw [hp_out hn (fun p hp g => ha (by have := (nI_eq (by omega) (by omega)).mp g; omega)), if_pos rfl, qs_t (c := (0 : Int32) = 0) rfl]
            have : lie d A E B τ j = false := by unfold lie; simp [ha]
            rw [this, if_neg (by decide), Nat.add_zero] at hi
            exact hi
theorem fitX {d : PD} (hw : PWf d) {A E : Nat → Nat} {B : Nat → Bool} {k : Nat} {ones others besides one other beside : Nat → Int32} (hG : GD A E B k ones others besides one other beside) (hk8 : k ≤ 8) {τ : Nat → Nat} (hst : ST d τ) {L1 : Nat} (hL1 : L1 ≤ 1) : f_X1_fitsBut (nI L1) (nI (pk τ)) (nI k) ones others besides (b2i (pdr d)) (nI (pdn d)) = some (b2i (fit d A E B k L1 τ)) := by
  unfold f_X1_fitsBut
  obtain ⟨nb, e, hM⟩ := ngh_eq hw.1 hst
  obtain ⟨y, hy, e2, h⟩ := fitX_loop hw hG hk8 hst hM hL1 pw_FU 0 (by omega) (by unfold pw_FU; omega)
  have e2' : lf_X1_fitsBut_13 (nI L1) nb (nI k) ones others besides (nI (pdn d)) pw_FU 0 0 = some (nI y) := e2
  rw [e, qs_bd, qs_u1, e2', qs_bd, qs_u1]
  unfold fit
  by_cases hlt : L1 < y
  · rw [qs_t (nI_lt hlt (by omega)), decide_eq_false (by have := h.mp hlt; omega)]; rfl
  · rw [qs_f (nI_nlt (by omega) (by omega)), decide_eq_true (by have := fun g => hlt (h.mpr g); omega)]; rfl
end
/-! the model: who sits beside whom -/
theorem bes_in {d : PD} (hn : pdn d ≤ 7) {τ : Nat → Nat} (hst : ST d τ) {perm : Nat → Int32} (hrow : RowM d τ perm) {a b c : Nat} (ha : a < 7) (hb : b < 7) (hab : a ≠ b) (hc : c < pdn d) {Z : Prop} : ∀ (m e : Nat) (r : Int32), e ≤ pdn d → pdn d - e < m → IsB r (Z ∨ ∃ e', e' < e ∧ nx d c e' = true ∧ τ c = a ∧ τ e' = b) → ∃ r', lf_X11_areBeside_17 (nI a) (nI b) (nI c) (nI (pdn d)) (b2i (pdr d)) perm m r (nI e) = some r' ∧ IsB r' (Z ∨ ∃ e', e' < pdn d ∧ nx d c e' = true ∧ τ c = a ∧ τ e' = b) := by
  intro m
  induction m with
  | zero => intro e r h1 h2; omega
  | succ m ih =>
    intro e r h1 h2 hr
    rw [lf_X11_areBeside_17]
    by_cases he : pdn d ≤ e
    · have : e = pdn d := by omega
      subst this
      rw [qs_t (nI_le he (by omega))]
      exact ⟨r, rfl, hr⟩
    · have he' : e < pdn d := by omega
      have hs1 := hst.2.1 c hc
      have hs2 := hst.2.1 e he'
      rw [qs_f (nI_ge he' (by omega))]
      simp (disch := omega) only [qs_cl, qg_in2, nI_1, hrow c hc, hrow e he']
      rcases hr with ⟨rfl, hz⟩ | ⟨rfl, hz⟩
      · rw [qs_nt (c := (1 : Int32) = 0) (by decide)]
        exact ih (e + 1) 1 (by omega) (by omega) (Or.inl ⟨rfl, hz.imp_right (fun ⟨e', q1, q2⟩ => ⟨e', by omega, q2⟩)⟩)
      · rw [qs_nf (c := (0 : Int32) = 0) rfl]
        have hstep : ∀ {Q : Prop}, (Q ↔ (nx d c e = true ∧ τ c = a ∧ τ e = b)) → (¬ Q → ∃ r', lf_X11_areBeside_17 (nI a) (nI b) (nI c) (nI (pdn d)) (b2i (pdr d)) perm m 0 (nI (e + 1)) = some r' ∧ IsB r' (Z ∨ ∃ e', e' < pdn d ∧ nx d c e' = true ∧ τ c = a ∧ τ e' = b)) := fun {Q} hQ hq => ih (e + 1) 0 (by omega) (by omega) (Or.inr ⟨rfl, by
          rintro (g | ⟨e', q1, q2⟩)
          · exact hz (Or.inl g)
          · by_cases q : e' = e
            · subst q; exact hq (hQ.mpr q2)
            · exact hz (Or.inr ⟨e', by omega, q2⟩)⟩)
        by_cases g1 : τ c = a
        · rw [qs_nf (c := nI (τ c) = nI a) (by rw [g1])]
          by_cases g2 : τ e = b
          · have hce : c ≠ e := fun g => hab (by rw [← g1, ← g2, g])
            rw [qs_nf (c := nI (τ e) = nI b) (by rw [g2]), qs_lt, next_eq hn hc he' hce]
            cases hx : nx d c e
            · rw [qs_t (c := b2i false = 0) rfl]
              exact hstep (Q := False) (by rw [hx]; simp) (fun g => g)
            · rw [qs_f (c := b2i true = 0) (by decide)]
              exact ih (e + 1) 1 (by omega) (by omega) (Or.inl ⟨rfl, Or.inr ⟨e, by omega, hx, g1, g2⟩⟩)
          · rw [qs_nt (c := nI (τ e) = nI b) (fun g => g2 ((nI_eq (by omega) (by omega)).mp g))]
            exact hstep (Q := False) (by simp [g2]) (fun g => g)
        · rw [qs_nt (c := nI (τ c) = nI a) (fun g => g1 ((nI_eq (by omega) (by omega)).mp g))]
          exact hstep (Q := False) (by simp [g1]) (fun g => g)
theorem bes_out {d : PD} (hn : pdn d ≤ 7) {τ : Nat → Nat} (hst : ST d τ) {perm : Nat → Int32} (hrow : RowM d τ perm) {a b : Nat} (ha : a < 7) (hb : b < 7) (hab : a ≠ b) : ∀ (m c : Nat) (r : Int32), c ≤ pdn d → pdn d - c < m → IsB r (∃ c' e', c' < c ∧ e' < pdn d ∧ nx d c' e' = true ∧ τ c' = a ∧ τ e' = b) → ∃ r', lf_X11_areBeside_5 (nI a) (nI b) (nI (pdn d)) (b2i (pdr d)) perm m r (nI c) = some r' ∧ IsB r' (adj d τ a b = true) := by
  intro m
  induction m with
  | zero => intro c r h1 h2; omega
  | succ m ih =>
    intro c r h1 h2 hr
    rw [lf_X11_areBeside_5]
    by_cases hc : pdn d ≤ c
    · have : c = pdn d := by omega
      subst this
      rw [qs_t (nI_le hc (by omega))]
      exact ⟨r, rfl, IsB_iff hr adj_iff.symm⟩
    · have hc' : c < pdn d := by omega
      obtain ⟨r2, e2, h3⟩ := bes_in hn hst hrow ha hb hab hc' (Z := ∃ c' e', c' < c ∧ e' < pdn d ∧ nx d c' e' = true ∧ τ c' = a ∧ τ e' = b) pw_FU 0 r (by omega) (by unfold pw_FU; omega) (IsB_iff hr (by
        constructor
        · exact Or.inl
        · rintro (g | ⟨e', q, _⟩)
          · exact g
          · omega))
      have e2' : lf_X11_areBeside_17 (nI a) (nI b) (nI c) (nI (pdn d)) (b2i (pdr d)) perm pw_FU r 0 = some r2 := e2
      rw [qs_f (nI_ge hc' (by omega)), e2', qs_bd, qs_u1, nI_1]
      exact ih (c + 1) r2 (by omega) (by omega) (IsB_iff h3 (by
        constructor
        · rintro (⟨c', e', q1, q2⟩ | ⟨e', q1, q2⟩)
          · exact ⟨c', e', by omega, q2⟩
          · exact ⟨c, e', by omega, q1, q2⟩
        · rintro ⟨c', e', q1, q2, q3⟩
          by_cases q : c' = c
          · subst q; exact Or.inr ⟨e', q2, q3⟩
          · exact Or.inl ⟨c', e', by omega, q2, q3⟩))
theorem IsB_b2i {r : Int32} {b : Bool} (h : IsB r (b = true)) : r = b2i b := by
  rcases h with ⟨rfl, h⟩ | ⟨rfl, h⟩
  · rw [h]; rfl
  · have : b = false := by simpa using h
    rw [this]; rfl
theorem besM {d : PD} (hn : pdn d ≤ 7) {τ : Nat → Nat} (hst : ST d τ) {perm : Nat → Int32} (hrow : RowM d τ perm) {a b : Nat} (ha : a < 7) (hb : b < 7) (hab : a ≠ b) : f_X11_areBeside (nI a) (nI b) (nI (pdn d)) (b2i (pdr d)) perm = some (b2i (adj d τ a b)) := by
  unfold f_X11_areBeside
  obtain ⟨r, e, h⟩ := bes_out hn hst hrow ha hb hab pw_FU 0 0 (by omega) (by unfold pw_FU; omega) (Or.inr ⟨rfl, by rintro ⟨c', _, q, _⟩; omega⟩)
  have e' : lf_X11_areBeside_5 (nI a) (nI b) (nI (pdn d)) (b2i (pdr d)) perm pw_FU 0 0 = some r := e
  have := IsB_b2i h
  subst this
  rw [e', qs_bd, qs_u1, qs_g (b2i_or _)]
section
theorem fitM_loop {d : PD} (hw : PWf d) {A E : Nat → Nat} {B : Nat → Bool} {k : Nat} {ones others besides one other beside : Nat → Int32} (hG : GD A E B k ones others besides one other beside) (hk8 : k ≤ 8) {τ : Nat → Nat} (hst : ST d τ) {perm : Nat → Int32} (hrow : RowM d τ perm) {L1 : Nat} (hL1 : L1 ≤ 1) : ∀ (m j : Nat), j ≤ k → k - j < m → ∃ y, y ≤ 8 ∧ lf_X11_layFits_55 (nI L1) (nI (pdn d)) (b2i (pdr d)) (nI k) perm one other beside m (nI (cnt (lie d A E B τ) j)) (nI j) = some (nI y) ∧ (L1 < y ↔ L1 < cnt (lie d A E B τ) k) := by
  have hn := hw.1
  intro m
  induction m with
  | zero => intro j h1 h2; omega
  | succ m ih =>
    intro j h1 h2
    have hcl : cnt (lie d A E B τ) j ≤ j := cnt_le _ _
    rw [lf_X11_layFits_55]
    by_cases hj : k ≤ j
    · have : j = k := by omega
      subst this
      rw [qs_t (nI_le hj (by omega))]
      exact ⟨_, by omega, rfl, Iff.rfl⟩
    · have hj' : j < k := by omega
      rw [qs_f (nI_ge hj' (by omega))]
      by_cases hgt : L1 < cnt (lie d A E B τ) j
      · rw [qs_t (nI_lt hgt (by omega))]
        exact ⟨_, by omega, rfl, fun _ => Nat.lt_of_lt_of_le hgt (cnt_mono _ h1), fun _ => hgt⟩
      · rw [qs_f (nI_nlt (by omega) (by omega))]
        obtain ⟨g1, g2, g3, _, g5, _, g7, _, g9⟩ := hG j hj'
        have es : cnt (lie d A E B τ) (j + 1) = cnt (lie d A E B τ) j + (if lie d A E B τ j = true then 1 else 0) := rfl
        have hi := ih (j + 1) (by omega) (by omega)
        rw [es] at hi
        have h0 : nI (cnt (lie d A E B τ) j) + 0 = nI (cnt (lie d A E B τ) j) := by show nI _ + nI 0 = _; rw [nI_add]; rfl
        simp (disch := omega) only [qs_cl, qg_in2, qs_lt, qs_jn, nI_1, g5, g7, g9, isP_eq _ hn, qs_bd, qs_u1, besM hn hst hrow g1 g2 g3, h0]
        have hinj : b2i (adj d τ (A j) (E j)) = b2i (B j) ↔ adj d τ (A j) (E j) = B j := by
          cases adj d τ (A j) (E j) <;> cases B j <;> decide
        by_cases ha : A j < pdn d
        · rw [hp_in ha hn, qs_f (c := (1 : Int32) = 0) (by decide)]
          by_cases he : E j < pdn d
          · rw [hp_in he hn, qs_f (c := (1 : Int32) = 0) (by decide), qs_f (c := (1 : Int32) = 0) (by decide)]
            by_cases heq : adj d τ (A j) (E j) = B j
            · rw [qs_t (hinj.mpr heq)]
              have : lie d A E B τ j = false := by unfold lie; rw [heq]; simp
              rw [this, if_neg (by decide), Nat.add_zero] at hi
              exact hi
            · rw [qs_f (fun g => heq (hinj.mp g))]
              have hne : (adj d τ (A j) (E j) != B j) = true := by simpa using heq
              have : lie d A E B τ j = true := by unfold lie; rw [hne]; simp [ha, he]
              rw [this, if_pos rfl] at hi
              exact hi
          · rw [hp_out hn (fun p hp g => he (by have := (nI_eq (by omega) (by omega)).mp g; omega)), qs_t (c := (0 : Int32) = 0) rfl]
            have : lie d A E B τ j = false := by unfold lie; simp [he]
            rw [this, if_neg (by decide), Nat.add_zero] at hi
            exact hi
        · rw [hp_out hn (fun p hp g => ha (by have := (nI_eq (by omega) (by omega)).mp g; omega)), qs_t (c := (0 : Int32) = 0) rfl]
          have : lie d A E B τ j = false := by unfold lie; simp [ha]
          rw [this, if_neg (by decide), Nat.add_zero] at hi
          exact hi
end
/-! chairs that somebody may have sat on -/
def SB (d : PD) (F : (Nat → Nat) → Bool) (P : List (Nat → Nat)) (q i : Nat) : Prop := ∃ ρ, ρ ∈ P ∧ F ρ = true ∧ i < pdn d ∧ ρ i = q
def Bits (d : PD) (F : (Nat → Nat) → Bool) (P : List (Nat → Nat)) (q : Nat) (x : Int32) : Prop := ∀ i, i < 32 → (bt x i = true ↔ SB d F P q i)
theorem Bits_ext {d : PD} {F : (Nat → Nat) → Bool} {P : List (Nat → Nat)} {q : Nat} {x y : Int32} (h1 : Bits d F P q x) (h2 : Bits d F P q y) : x = y := b_ext (fun i hi => by rw [Bool.eq_iff_iff, h1 i hi, h2 i hi])
theorem SB_skip {d : PD} {F : (Nat → Nat) → Bool} {P : List (Nat → Nat)} {q i : Nat} {τ : Nat → Nat} (h : F τ = false) : SB d F (P ++ [τ]) q i ↔ SB d F P q i := by
  constructor
  · rintro ⟨ρ, h1, h2, h3⟩
    rcases List.mem_append.mp h1 with g | g
    · exact ⟨ρ, g, h2, h3⟩
    · have : ρ = τ := by simpa using g
      rw [this, h] at h2; exact absurd h2 (by decide)
  · rintro ⟨ρ, h1, h2⟩; exact ⟨ρ, List.mem_append_left _ h1, h2⟩
theorem SB_add {d : PD} {F : (Nat → Nat) → Bool} {P : List (Nat → Nat)} {q i : Nat} {τ : Nat → Nat} (h : F τ = true) : SB d F (P ++ [τ]) q i ↔ (SB d F P q i ∨ (i < pdn d ∧ τ i = q)) := by
  constructor
  · rintro ⟨ρ, h1, h2, h3⟩
    rcases List.mem_append.mp h1 with g | g
    · exact Or.inl ⟨ρ, g, h2, h3⟩
    · have : ρ = τ := by simpa using g
      rw [this] at h3; exact Or.inr h3
  · rintro (⟨ρ, h1, h2⟩ | g)
    · exact ⟨ρ, List.mem_append_left _ h1, h2⟩
    · exact ⟨τ, by simp, h, g⟩
theorem cls_ff {F : (Nat → Nat) → Bool} {P : List (Nat → Nat)} {τ : Nat → Nat} : ((P ++ [τ]).filter F).length = (P.filter F).length + (if F τ = true then 1 else 0) := by
  rw [List.filter_append, List.length_append]
  by_cases h : F τ = true
  · rw [if_pos h, List.filter_cons_of_pos h]; rfl
  · rw [if_neg h, List.filter_cons_of_neg h]; rfl
section
theorem fits_loop {d : PD} (hw : PWf d) {A E : Nat → Nat} {B : Nat → Bool} {k : Nat} {ones others besides one other beside : Nat → Int32} (hG : GD A E B k ones others besides one other beside) (hk8 : k ≤ 8) {v : Nat → Int32} {N : Nat} (hL : LW d v N) {L1 : Nat} (hL1 : L1 ≤ 1) : ∀ (m j : Nat), j ≤ (lawL d).length → (lawL d).length - j < m → lf_X10_fits_27 (nI L1) (nI (lawL d).length) v N (nI k) ones others besides (b2i (pdr d)) (nI (pdn d)) m (nI (((lawL d).take j).filter (fit d A E B k L1)).length) (nI j) = some (nI ((lawL d).filter (fit d A E B k L1)).length) := by
  have hll := lawL_len hw.1
  intro m
  induction m with
  | zero => intro j h1 h2; omega
  | succ m ih =>
    intro j h1 h2
    rw [lf_X10_fits_27]
    by_cases hj : (lawL d).length ≤ j
    · have : j = (lawL d).length := by omega
      subst this
      rw [qs_t (nI_le hj (by omega)), List.take_length]
    · have hj' : j < (lawL d).length := by omega
      obtain ⟨ρ, eρ, hr, _⟩ := L_at (d := d) hj'
      have hi := ih (j + 1) (by omega) (by omega)
      rw [take_s eρ, cls_ff] at hi
      rw [qs_f (nI_ge hj' (by omega)), seatOf hL eρ, qs_bd, qs_u1, fitX hw hG hk8 hr hL1, qs_bd, qs_u1, nI_1, nI_1]
      cases hf : fit d A E B k L1 ρ
      · rw [hf, if_neg (by decide), Nat.add_zero] at hi
        rw [qs_t (c := b2i false = 0) rfl]; exact hi
      · rw [hf, if_pos rfl] at hi
        rw [qs_f (c := b2i true = 0) (by decide)]; exact hi
theorem sat_loop {d : PD} (hw : PWf d) {A E : Nat → Nat} {B : Nat → Bool} {k : Nat} {ones others besides one other beside : Nat → Int32} (hG : GD A E B k ones others besides one other beside) (hk8 : k ≤ 8) {v : Nat → Int32} {N : Nat} (hL : LW d v N) {L1 p : Nat} (hL1 : L1 ≤ 1) (hp : p < pdn d) : ∀ (m j : Nat) (x : Int32), j ≤ (lawL d).length → (lawL d).length - j < m → Bits d (fit d A E B k L1) ((lawL d).take j) p x → ∃ y, lf_X10_sat_41 (nI p) (nI L1) (nI (lawL d).length) v N (nI k) ones others besides (b2i (pdr d)) (nI (pdn d)) m x (nI j) = some y ∧ Bits d (fit d A E B k L1) (lawL d) p y := by
  have hll := lawL_len hw.1
  have hn := hw.1
  intro m
  induction m with
  | zero => intro j x h1 h2; omega
  | succ m ih =>
    intro j x h1 h2 hb
    rw [lf_X10_sat_41]
    by_cases hj : (lawL d).length ≤ j
    · have : j = (lawL d).length := by omega
      subst this
      rw [List.take_length] at hb
      rw [qs_t (nI_le hj (by omega))]
      exact ⟨x, rfl, hb⟩
    · have hj' : j < (lawL d).length := by omega
      obtain ⟨ρ, eρ, hr, _⟩ := L_at (d := d) hj'
      rw [qs_f (nI_ge hj' (by omega)), seatOf hL eρ, qs_bd, qs_u1, fitX hw hG hk8 hr hL1, qs_bd, qs_u1, nI_1]
      cases hf : fit d A E B k L1 ρ
      · rw [qs_t (c := b2i false = 0) rfl]
        exact ih (j + 1) _ (by omega) (by omega) (fun i hi => by rw [take_s eρ, SB_skip hf]; exact hb i hi)
      · obtain ⟨c, hc, ec⟩ := ST_onto hr hp
        rw [qs_f (c := b2i true = 0) (by decide), ← ec, chairX hn hr hc, qs_bd, qs_u1, qs_lt, ec]
        refine ih (j + 1) _ (by omega) (by omega) (fun i hi => ?_)
        rw [take_s eρ, SB_add hf, b_or, b_1shl c (by omega) i hi, Bool.or_eq_true, hb i hi, decide_eq_true_eq]
        constructor
        · rintro (g | g)
          · exact Or.inl g
          · rw [g]; exact Or.inr ⟨hc, ec⟩
        · rintro (g | ⟨g1, g2⟩)
          · exact Or.inl g
          · exact Or.inr (hr.2.2 i c g1 hc (g2.trans ec.symm))
end
/-! the model -/
theorem zero7 : ∀ (m j : Nat) (a : Nat → Int32), j ≤ 7 → 7 - j < m → (∀ c, c < j → a c = 0) → ∃ r, lf_X11_layFits_2 m (nI j) a = some r ∧ ∀ c, c < 7 → r c = 0 := by
  intro m
  induction m with
  | zero => intro j a h1 h2; omega
  | succ m ih =>
    intro j a h1 h2 h3
    rw [lf_X11_layFits_2]
    by_cases hk : 7 ≤ j
    · rw [qs_t (c := (7 : Int32) ≤ nI j) (nI_le (a := 7) hk (by omega))]
      exact ⟨a, rfl, fun c hc => h3 c (by omega)⟩
    · rw [qs_f (c := (7 : Int32) ≤ nI j) (nI_ge (b := 7) (by omega) (by omega))]
      simp (disch := omega) only [qs_cl, qg_in2, qs_lt, nI_1]
      exact ih (j + 1) _ (by omega) (by omega) (fun c hc => by
        by_cases q : c = j
        · rw [q, pk_us]
        · rw [pk_un q]; exact h3 c (by omega))
theorem sats_loop {d : PD} (hn : pdn d ≤ 7) {τ : Nat → Nat} (hst : ST d τ) {perm : Nat → Int32} (hrow : RowM d τ perm) {L1 y : Nat} (hL1 : L1 ≤ 1) (hy : y ≤ L1) (S : Nat → Nat → Prop) : ∀ (m c : Nat) (sats : Nat → Int32), c ≤ pdn d → pdn d - c < m → (∀ q, q < pdn d → ∀ i, i < 32 → (bt (sats q) i = true ↔ (S q i ∨ (i < c ∧ τ i = q)))) → ∃ r, lf_X11_layFits_171 (nI L1) (nI y) (nI (pdn d)) perm m (nI c) sats = some r ∧ ∀ q, q < pdn d → ∀ i, i < 32 → (bt (r q) i = true ↔ (S q i ∨ (i < pdn d ∧ τ i = q))) := by
  intro m
  induction m with
  | zero => intro c sats h1 h2; omega
  | succ m ih =>
    intro c sats h1 h2 h3
    rw [lf_X11_layFits_171]
    by_cases hc : pdn d ≤ c
    · have : c = pdn d := by omega
      subst this
      rw [qs_t (nI_le hc (by omega))]
      exact ⟨sats, rfl, h3⟩
    · have hc' : c < pdn d := by omega
      have hs := hst.2.1 c hc'
      rw [qs_f (nI_ge hc' (by omega)), qs_f (c := nI L1 < nI y) (nI_nlt hy (by omega))]
      simp (disch := omega) only [qs_cl, qg_in2, qs_lt, nI_1, hrow c hc']
      refine ih (c + 1) _ (by omega) (by omega) (fun q hq i hi => ?_)
      by_cases hqc : q = τ c
      · rw [hqc, pk_us, b_or, b_1shl c (by omega) i hi, Bool.or_eq_true, h3 _ hs i hi, decide_eq_true_eq]
        constructor
        · rintro ((g | ⟨g1, g2⟩) | g)
          · exact Or.inl g
          · exact Or.inr ⟨by omega, g2⟩
          · rw [g]; exact Or.inr ⟨by omega, rfl⟩
        · rintro (g | ⟨g1, g2⟩)
          · exact Or.inl (Or.inl g)
          · by_cases gi : i = c
            · exact Or.inr gi
            · exact Or.inl (Or.inr ⟨by omega, g2⟩)
      · rw [pk_un hqc, h3 q hq i hi]
        constructor
        · rintro (g | ⟨g1, g2⟩)
          · exact Or.inl g
          · exact Or.inr ⟨by omega, g2⟩
        · rintro (g | ⟨g1, g2⟩)
          · exact Or.inl g
          · by_cases gi : i = c
            · rw [gi] at g2; exact absurd g2.symm hqc
            · exact Or.inr ⟨by omega, g2⟩
theorem sats_skip {L1 y : Nat} (h : L1 < y) (hy : y ≤ 99) {n : Int32} {perm sats : Nat → Int32} : lf_X11_layFits_171 (nI L1) (nI y) n perm pw_FU 0 sats = some sats := by
  unfold pw_FU
  rw [lf_X11_layFits_171, qs_t (c := nI L1 < nI y) (nI_lt h (by omega))]
  unfold pw_cd; split <;> rfl
section
theorem fit_step {d : PD} (hw : PWf d) {pe ro tu ap : Int32} {woman mate quarrel joined worths : Nat → Int32} (hm : PM d pe ro tu ap woman mate quarrel joined worths) {A E : Nat → Nat} {B : Nat → Bool} {k : Nat} {ones others besides one other beside : Nat → Int32} (hG : GD A E B k ones others besides one other beside) (hk8 : k ≤ 8) (er : ro = b2i (pdr d)) {L1 : Nat} (hL1 : L1 ≤ 1) {pre suf : List (Nat → Nat)} {τ : Nat → Nat} {m : Nat} {perm sats : Nat → Int32} (hA : allS d = pre ++ τ :: suf) (hrow : RowM d τ perm) (hs : ∀ q, q < pdn d → Bits d (fit d A E B k L1) (pre.filter (lawB d)) q (sats q)) {z : Int32} {p' : Nat → Int32} (eg : f_X11_goOn (nI (pdn d)) perm = some (z, p')) : ∃ sats', (∀ q, q < pdn d → Bits d (fit d A E B k L1) ((pre ++ [τ]).filter (lawB d)) q (sats' q)) ∧ lf_X11_layFits_29 (nI L1) (nI (pdn d)) ro tu ap (nI k) woman mate quarrel joined one other beside (m + 1) (nI ((pre.filter (lawB d)).filter (fit d A E B k L1)).length) 1 perm sats = lf_X11_layFits_29 (nI L1) (nI (pdn d)) ro tu ap (nI k) woman mate quarrel joined one other beside m (nI (((pre ++ [τ]).filter (lawB d)).filter (fit d A E B k L1)).length) z p' sats' := by
  have hn := hw.1
  have hst : ST d τ := all_mem.mp (by rw [hA]; simp)
  obtain ⟨r, er1, hr⟩ := lawAt hw hm hA hrow
  have h0 : ∀ a : Nat, nI a + 0 = nI a := fun a => by show nI _ + nI 0 = _; rw [nI_add]; rfl
  rw [lf_X11_layFits_29, qs_f (c := (1 : Int32) = 0) (by decide), er1, qs_bd, qs_u1, List.filter_append]
  rcases hr with ⟨rfl, hl⟩ | ⟨rfl, hl⟩
  · rw [qs_f (c := (1 : Int32) = 0) (by decide), qs_lt, List.filter_cons_of_pos (lawB_iff.mpr hl), List.filter_nil, cls_ff]
    obtain ⟨y, hy, e2, h⟩ := fitM_loop hw hG hk8 hst hrow hL1 pw_FU 0 (by omega) (by unfold pw_FU; omega)
    have e2' : lf_X11_layFits_55 (nI L1) (nI (pdn d)) ro (nI k) perm one other beside pw_FU 0 0 = some (nI y) := by rw [er]; exact e2
    rw [e2', qs_bd, qs_u1]
    by_cases hlt : L1 < y
    · have hf : fit d A E B k L1 τ = false := by unfold fit; rw [decide_eq_false (by have := h.mp hlt; omega)]
      rw [qs_t (nI_lt hlt (by omega)), qs_lt, h0, qs_lt, sats_skip hlt (by omega), qs_bd, qs_u1, eg, qs_bd, qs_u2, hf, if_neg (by decide), Nat.add_zero]
      exact ⟨sats, fun q hq i hi => by rw [SB_skip hf]; exact hs q hq i hi, rfl⟩
    · have hf : fit d A E B k L1 τ = true := by unfold fit; rw [decide_eq_true (by have := fun g => hlt (h.mpr g); omega)]
      obtain ⟨s2, e3, h3⟩ := sats_loop hn hst hrow hL1 (show y ≤ L1 by omega) (fun q i => SB d (fit d A E B k L1) (pre.filter (lawB d)) q i) pw_FU 0 sats (by omega) (by unfold pw_FU; omega) (fun q hq i hi => by
        rw [hs q hq i hi]
        constructor
        · exact Or.inl
        · rintro (g | ⟨g, _⟩)
          · exact g
          · omega)
      have e3' : lf_X11_layFits_171 (nI L1) (nI y) (nI (pdn d)) perm pw_FU 0 sats = some s2 := e3
      rw [qs_f (nI_nlt (show y ≤ L1 by omega) (by omega)), qs_lt, nI_1, qs_lt, e3', qs_bd, qs_u1, eg, qs_bd, qs_u2, hf, if_pos rfl]
      exact ⟨s2, fun q hq i hi => by rw [SB_add hf]; exact h3 q hq i hi, rfl⟩
  · rw [qs_t (c := (0 : Int32) = 0) rfl, qs_lt, List.filter_cons_of_neg (fun g => hl (lawB_iff.mp g)), List.filter_nil, List.append_nil]
    have e2 : lf_X11_layFits_55 (nI L1) (nI (pdn d)) ro (nI k) perm one other beside pw_FU 99 0 = some (nI 99) := by
      unfold pw_FU
      rw [lf_X11_layFits_55, qs_t (c := nI L1 < 99) (nI_lt (b := 99) (by omega) (by omega))]
      unfold pw_cd; split <;> rfl
    rw [e2, qs_bd, qs_u1, qs_t (nI_lt (show L1 < 99 by omega) (by omega)), qs_lt, h0, qs_lt, sats_skip (show L1 < 99 by omega) (by omega), qs_bd, qs_u1, eg, qs_bd, qs_u2]
    exact ⟨sats, hs, rfl⟩
theorem fit_loop {d : PD} (hw : PWf d) {pe ro tu ap : Int32} {woman mate quarrel joined worths : Nat → Int32} (hm : PM d pe ro tu ap woman mate quarrel joined worths) {A E : Nat → Nat} {B : Nat → Bool} {k : Nat} {ones others besides one other beside : Nat → Int32} (hG : GD A E B k ones others besides one other beside) (hk8 : k ≤ 8) (er : ro = b2i (pdr d)) {L1 : Nat} (hL1 : L1 ≤ 1) : ∀ (suf pre : List (Nat → Nat)) (τ : Nat → Nat) (m : Nat) (perm sats : Nat → Int32), allS d = pre ++ τ :: suf → RowM d τ perm → suf.length + 1 < m → (∀ q, q < pdn d → Bits d (fit d A E B k L1) (pre.filter (lawB d)) q (sats q)) → ∃ perm' sats', (∀ q, q < pdn d → Bits d (fit d A E B k L1) (lawL d) q (sats' q)) ∧ lf_X11_layFits_29 (nI L1) (nI (pdn d)) ro tu ap (nI k) woman mate quarrel joined one other beside m (nI ((pre.filter (lawB d)).filter (fit d A E B k L1)).length) 1 perm sats = some (nI ((lawL d).filter (fit d A E B k L1)).length, perm', sats') := by
  intro suf
  induction suf with
  | nil =>
    intro pre τ m perm sats hA hrow hm2 hs
    obtain ⟨m, rfl⟩ : ∃ k, m = k + 2 := ⟨m - 2, by simp only [List.length_nil] at hm2; omega⟩
    rcases goOn_list hw.1 hA hrow with ⟨e, _⟩ | ⟨p', τ', s', _, _, h⟩
    · obtain ⟨s2, h1, h2⟩ := fit_step hw hm hG hk8 er hL1 (m := m + 1) hA hrow hs e
      have hLL : lawL d = (pre ++ [τ]).filter (lawB d) := by unfold lawL; rw [hA]
      rw [h2, lf_X11_layFits_29, qs_t (c := (0 : Int32) = 0) rfl, ← hLL]
      rw [← hLL] at h1
      exact ⟨_, _, h1, rfl⟩
    · exact absurd h (by simp)
  | cons τ1 suf ih =>
    intro pre τ m perm sats hA hrow hm2 hs
    obtain ⟨m, rfl⟩ : ∃ k, m = k + 1 := ⟨m - 1, by omega⟩
    rcases goOn_list hw.1 hA hrow with ⟨_, h⟩ | ⟨p', τ', s', e, hr', h⟩
    · exact absurd h (by simp)
    · obtain ⟨rfl, rfl⟩ := List.cons.inj h
      obtain ⟨s2, h1, h2⟩ := fit_step hw hm hG hk8 er hL1 (m := m) hA hrow hs e
      rw [h2]
      exact ih (pre ++ [τ]) τ1 m p' s2 (by rw [hA]; simp) hr' (by simp only [List.length_cons] at hm2; omega) h1
theorem fitsM {d : PD} (hw : PWf d) {pe ro tu ap : Int32} {woman mate quarrel joined worths : Nat → Int32} (hm : PM d pe ro tu ap woman mate quarrel joined worths) {A E : Nat → Nat} {B : Nat → Bool} {k : Nat} {ones others besides one other beside : Nat → Int32} (hG : GD A E B k ones others besides one other beside) (hk8 : k ≤ 8) (er : ro = b2i (pdr d)) {L1 : Nat} (hL1 : L1 ≤ 1) (perm sats : Nat → Int32) : ∃ perm' sats', (∀ q, q < pdn d → Bits d (fit d A E B k L1) (lawL d) q (sats' q)) ∧ f_X11_layFits (nI L1) (nI (pdn d)) ro tu ap (nI k) woman mate quarrel joined perm one other beside sats = some (nI ((lawL d).filter (fit d A E B k L1)).length, perm', sats') := by
  unfold f_X11_layFits
  obtain ⟨s0, e0, hz⟩ := zero7 pw_FU 0 sats (by omega) (by unfold pw_FU; omega) (fun c hc => absurd hc (Nat.not_lt_zero _))
  have e0' : lf_X11_layFits_2 pw_FU 0 sats = some s0 := e0
  obtain ⟨p, τ, suf, e, h1, h2⟩ := begin_list hw.1 perm
  have hl := all_len hw.1
  obtain ⟨p', s', g1, g2⟩ := fit_loop hw hm hG hk8 er hL1 suf [] τ pw_FU p s0 h2 h1 (by rw [h2] at hl; simp only [List.length_cons] at hl; unfold pw_FU; omega) (fun q hq i hi => by
    rw [hz q (by have := hw.1; omega), b_0]
    constructor
    · intro g; exact absurd g (by decide)
    · rintro ⟨ρ, g, _⟩; exact absurd g (by simp))
  have g2' : lf_X11_layFits_29 (nI L1) (nI (pdn d)) ro tu ap (nI k) woman mate quarrel joined one other beside pw_FU 0 1 p s0 = some (nI ((lawL d).filter (fit d A E B k L1)).length, p', s') := g2
  rw [e0', qs_bd, qs_u1, e, qs_bd, qs_u1, g2', qs_bd, qs_u3]
  exact ⟨p', s', g1, rfl⟩
end
theorem in01 (x : Int32) : (∃ L1, L1 ≤ 1 ∧ x = nI L1 ∧ f_X11_in (Int32.toInt64 x) 0 1 = 1 ∧ ¬ x < 0 ∧ x ≤ 1) ∨ (f_X11_in (Int32.toInt64 x) 0 1 = 0 ∧ (x < 0 ∨ (¬ x < 0 ∧ ¬ x ≤ 1))) := by
  have ein : f_X11_in (Int32.toInt64 x) 0 1 = if (0 : Int32) ≤ x ∧ x ≤ 1 then 1 else 0 := in_ii x 0 1
  rw [ein]
  by_cases h1 : x < 0
  · right
    rw [if_neg (fun g => (fa_of_lt h1).2.1 g.1)]
    exact ⟨rfl, Or.inl h1⟩
  · by_cases h2 : x ≤ 1
    · left
      obtain ⟨j, hj, rfl⟩ := nI_of2 (M := 1) (n := 1) (by decide) h1 h2
      exact ⟨j, hj, rfl, by rw [if_pos ⟨fa_of_nlt h1, h2⟩], h1, h2⟩
    · right
      rw [if_neg (fun g => h2 g.2)]
      exact ⟨rfl, Or.inr ⟨h1, h2⟩⟩
theorem Sim_fits_ok : Sim_fits Inv := by
  intro s t hI x1
  obtain ⟨h1, h2, h3, h4, d, σ, f, hw, hx, hm, hst, hdn, hse, hdx, hsm, hdm, hac, hs0, hs1, hla⟩ := id hI
  have hn := hw.1
  have er : sx_guests_round s = b2i (pdr d) := hx.1
  have ep : sx_guests_people s = nI (pdn d) := hx.2.2.2.1
  have em : sm_people t = nI (pdn d) := hm.1
  have em2 : sm_isRound t = b2i (pdr d) := hm.2.1
  have hll := lawL_len hn
  obtain ⟨v', N', eL, hL⟩ := listX hw hx hla
  obtain ⟨k, A, E, B, hk8, ek1, ek2, hG⟩ := GD_of h3
  have hI' : ∀ a b, Inv (px_fits s 1 (nI (lawL d).length) v' N') (pm_fits t a b) := fun a b => ⟨h1, h2, h3, h4, d, σ, f, hw, hx, hm, hst, hdn, hse, hdx, hsm, hdm, hac, hs0, hs1, LW_RLaw hL⟩
  unfold f_X10_fits f_X11_fits
  rw [er, ep] at eL
  rcases in01 x1 with ⟨L1, hL1, rfl, ein, q1, q2⟩ | ⟨ein, q⟩
  · obtain ⟨p', s', g1, g2⟩ := fitsM hw hm hG hk8 em2 hL1 (sm_perm_v t) (sm_sats_v t)
    rw [em2] at g2
    have e3 : lf_X10_fits_27 (nI L1) (nI (lawL d).length) v' N' (nI k) (sx_gossips_ones_v s) (sx_gossips_others_v s) (sx_gossips_besides_v s) (b2i (pdr d)) (nI (pdn d)) pw_FU 0 0 = some (nI ((lawL d).filter (fit d A E B k L1)).length) := fits_loop hw hG hk8 hL hL1 pw_FU 0 (by omega) (by unfold pw_FU; omega)
    rw [ein, qs_lt, qs_f (c := (1 : Int32) = 0) (by decide), qs_f q1, qs_t q2, er, ep, em, em2, ek1, ek2, eL, qs_bd, qs_u4, e3, qs_bd, qs_u1, g2, qs_bd, qs_u3]
    exact ⟨_, _, _, _, _, _, _, rfl, rfl, hI' _ _⟩
  · rw [ein, qs_lt, qs_t (c := (0 : Int32) = 0) rfl]
    rcases q with q | ⟨q1, q2⟩
    · rw [qs_t q]; exact ⟨_, _, _, _, _, _, _, rfl, rfl, hI⟩
    · rw [qs_f q1, qs_f q2]; exact ⟨_, _, _, _, _, _, _, rfl, rfl, hI⟩
theorem Sim_sat_ok : Sim_sat Inv := by
  intro s t hI x1 x2
  obtain ⟨h1, h2, h3, h4, d, σ, f, hw, hx, hm, hst, hdn, hse, hdx, hsm, hdm, hac, hs0, hs1, hla⟩ := id hI
  have hn := hw.1
  have er : sx_guests_round s = b2i (pdr d) := hx.1
  have ep : sx_guests_people s = nI (pdn d) := hx.2.2.2.1
  have em : sm_people t = nI (pdn d) := hm.1
  have em2 : sm_isRound t = b2i (pdr d) := hm.2.1
  have hll := lawL_len hn
  obtain ⟨v', N', eL, hL⟩ := listX hw hx hla
  obtain ⟨k, A, E, B, hk8, ek1, ek2, hG⟩ := GD_of h3
  have hI' : ∀ a b, Inv (px_sat s 1 (nI (lawL d).length) v' N') (pm_sat t a b) := fun a b => ⟨h1, h2, h3, h4, d, σ, f, hw, hx, hm, hst, hdn, hse, hdx, hsm, hdm, hac, hs0, hs1, LW_RLaw hL⟩
  unfold f_X10_sat f_X11_sat
  rw [er, ep] at eL
  rw [ep, em, isP_eq x1 hn, qs_bd, qs_u1, qs_lt]
  rcases hp_cases x1 hn with ⟨p, hp, rfl⟩ | h
  · rw [hp_in hp hn, qs_nt (c := (1 : Int32) = 0) (by decide), qs_nt (c := (1 : Int32) = 0) (by decide)]
    rcases in01 x2 with ⟨L1, hL1, rfl, ein, q1, q2⟩ | ⟨ein, q⟩
    · obtain ⟨p', s', g1, g2⟩ := fitsM hw hm hG hk8 em2 hL1 (sm_perm_v t) (sm_sats_v t)
      rw [em2] at g2
      obtain ⟨y, e3, hb⟩ := sat_loop hw hG hk8 hL hL1 hp pw_FU 0 0 (by omega) (by unfold pw_FU; omega) (fun i hi => by
        rw [b_0]
        constructor
        · intro g; exact absurd g (by decide)
        · rintro ⟨ρ, g, _⟩; exact absurd g (by simp))
      have e3' : lf_X10_sat_41 (nI p) (nI L1) (nI (lawL d).length) v' N' (nI k) (sx_gossips_ones_v s) (sx_gossips_others_v s) (sx_gossips_besides_v s) (b2i (pdr d)) (nI (pdn d)) pw_FU 0 0 = some y := e3
      rw [ein, qs_lt, qs_nt (c := (1 : Int32) = 0) (by decide), qs_f q1, qs_t q2, er, em2, ek1, ek2, eL, qs_bd, qs_u4, e3', qs_bd, qs_u1, g2, qs_bd, qs_u3]
      simp (disch := omega) only [qs_cl, qg_in2]
      have e4 : y = s' p := Bits_ext hb (g1 p hp)
      rw [e4]
      exact ⟨_, _, _, _, _, _, _, rfl, rfl, hI' _ _⟩
    · rw [ein, qs_lt, qs_nf (c := (0 : Int32) = 0) rfl]
      rcases q with q | ⟨q1, q2⟩
      · rw [qs_t q]; exact ⟨_, _, _, _, _, _, _, rfl, rfl, hI⟩
      · rw [qs_f q1, qs_f q2]; exact ⟨_, _, _, _, _, _, _, rfl, rfl, hI⟩
  · rw [hp_out hn h, qs_nf (c := (0 : Int32) = 0) rfl, qs_nf (c := (0 : Int32) = 0) rfl]
    exact ⟨_, _, _, _, _, _, _, rfl, rfl, hI⟩
