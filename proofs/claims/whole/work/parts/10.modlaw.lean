/-! ===== the model: next chairs, may two sit beside, fine, lawful ===== -/
theorem nI_sub1 {n : Nat} (h : 1 ≤ n) : nI n - 1 = nI (n - 1) := pk_sub (a := n) (b := 1) h
theorem next_eq {d : PD} (hn : pdn d ≤ 7) {c e : Nat} (hc : c < pdn d) (he : e < pdn d) (hne : c ≠ e) : f_X11_areNext (nI c) (nI e) (nI (pdn d)) (b2i (pdr d)) = b2i (nx d c e) := by
  unfold f_X11_areNext
  rw [qs_lt]
  have ej : pw_cd (nI e ≤ nI c) (nI c - nI e) (nI e - nI c) = nI (if e ≤ c then c - e else e - c) := by
    by_cases h : e ≤ c
    · rw [qs_t (nI_le h (by omega)), if_pos h, pk_sub h]
    · rw [qs_f (fun g => h ((nI_leI (by omega) (by omega)).mp g)), if_neg h, pk_sub (by omega)]
  rw [ej]
  generalize hj : (if e ≤ c then c - e else e - c) = j
  have hj7 : j ≤ 7 := by rw [← hj]; split <;> omega
  by_cases h1 : j = 1
  · rw [qs_t (c := nI j = 1) (by rw [h1]; rfl)]
    have : nx d c e = true := by rw [nx_iff]; rw [h1] at hj; split at hj <;> omega
    rw [this]; rfl
  · rw [qs_f (c := nI j = 1) (fun g => h1 ((nI_eq (b := 1) (by omega) (by omega)).mp g))]
    cases hr : pdr d
    · rw [qs_t (c := b2i false = 0) rfl]
      have : nx d c e = false := by
        rw [Bool.eq_false_iff]; intro g; rw [nx_iff, hr] at g
        rcases g with g | g | g
        · split at hj <;> omega
        · split at hj <;> omega
        · exact absurd g.1 (by decide)
      rw [this]; rfl
    · rw [qs_f (c := b2i true = 0) (by decide)]
      by_cases h2 : pdn d ≤ 2
      · rw [qs_t (c := nI (pdn d) ≤ 2) (nI_le (b := 2) h2 (by omega))]
        have : nx d c e = false := by
          rw [Bool.eq_false_iff]; intro g; rw [nx_iff] at g
          split at hj <;> omega
        rw [this]; rfl
      · rw [qs_f (c := nI (pdn d) ≤ 2) (fun g => h2 ((nI_leI (b := 2) (by omega) (by omega)).mp g)), nI_sub1 (by omega)]
        by_cases h3 : j = pdn d - 1
        · rw [qs_f (fun g => g (congrArg nI h3))]
          have : nx d c e = true := by rw [nx_iff]; right; right; refine ⟨hr, by omega, ?_⟩; split at hj <;> omega
          rw [this]; rfl
        · rw [qs_t (c := ¬ nI j = nI (pdn d - 1)) (fun g => h3 ((nI_eq (by omega) (by omega)).mp g))]
          have : nx d c e = false := by
            rw [Bool.eq_false_iff]; intro g; rw [nx_iff] at g
            split at hj <;> omega
          rw [this]; rfl
theorem bt_1 (x : Int32) {q : Nat} (hq : q < 31) : ((x >>> (nI q &&& 31)) &&& 1) = 0 ↔ bt x q = false := by
  constructor
  · intro h
    have h2 : bt ((x >>> (nI q &&& 31)) &&& 1) 0 = false := by rw [h, b_0]
    rw [b_and, b_sshr q (by omega) x (i := 0) (by omega)] at h2
    have e1 : bt 1 0 = true := by decide
    rw [e1, Bool.and_true, if_pos (by omega)] at h2
    exact h2
  · intro h
    apply b_ext
    intro i hi
    rw [b_and, b_0]
    by_cases h0 : i = 0
    · subst h0
      rw [b_sshr q (by omega) x (i := 0) (by omega), if_pos (by omega), Nat.add_zero, h]; rfl
    · have e1 : ∀ i, i < 32 → i ≠ 0 → bt 1 i = false := by decide +kernel
      rw [e1 i hi h0, Bool.and_false]
theorem may_eq {d : PD} (hw : PWf d) {tu ap : Int32} {woman mate quarrel : Nat → Int32} (etu : tu = b2i (pdt d)) (eap : ap = b2i (pda d)) (hwo : ∀ p, p < pdn d → woman p = b2i (pdw d p)) (hma : ∀ p, p < pdn d → (∀ q, pdc d p q = true → mate p = nI q) ∧ ((∀ q, pdc d p q = false) → mate p = -9)) (hqu : ∀ p, p < pdn d → ∀ i, i < 32 → bt (quarrel p) i = pdq d p i) {p q : Nat} (hp : p < pdn d) (hq : q < pdn d) (hne : p ≠ q) : ∃ r, f_X11_mayBeside (nI p) (nI q) tu ap woman mate quarrel = some r ∧ IsB r (pdb d p q = false) := by
  have hn := hw.1
  unfold f_X11_mayBeside
  have hp7 : p < 7 := by omega
  have hq7 : q < 7 := by omega
  simp (disch := omega) only [qs_jn, qs_cl, qg_in2]
  have hpb : pdb d p q = (pdq d p q || (pda d && pdc d p q) || (pdt d && (pdw d p == pdw d q))) := by
    unfold pdb; simp [hp, hq, hne]
  have hmate : mate p = nI q ↔ pdc d p q = true := by
    constructor
    · intro h
      cases hc : pdc d p q
      · by_cases hx : ∃ q', pdc d p q' = true
        · obtain ⟨q', hq'⟩ := hx
          have e := (hma p hp).1 q' hq'
          rw [h] at e
          have hlt := hw.2.1.1 p q' hq'
          have := (nI_eq (by omega) (by omega)).mp e
          subst this; rw [hc] at hq'; exact absurd hq' (by decide)
        · have e := (hma p hp).2 (fun q' => by cases h2 : pdc d p q' with
            | false => rfl
            | true => exact absurd ⟨q', h2⟩ hx)
          rw [h] at e
          have := nI_pos (n := q) (by omega)
          rw [e] at this
          exact absurd (by decide) this
      · rfl
    · exact (hma p hp).1 q
  by_cases c1 : ((quarrel p >>> (nI q &&& 31)) &&& 1) = 0
  · have hq0 : pdq d p q = false := by rw [← hqu p hp q (by omega)]; exact (bt_1 _ (by omega)).mp c1
    rw [qs_f (fun g => g c1)]
    have key : ∃ r, pw_cd (tu = 0) (some (1 : Int32)) (pw_cd (woman p = woman q) (some 0) (some 1)) = some r ∧ IsB r ((pdt d && (pdw d p == pdw d q)) = false) := by
      rw [etu, hwo p hp, hwo q hq]
      cases pdt d
      · rw [qs_t (c := b2i false = 0) rfl]; exact ⟨1, rfl, Or.inl ⟨rfl, rfl⟩⟩
      · rw [qs_f (c := b2i true = 0) (by decide)]
        cases pdw d p <;> cases pdw d q
        · rw [qs_t rfl]; exact ⟨0, rfl, Or.inr ⟨rfl, by decide⟩⟩
        · rw [qs_f (by decide)]; exact ⟨1, rfl, Or.inl ⟨rfl, by decide⟩⟩
        · rw [qs_f (by decide)]; exact ⟨1, rfl, Or.inl ⟨rfl, by decide⟩⟩
        · rw [qs_t rfl]; exact ⟨0, rfl, Or.inr ⟨rfl, by decide⟩⟩
    obtain ⟨r, er, hr⟩ := key
    rw [eap]
    cases ha : pda d
    · rw [qs_t (c := b2i false = 0) rfl, er]
      exact ⟨r, rfl, IsB_iff hr (by rw [hpb, hq0, ha]; simp)⟩
    · rw [qs_f (c := b2i true = 0) (by decide)]
      by_cases c2 : mate p = nI q
      · rw [qs_t c2]
        exact ⟨0, rfl, Or.inr ⟨rfl, by rw [hpb, ha, hmate.mp c2]; simp⟩⟩
      · rw [qs_f c2, er]
        have hc0 : pdc d p q = false := by cases h : pdc d p q with
          | false => rfl
          | true => exact absurd (hmate.mpr h) c2
        exact ⟨r, rfl, IsB_iff hr (by rw [hpb, hq0, hc0]; simp)⟩
  · rw [qs_t c1]
    have hq1 : pdq d p q = true := by
      cases h : pdq d p q with
      | true => rfl
      | false => exact absurd ((bt_1 _ (by omega)).mpr (by rw [hqu p hp q (by omega), h])) c1
    exact ⟨0, rfl, Or.inr ⟨rfl, by rw [hpb, hq1]; simp⟩⟩
/-- chair c is as it should be -/
def fineC (d : PD) (σ : Nat → Nat) (c : Nat) : Prop := (∀ e, e < pdn d → nx d c e = true → pdb d (σ c) (σ e) = false) ∧ ∀ q, pdg d (σ c) q = true → ∃ e, e < pdn d ∧ nx d c e = true ∧ σ e = q
theorem fine_law {d : PD} {σ : Nat → Nat} (hw : PWf d) (hst : ST d σ) : (∀ c, c < pdn d → fineC d σ c) ↔ lawS d σ := by
  constructor
  · intro h
    refine ⟨fun p q ha => ?_, fun p q hg => ?_⟩
    · obtain ⟨c, e, hc, he, h1, h2, h3⟩ := adj_iff.mp ha
      rw [← h2, ← h3]; exact (h c hc).1 e he h1
    · obtain ⟨c, hc, e1⟩ := ST_onto hst (hw.2.2.2.1.1 p q hg).1
      obtain ⟨e, he, h1, h2⟩ := (h c hc).2 q (by rw [e1]; exact hg)
      exact adj_iff.mpr ⟨c, e, hc, he, h1, e1, h2⟩
  · intro h c hc
    refine ⟨fun e he h1 => h.1 _ _ (adj_iff.mpr ⟨c, e, hc, he, h1, rfl, rfl⟩), fun q hg => ?_⟩
    obtain ⟨c', e, hc', he, h1, h2, h3⟩ := adj_iff.mp (h.2 _ _ hg)
    have := hst.2.2 c' c hc' hc h2
    subst this
    exact ⟨e, he, h1, h3⟩
/-- what the model's row of seats says -/
def RowM (d : PD) (σ : Nat → Nat) (row : Nat → Int32) : Prop := ∀ c, c < pdn d → row c = nI (σ c)
theorem b_1shl : ∀ k, k < 32 → ∀ i, i < 32 → bt ((1 : Int32) <<< (nI k &&& 31)) i = decide (i = k) := by decide +kernel
theorem fine_loop {d : PD} (hw : PWf d) {σ : Nat → Nat} (hst : ST d σ) {tu ap : Int32} {woman mate quarrel row : Nat → Int32} (etu : tu = b2i (pdt d)) (eap : ap = b2i (pda d)) (hwo : ∀ p, p < pdn d → woman p = b2i (pdw d p)) (hma : ∀ p, p < pdn d → (∀ q, pdc d p q = true → mate p = nI q) ∧ ((∀ q, pdc d p q = false) → mate p = -9)) (hqu : ∀ p, p < pdn d → ∀ i, i < 32 → bt (quarrel p) i = pdq d p i) (hrow : RowM d σ row) {c : Nat} (hc : c < pdn d) :
    ∀ (m k : Nat) (has fine : Int32), k ≤ pdn d → pdn d - k < m → (∀ i, i < 32 → (bt has i = true ↔ ∃ e, e < k ∧ nx d c e = true ∧ σ e = i)) → IsB fine (∀ e, e < k → nx d c e = true → pdb d (σ c) (σ e) = false) → ∃ h2 f2, lf_X11_isFine_8 (nI c) (nI (pdn d)) (b2i (pdr d)) tu ap woman mate quarrel row m has fine (nI k) = some (h2, f2) ∧ (∀ i, i < 32 → (bt h2 i = true ↔ ∃ e, e < pdn d ∧ nx d c e = true ∧ σ e = i)) ∧ IsB f2 (∀ e, e < pdn d → nx d c e = true → pdb d (σ c) (σ e) = false) := by
  have hn := hw.1
  intro m
  induction m with
  | zero => intro k has fine h1 h2; omega
  | succ m ih =>
    intro k has fine h1 h2 hh hf
    rw [lf_X11_isFine_8]
    by_cases hk : pdn d ≤ k
    · have ek : k = pdn d := by omega
      subst ek
      rw [qs_t (nI_le hk (by omega))]
      exact ⟨has, fine, rfl, hh, hf⟩
    · have hk' : k < pdn d := by omega
      rw [qs_f (nI_ge hk' (by omega)), nI_1]
      have skip : nx d c k = false → ∃ h2 f2, lf_X11_isFine_8 (nI c) (nI (pdn d)) (b2i (pdr d)) tu ap woman mate quarrel row m has fine (nI (k + 1)) = some (h2, f2) ∧ (∀ i, i < 32 → (bt h2 i = true ↔ ∃ e, e < pdn d ∧ nx d c e = true ∧ σ e = i)) ∧ IsB f2 (∀ e, e < pdn d → nx d c e = true → pdb d (σ c) (σ e) = false) := by
        intro hnx
        refine ih (k + 1) has fine (by omega) (by omega) (fun i hi => ?_) (IsB_iff hf ?_)
        · rw [hh i hi]
          constructor
          · rintro ⟨e, he, g⟩; exact ⟨e, by omega, g⟩
          · rintro ⟨e, he, g1, g2⟩
            have : e ≠ k := fun q => by rw [q, hnx] at g1; exact absurd g1 (by decide)
            exact ⟨e, by omega, g1, g2⟩
        · constructor
          · intro g e he g1
            have : e ≠ k := fun q => by rw [q, hnx] at g1; exact absurd g1 (by decide)
            exact g e (by omega) g1
          · intro g e he g1; exact g e (by omega) g1
      by_cases hkc : k = c
      · rw [qs_t (congrArg nI hkc)]
        refine skip ?_
        rw [Bool.eq_false_iff]; intro g; exact nx_ne g hkc.symm
      · rw [qs_f (fun g => hkc ((nI_eq (by omega) (by omega)).mp g)), qs_lt, next_eq hn hc hk' (fun g => hkc g.symm)]
        cases hnx : nx d c k
        · rw [qs_t (c := b2i false = 0) rfl]
          exact skip hnx
        · rw [qs_f (c := b2i true = 0) (by decide), qs_g (qs_in (by omega) (by omega)), qs_lt]
          have hsk := hst.2.1 k hk'
          have hsc := hst.2.1 c hc
          have hne : σ c ≠ σ k := fun g => hkc (hst.2.2 c k hc hk' g).symm
          simp (disch := omega) only [qs_cl, qg_in2, hrow k hk', hrow c hc]
          have hh' : ∀ i, i < 32 → (bt (has ||| ((1 : Int32) <<< (nI (σ k) &&& 31))) i = true ↔ ∃ e, e < k + 1 ∧ nx d c e = true ∧ σ e = i) := by
            intro i hi
            rw [b_or, b_1shl _ (by omega) _ hi, Bool.or_eq_true, hh i hi, decide_eq_true_eq]
            constructor
            · rintro (⟨e, he, g⟩ | g)
              · exact ⟨e, by omega, g⟩
              · exact ⟨k, by omega, hnx, g.symm⟩
            · rintro ⟨e, he, g1, g2⟩
              by_cases hek : e = k
              · subst hek; exact Or.inr g2.symm
              · exact Or.inl ⟨e, by omega, g1, g2⟩
          obtain ⟨r, er, hr⟩ := may_eq hw etu eap hwo hma hqu hsc hsk hne
          rcases hf with ⟨rfl, hf⟩ | ⟨rfl, hf⟩
          · rw [qs_f (c := (1 : Int32) = 0) (by decide), er, qs_bd, qs_u1]
            rcases hr with ⟨rfl, hr⟩ | ⟨rfl, hr⟩
            · rw [qs_f (c := (1 : Int32) = 0) (by decide)]
              refine ih (k + 1) _ _ (by omega) (by omega) hh' (Or.inl ⟨rfl, fun e he g1 => ?_⟩)
              by_cases hek : e = k
              · subst hek; exact hr
              · exact hf e (by omega) g1
            · rw [qs_t rfl]
              refine ih (k + 1) _ _ (by omega) (by omega) hh' (Or.inr ⟨rfl, fun g => hr (g k (by omega) hnx)⟩)
          · rw [qs_t rfl]
            refine ih (k + 1) _ _ (by omega) (by omega) hh' (Or.inr ⟨rfl, fun g => hf (fun e he g1 => g e (by omega) g1)⟩)
theorem fineM {d : PD} (hw : PWf d) {σ : Nat → Nat} (hst : ST d σ) {tu ap : Int32} {woman mate quarrel joined row : Nat → Int32} (etu : tu = b2i (pdt d)) (eap : ap = b2i (pda d)) (hwo : ∀ p, p < pdn d → woman p = b2i (pdw d p)) (hma : ∀ p, p < pdn d → (∀ q, pdc d p q = true → mate p = nI q) ∧ ((∀ q, pdc d p q = false) → mate p = -9)) (hqu : ∀ p, p < pdn d → ∀ i, i < 32 → bt (quarrel p) i = pdq d p i) (hjo : ∀ p, p < pdn d → ∀ i, i < 32 → bt (joined p) i = pdg d p i) (hrow : RowM d σ row) {c : Nat} (hc : c < pdn d) : ∃ r, f_X11_isFine (nI c) (nI (pdn d)) (b2i (pdr d)) tu ap woman mate quarrel joined row = some r ∧ IsB r (fineC d σ c) := by
  have hn := hw.1
  have hsc := hst.2.1 c hc
  have hz : ∀ i, i < 32 → (bt 0 i = true ↔ ∃ e, e < 0 ∧ nx d c e = true ∧ σ e = i) := by
    intro i hi
    rw [b_0]
    constructor
    · intro g; exact absurd g (by decide)
    · rintro ⟨e, he, _⟩; omega
  obtain ⟨h2, f2, e, hh, hf⟩ := fine_loop hw hst etu eap hwo hma hqu hrow hc pw_FU 0 0 1 (by omega) (by unfold pw_FU; omega) hz (Or.inl ⟨rfl, fun e he => by omega⟩)
  unfold f_X11_isFine
  have e' : lf_X11_isFine_8 (nI c) (nI (pdn d)) (b2i (pdr d)) tu ap woman mate quarrel row pw_FU 0 1 0 = some (h2, f2) := e
  rw [e', qs_bd, qs_u2]
  rcases hf with ⟨rfl, hf⟩ | ⟨rfl, hf⟩
  · rw [qs_f (c := (1 : Int32) = 0) (by decide)]
    simp (disch := omega) only [qs_cl, qg_in2, hrow c hc]
    have z : (joined (σ c) &&& (h2 ^^^ (-1))) = 0 ↔ ∀ q, pdg d (σ c) q = true → ∃ e, e < pdn d ∧ nx d c e = true ∧ σ e = q := by
      constructor
      · intro g q hq
        have hlt := hw.2.2.2.1.1 _ _ hq
        have g1 : bt (joined (σ c) &&& (h2 ^^^ (-1))) q = false := by rw [g, b_0]
        rw [b_and, b_xor, b_m1 q (by omega), hjo _ hsc q (by omega), hq] at g1
        refine (hh q (by omega)).mp ?_
        cases hb : bt h2 q with
        | true => rfl
        | false => rw [hb] at g1; exact absurd g1 (by decide)
      · intro g
        apply b_ext
        intro i hi
        rw [b_0, b_and, b_xor, b_m1 i hi, hjo _ hsc i hi]
        cases hb : pdg d (σ c) i with
        | false => rfl
        | true => rw [(hh i hi).mpr (g i hb)]; rfl
    by_cases c1 : (joined (σ c) &&& (h2 ^^^ (-1))) = 0
    · rw [qs_f (fun g => g c1)]
      exact ⟨1, rfl, Or.inl ⟨rfl, hf, z.mp c1⟩⟩
    · rw [qs_t c1]
      exact ⟨0, rfl, Or.inr ⟨rfl, fun g => c1 (z.mpr g.2)⟩⟩
  · rw [qs_t rfl]
    exact ⟨0, rfl, Or.inr ⟨rfl, fun g => hf g.1⟩⟩
/-- the first chair that is not as it should be: c, or none -/
def WrC (d : PD) (σ : Nat → Nat) (r : Int32) : Prop := (∃ c, c < pdn d ∧ r = nI c ∧ ¬ fineC d σ c ∧ ∀ e, e < c → fineC d σ e) ∨ (r = -9 ∧ ∀ e, e < pdn d → fineC d σ e)
theorem WrC_eq {d : PD} {σ : Nat → Nat} {r r' : Int32} (h : WrC d σ r) (h' : WrC d σ r') : r = r' := by
  rcases h with ⟨c, hc, e, g1, g2⟩ | ⟨e, g⟩ <;> rcases h' with ⟨c', hc', e', g1', g2'⟩ | ⟨e', g'⟩
  · have : c = c' := by
      rcases Nat.lt_trichotomy c c' with q | q | q
      · exact absurd (g2' c q) g1
      · exact q
      · exact absurd (g2 c' q) g1'
    rw [e, e', this]
  · exact absurd (g' c hc) g1
  · exact absurd (g c' hc') g1'
  · rw [e, e']
section WM
variable {d : PD} (hw : PWf d) {σ : Nat → Nat} (hst : ST d σ) {tu ap : Int32} {woman mate quarrel joined row : Nat → Int32} (etu : tu = b2i (pdt d)) (eap : ap = b2i (pda d)) (hwo : ∀ p, p < pdn d → woman p = b2i (pdw d p)) (hma : ∀ p, p < pdn d → (∀ q, pdc d p q = true → mate p = nI q) ∧ ((∀ q, pdc d p q = false) → mate p = -9)) (hqu : ∀ p, p < pdn d → ∀ i, i < 32 → bt (quarrel p) i = pdq d p i) (hjo : ∀ p, p < pdn d → ∀ i, i < 32 → bt (joined p) i = pdg d p i) (hrow : RowM d σ row)
theorem wrong_loop (hw : PWf d) (hst : ST d σ) (etu : tu = b2i (pdt d)) (eap : ap = b2i (pda d)) (hwo : ∀ p, p < pdn d → woman p = b2i (pdw d p)) (hma : ∀ p, p < pdn d → (∀ q, pdc d p q = true → mate p = nI q) ∧ ((∀ q, pdc d p q = false) → mate p = -9)) (hqu : ∀ p, p < pdn d → ∀ i, i < 32 → bt (quarrel p) i = pdq d p i) (hjo : ∀ p, p < pdn d → ∀ i, i < 32 → bt (joined p) i = pdg d p i) (hrow : RowM d σ row) : ∀ (m k : Nat), k ≤ pdn d → pdn d - k < m → (∀ e, e < k → fineC d σ e) → (∃ c, c < pdn d ∧ lf_X11_wrongOf_2 (nI (pdn d)) (b2i (pdr d)) tu ap woman mate quarrel joined row m (nI k) = some (.inl (nI c)) ∧ ¬ fineC d σ c ∧ ∀ e, e < c → fineC d σ e) ∨ (lf_X11_wrongOf_2 (nI (pdn d)) (b2i (pdr d)) tu ap woman mate quarrel joined row m (nI k) = some (.inr ()) ∧ ∀ e, e < pdn d → fineC d σ e) := by
  have hn := hw.1
  intro m
  induction m with
  | zero => intro k h1 h2; omega
  | succ m ih =>
    intro k h1 h2 hf
    rw [lf_X11_wrongOf_2]
    by_cases hk : pdn d ≤ k
    · rw [qs_t (nI_le hk (by omega))]
      exact Or.inr ⟨rfl, fun e he => hf e (by omega)⟩
    · have hk' : k < pdn d := by omega
      obtain ⟨r, er, hr⟩ := fineM hw hst etu eap hwo hma hqu hjo hrow hk'
      rw [qs_f (nI_ge hk' (by omega)), er, qs_bd, qs_u1, nI_1]
      rcases hr with ⟨rfl, hr⟩ | ⟨rfl, hr⟩
      · rw [qs_t (c := ¬ (1 : Int32) = 0) (by decide)]
        refine ih (k + 1) (by omega) (by omega) (fun e he => ?_)
        by_cases hek : e = k
        · subst hek; exact hr
        · exact hf e (by omega)
      · rw [qs_f (fun g => g rfl)]
        exact Or.inl ⟨k, hk', rfl, hr, hf⟩
theorem wrongM (hw : PWf d) (hst : ST d σ) (etu : tu = b2i (pdt d)) (eap : ap = b2i (pda d)) (hwo : ∀ p, p < pdn d → woman p = b2i (pdw d p)) (hma : ∀ p, p < pdn d → (∀ q, pdc d p q = true → mate p = nI q) ∧ ((∀ q, pdc d p q = false) → mate p = -9)) (hqu : ∀ p, p < pdn d → ∀ i, i < 32 → bt (quarrel p) i = pdq d p i) (hjo : ∀ p, p < pdn d → ∀ i, i < 32 → bt (joined p) i = pdg d p i) (hrow : RowM d σ row) : ∃ r, f_X11_wrongOf (nI (pdn d)) (b2i (pdr d)) tu ap woman mate quarrel joined row = some r ∧ WrC d σ r := by
  unfold f_X11_wrongOf
  rcases wrong_loop hw hst etu eap hwo hma hqu hjo hrow pw_FU 0 (by omega) (by have := hw.1; unfold pw_FU; omega) (fun e he => by omega) with ⟨c, hc, e, g1, g2⟩ | ⟨e, g⟩
  · have e' : lf_X11_wrongOf_2 (nI (pdn d)) (b2i (pdr d)) tu ap woman mate quarrel joined row pw_FU 0 = some (.inl (nI c)) := e
    rw [e', qs_bl, qs_u1]
    exact ⟨nI c, rfl, Or.inl ⟨c, hc, rfl, g1, g2⟩⟩
  · have e' : lf_X11_wrongOf_2 (nI (pdn d)) (b2i (pdr d)) tu ap woman mate quarrel joined row pw_FU 0 = some (.inr ()) := e
    rw [e', qs_br, qs_u1]
    exact ⟨-9, rfl, Or.inr ⟨rfl, g⟩⟩
theorem lawM (hw : PWf d) (hst : ST d σ) (etu : tu = b2i (pdt d)) (eap : ap = b2i (pda d)) (hwo : ∀ p, p < pdn d → woman p = b2i (pdw d p)) (hma : ∀ p, p < pdn d → (∀ q, pdc d p q = true → mate p = nI q) ∧ ((∀ q, pdc d p q = false) → mate p = -9)) (hqu : ∀ p, p < pdn d → ∀ i, i < 32 → bt (quarrel p) i = pdq d p i) (hjo : ∀ p, p < pdn d → ∀ i, i < 32 → bt (joined p) i = pdg d p i) (hrow : RowM d σ row) : ∃ r, f_X11_isLawful (nI (pdn d)) (b2i (pdr d)) tu ap woman mate quarrel joined row = some r ∧ IsB r (lawS d σ) := by
  obtain ⟨r, e, h⟩ := wrongM hw hst etu eap hwo hma hqu hjo hrow
  unfold f_X11_isLawful
  rw [e, qs_bd, qs_u1]
  rcases h with ⟨c, hc, rfl, g1, g2⟩ | ⟨rfl, g⟩
  · rw [qs_t (c := ¬ nI c = -9) (fun q => by
      have := nI_pos (n := c) (by have := hw.1; omega)
      rw [q] at this
      exact absurd (by decide) this)]
    exact ⟨0, rfl, Or.inr ⟨rfl, fun q => g1 ((fine_law hw hst).mpr q c hc)⟩⟩
  · rw [qs_f (fun q => q rfl)]
    exact ⟨1, rfl, Or.inl ⟨rfl, (fine_law hw hst).mp g⟩⟩
end WM
/-! ===== the class: the first chair that is wrong ===== -/
theorem firstWrong_loop {d : PD} (hw : PWf d) {σ : Nat → Nat} (hst : ST d σ) {wr : Int64} (hwr : ∀ c, c < pdn d → (f_X3_rowOf wr (nI (σ c)) = 0 ↔ fineC d σ c)) : ∀ (m k : Nat), k ≤ pdn d → pdn d - k < m → (∀ e, e < k → fineC d σ e) → (∃ c, c < pdn d ∧ lf_X4_firstWrong_28 (nI (pk σ)) wr (nI (pdn d)) m (nI k) = some (.inl (nI c)) ∧ ¬ fineC d σ c ∧ ∀ e, e < c → fineC d σ e) ∨ (lf_X4_firstWrong_28 (nI (pk σ)) wr (nI (pdn d)) m (nI k) = some (.inr ()) ∧ ∀ e, e < pdn d → fineC d σ e) := by
  have hn := hw.1
  intro m
  induction m with
  | zero => intro k h1 h2; omega
  | succ m ih =>
    intro k h1 h2 hf
    rw [lf_X4_firstWrong_28]
    by_cases hk : pdn d ≤ k
    · rw [qs_t (nI_le hk (by omega))]
      exact Or.inr ⟨rfl, fun e he => hf e (by omega)⟩
    · have hk' : k < pdn d := by omega
      rw [qs_f (nI_ge hk' (by omega)), qs_f (c := (7 : Int32) ≤ nI k) (nI_ge (b := 7) (by omega) (by omega)), qs_lt, qs_lt, on_pk (ST_lt8 hn hst) (by omega), nI_1]
      by_cases c1 : f_X3_rowOf wr (nI (σ k)) = 0
      · rw [qs_t c1]
        refine ih (k + 1) (by omega) (by omega) (fun e he => ?_)
        by_cases hek : e = k
        · subst hek; exact (hwr e hk').mp c1
        · exact hf e (by omega)
      · rw [qs_f c1]
        exact Or.inl ⟨k, hk', rfl, fun g => c1 ((hwr k hk').mpr g), hf⟩
theorem row0 {x : Int64} {f : Nat → Nat → Bool} (h : Mt x f) {p : Nat} (hp : p < 8) : f_X3_rowOf x (nI p) = 0 ↔ ∀ q, q < 8 → f p q = false := by
  constructor
  · intro e q hq
    have := Mt_row h hp (i := q) (by omega)
    rw [e, b_0] at this
    simpa [hq] using this.symm
  · intro g
    apply b_ext
    intro i hi
    rw [Mt_row h hp hi, b_0]
    by_cases h8 : i < 8
    · simp [h8, g i h8]
    · simp [h8]
theorem wrongX {d : PD} {σ : Nat → Nat} {tog bar : Int64} (hw : PWf d) (hst : ST d σ) (ht : Mt tog (pdg d)) (hb : Mt bar (pdb d)) : ∃ r, f_X4_firstWrong (nI (pk σ)) (b2i (pdr d)) (nI (pdn d)) tog bar = some r ∧ WrC d σ r := by
  have hn := hw.1
  obtain ⟨N, e1, hN⟩ := ngh_eq hn hst
  have hM := Mt_or (Mt_and hN hb) (Mt_and ht (Mt_not hN))
  unfold f_X4_firstWrong
  rw [e1, qs_bd, qs_u1, qs_lt]
  have hwr : ∀ c, c < pdn d → (f_X3_rowOf ((N &&& bar) ||| (tog &&& (N ^^^ (-1)))) (nI (σ c)) = 0 ↔ fineC d σ c) := by
    intro c hc
    have hsc := hst.2.1 c hc
    rw [row0 hM (by omega)]
    constructor
    · intro g
      refine ⟨fun e he h1 => ?_, fun q hq => ?_⟩
      · have ha : adj d σ (σ c) (σ e) = true := adj_iff.mpr ⟨c, e, hc, he, h1, rfl, rfl⟩
        have hse := hst.2.1 e he
        have := g (σ e) (by omega)
        rw [ha] at this
        cases hb2 : pdb d (σ c) (σ e) with
        | false => rfl
        | true => rw [hb2] at this; simp at this
      · have hlt := hw.2.2.2.1.1 _ _ hq
        have := g q (by omega)
        rw [hq] at this
        cases ha : adj d σ (σ c) q with
        | false => rw [ha] at this; simp at this
        | true =>
          obtain ⟨c', e, hc', he, h1, h2, h3⟩ := adj_iff.mp ha
          have := hst.2.2 c' c hc' hc h2
          subst this
          exact ⟨e, he, h1, h3⟩
    · intro g q hq
      have a1 : adj d σ (σ c) q = true → pdb d (σ c) q = false := by
        intro ha
        obtain ⟨c', e, hc', he, h1, h2, h3⟩ := adj_iff.mp ha
        have := hst.2.2 c' c hc' hc h2
        subst this
        rw [← h3]; exact g.1 e he h1
      have a2 : pdg d (σ c) q = true → adj d σ (σ c) q = true := by
        intro hq
        obtain ⟨e, he, h1, h2⟩ := g.2 q hq
        exact adj_iff.mpr ⟨c, e, hc, he, h1, rfl, h2⟩
      cases ha : adj d σ (σ c) q with
      | true => rw [a1 ha]; simp
      | false =>
        cases hg : pdg d (σ c) q with
        | false => simp
        | true => rw [a2 hg] at ha; exact absurd ha (by decide)
  rcases firstWrong_loop hw hst hwr pw_FU 0 (by omega) (by unfold pw_FU; omega) (fun e he => by omega) with ⟨c, hc, e, g1, g2⟩ | ⟨e, g⟩
  · have e' : lf_X4_firstWrong_28 (nI (pk σ)) ((N &&& bar) ||| (tog &&& (N ^^^ (-1)))) (nI (pdn d)) pw_FU 0 = some (.inl (nI c)) := e
    rw [e', qs_bl, qs_u1]
    exact ⟨nI c, rfl, Or.inl ⟨c, hc, rfl, g1, g2⟩⟩
  · have e' : lf_X4_firstWrong_28 (nI (pk σ)) ((N &&& bar) ||| (tog &&& (N ^^^ (-1)))) (nI (pdn d)) pw_FU 0 = some (.inr ()) := e
    rw [e', qs_br, qs_u1]
    exact ⟨-9, rfl, Or.inr ⟨rfl, g⟩⟩
theorem SMs_row {d : PD} {σ : Nat → Nat} {a : Nat → Int32} (h : SMs d σ a 0) : RowM d σ a := fun c hc => by have := h c hc; rw [Nat.zero_add] at this; exact this
theorem Sim_wrong_ok : Sim_wrong Inv := by
  intro s t hI
  obtain ⟨h1, h2, h3, h4, d, σ, f, hw, hx, hm, hst, hdn, hse, hdx, hsm, hrest⟩ := id hI
  obtain ⟨x1, x2, x3, x4, x5, x6, x7, x8, x9, x10⟩ := hx
  obtain ⟨m1, m2, m3, m4, m5, m6, m7, m8, m9⟩ := hm
  obtain ⟨r, er, hr⟩ := wrongX hw hst x8 x9
  obtain ⟨r', er', hr'⟩ := wrongM hw hst m3 m4 m5 m6 m7 m8 (SMs_row hsm)
  have e := WrC_eq hr' hr
  subst e
  refine ⟨r', ?_, ?_, hI⟩
  · unfold f_X10_wrong
    rw [hse, x1, x4, er]; rfl
  · unfold f_X11_wrong
    rw [m1, m2, er']; rfl
