/-! ===== who is barred ===== -/
def AK (i j p q : Nat) : Prop := (p < q ∧ (q < i ∨ (q = i ∧ p < j))) ∨ (q < p ∧ (p < i ∨ (p = i ∧ q < j)))
noncomputable def ak (d : PD) (i j p q : Nat) : Bool := @decide (AK i j p q) (Classical.propDecidable _) && (pdw d p == pdw d q)
theorem ak_iff {d : PD} {i j p q : Nat} : ak d i j p q = true ↔ AK i j p q ∧ pdw d p = pdw d q := by
  unfold ak
  rw [Bool.and_eq_true, beq_iff_eq]
  constructor
  · rintro ⟨h1, h2⟩; exact ⟨@of_decide_eq_true _ (Classical.propDecidable _) h1, h2⟩
  · rintro ⟨h1, h2⟩; exact ⟨@decide_eq_true _ (Classical.propDecidable _) h1, h2⟩
theorem alk21 {d : PD} (hn : pdn d ≤ 7) {wo : Int32} (hwo : ∀ i, i < 32 → bt wo i = (decide (i < pdn d) && pdw d i)) {i : Nat} (hi : i < pdn d) : ∀ (m j : Nat) (acc : Int64), j ≤ i → i - j < m → Mt acc (ak d i j) → ∃ r, lf_X4_alike_21 (nI i) wo m acc (nI j) = some r ∧ Mt r (ak d (i + 1) 0) := by
  intro m
  induction m with
  | zero => intro j acc h1 h2; omega
  | succ m ih =>
    intro j acc h1 h2 hM
    rw [lf_X4_alike_21]
    by_cases hj : i ≤ j
    · rw [qs_t (nI_le hj (by omega))]
      refine ⟨acc, rfl, Mt_cong hM (fun p q _ _ => ?_)⟩
      rw [Bool.eq_iff_iff, ak_iff, ak_iff]
      unfold AK
      constructor
      · rintro ⟨g1, g2⟩; exact ⟨by omega, g2⟩
      · rintro ⟨g1, g2⟩; exact ⟨by omega, g2⟩
    · have hj' : j < i := by omega
      rw [qs_f (nI_ge hj' (by omega)), qs_lt, qs_lt, woman_eq hn hwo hi, woman_eq hn hwo (show j < pdn d by omega), nI_1]
      by_cases hc : pdw d i = pdw d j
      · rw [qs_nf (by rw [hc]), qs_lt, qs_lt]
        refine ih (j + 1) _ (by omega) (by omega) (Mt_cong (Mt_or hM (Mt_both (show i < 8 by omega) (show j < 8 by omega))) (fun p q _ _ => ?_))
        rw [Bool.eq_iff_iff, Bool.or_eq_true, ak_iff, ak_iff]
        simp only [Bool.or_eq_true, Bool.and_eq_true, decide_eq_true_eq]
        unfold AK
        constructor
        · rintro (⟨g1, g2⟩ | ⟨rfl, rfl⟩ | ⟨rfl, rfl⟩)
          · exact ⟨by omega, g2⟩
          · exact ⟨by omega, hc⟩
          · exact ⟨by omega, hc.symm⟩
        · rintro ⟨g1, g2⟩
          by_cases q1 : p = i ∧ q = j
          · exact Or.inr (Or.inl q1)
          · by_cases q2 : p = j ∧ q = i
            · exact Or.inr (Or.inr q2)
            · exact Or.inl ⟨by omega, g2⟩
      · have hc' : ¬ b2i (pdw d i) = b2i (pdw d j) := fun g => hc (by
          cases h1 : pdw d i <;> cases h2 : pdw d j <;> rw [h1, h2] at g <;> first | rfl | exact absurd g (by decide))
        rw [qs_nt hc']
        refine ih (j + 1) _ (by omega) (by omega) (Mt_cong hM (fun p q _ _ => ?_))
        rw [Bool.eq_iff_iff, ak_iff, ak_iff]
        unfold AK
        constructor
        · rintro ⟨g1, g2⟩; exact ⟨by omega, g2⟩
        · rintro ⟨g1, g2⟩
          refine ⟨?_, g2⟩
          by_cases q1 : p = i ∧ q = j
          · rw [q1.1, q1.2] at g2; exact absurd g2 hc
          · by_cases q2 : p = j ∧ q = i
            · rw [q2.1, q2.2] at g2; exact absurd g2.symm hc
            · omega
theorem alk4 {d : PD} (hn : pdn d ≤ 7) {wo : Int32} (hwo : ∀ i, i < 32 → bt wo i = (decide (i < pdn d) && pdw d i)) : ∀ (m i : Nat) (acc : Int64), i ≤ pdn d → pdn d - i < m → Mt acc (ak d i 0) → ∃ r, lf_X4_alike_4 (nI (pdn d)) wo m acc (nI i) = some r ∧ Mt r (ak d (pdn d) 0) := by
  intro m
  induction m with
  | zero => intro i acc h1 h2; omega
  | succ m ih =>
    intro i acc h1 h2 hM
    rw [lf_X4_alike_4]
    by_cases hi : pdn d ≤ i
    · have : i = pdn d := by omega
      subst this
      rw [qs_t (nI_le hi (by omega))]
      exact ⟨acc, rfl, hM⟩
    · obtain ⟨r, e, hr⟩ := alk21 hn hwo (show i < pdn d by omega) pw_FU 0 acc (by omega) (by unfold pw_FU; omega) hM
      have e' : lf_X4_alike_21 (nI i) wo pw_FU acc 0 = some r := e
      rw [qs_f (nI_ge (show i < pdn d by omega) (by omega)), qs_f (c := (7 : Int32) ≤ nI i) (nI_ge (b := 7) (by omega) (by omega)), e', qs_bd, qs_u1, nI_1]
      exact ih (i + 1) r (by omega) (by omega) hr
theorem settleX {d : PD} (hw : PWf d) {wo : Int32} {co qu to : Int64} {wv : Nat → Int32} (h : DX0 d (nI (pdn d)) wo co qu to wv) : ∃ ba, f_X4_settleWhoIsBarred (b2i (pdt d)) (b2i (pda d)) (nI (pdn d)) wo co qu = some ba ∧ Mt ba (pdb d) := by
  have hn := hw.1
  obtain ⟨a1, a2, a3, a4, a5, a6⟩ := h
  obtain ⟨r, e, hr⟩ := alk4 hn a2 pw_FU 0 0 (by omega) (by unfold pw_FU; omega) (fun p q _ _ => by
    rw [l_0, eq_comm, Bool.eq_false_iff, ne_eq, ak_iff]
    unfold AK
    rintro ⟨g, _⟩
    omega)
  have e' : f_X4_alike (nI (pdn d)) wo = some r := by
    have e2 : lf_X4_alike_4 (nI (pdn d)) wo pw_FU 0 0 = some r := e
    unfold f_X4_alike
    rw [e2, qs_bd, qs_u1]
  have hj : ∃ x, (if pda d = true then qu ||| co else qu) = x ∧ Mt x (fun p q => pdq d p q || (pda d && pdc d p q)) := ⟨_, rfl, by
    cases pda d
    · rw [if_neg (by decide)]; exact Mt_cong a4 (fun p q _ _ => by simp)
    · rw [if_pos rfl]; exact Mt_cong (Mt_or a4 a3) (fun p q _ _ => by simp)⟩
  obtain ⟨x, ex, hx⟩ := hj
  have hfin : ∃ y, (if pdt d = true then x ||| r else x) = y ∧ Mt y (pdb d) := ⟨_, rfl, by
    have hb : ∀ p q, pdb d p q = true ↔ (p < pdn d ∧ q < pdn d ∧ p ≠ q ∧ (pdq d p q = true ∨ (pda d = true ∧ pdc d p q = true) ∨ (pdt d = true ∧ pdw d p = pdw d q))) := fun p q => by
      unfold pdb
      simp only [Bool.and_eq_true, Bool.or_eq_true, decide_eq_true_eq, beq_iff_eq]
      constructor
      · rintro ⟨⟨⟨g1, g2⟩, g3⟩, (g4 | g4) | g4⟩
        · exact ⟨g1, g2, g3, Or.inl g4⟩
        · exact ⟨g1, g2, g3, Or.inr (Or.inl g4)⟩
        · exact ⟨g1, g2, g3, Or.inr (Or.inr g4)⟩
      · rintro ⟨g1, g2, g3, g4 | g4 | g4⟩
        · exact ⟨⟨⟨g1, g2⟩, g3⟩, Or.inl (Or.inl g4)⟩
        · exact ⟨⟨⟨g1, g2⟩, g3⟩, Or.inl (Or.inr g4)⟩
        · exact ⟨⟨⟨g1, g2⟩, g3⟩, Or.inr g4⟩
    obtain ⟨w1, w2, w3, w4, w5, w6, w7⟩ := hw
    cases ht : pdt d
    · rw [if_neg (by decide)]
      refine Mt_cong hx (fun p q _ _ => ?_)
      rw [Bool.eq_iff_iff, hb, ht]
      simp only [Bool.or_eq_true, Bool.and_eq_true]
      constructor
      · rintro (g | g)
        · have := w3.1 p q g; exact ⟨this.1, this.2.1, this.2.2, Or.inl g⟩
        · have := w2.1 p q g.2; exact ⟨this.1, this.2.1, this.2.2, Or.inr (Or.inl g)⟩
      · rintro ⟨_, _, _, g | g | g⟩
        · exact Or.inl g
        · exact Or.inr g
        · exact absurd g.1 (by decide)
    · rw [if_pos rfl]
      refine Mt_cong (Mt_or hx hr) (fun p q _ _ => ?_)
      rw [Bool.eq_iff_iff, hb, ht, Bool.or_eq_true, ak_iff]
      simp only [Bool.or_eq_true, Bool.and_eq_true]
      unfold AK
      constructor
      · rintro ((g | g) | ⟨g1, g2⟩)
        · have := w3.1 p q g; exact ⟨this.1, this.2.1, this.2.2, Or.inl g⟩
        · have := w2.1 p q g.2; exact ⟨this.1, this.2.1, this.2.2, Or.inr (Or.inl g)⟩
        · exact ⟨by omega, by omega, by omega, Or.inr (Or.inr ⟨trivial, g2⟩)⟩
      · rintro ⟨g1, g2, g3, g | g | g⟩
        · exact Or.inl (Or.inl g)
        · exact Or.inl (Or.inr g)
        · exact Or.inr ⟨by omega, g.2⟩⟩
  obtain ⟨y, ey, hy⟩ := hfin
  refine ⟨y, ?_, hy⟩
  unfold f_X4_settleWhoIsBarred
  rw [qs_jn]
  simp only [qs_lt, e', qs_bd, qs_u1]
  cases ha : pda d
  · rw [ha, if_neg (by decide)] at ex
    rw [qs_t (c := b2i false = 0) rfl, ex]
    cases ht : pdt d
    · rw [ht, if_neg (by decide)] at ey; rw [qs_t (c := b2i false = 0) rfl, ey]
    · rw [ht, if_pos rfl] at ey; rw [qs_f (c := b2i true = 0) (by decide), ey]
  · rw [ha, if_pos rfl] at ex
    rw [qs_f (c := b2i true = 0) (by decide), ex]
    cases ht : pdt d
    · rw [ht, if_neg (by decide)] at ey; rw [qs_t (c := b2i false = 0) rfl, ey]
    · rw [ht, if_pos rfl] at ey; rw [qs_f (c := b2i true = 0) (by decide), ey]
/-! ===== all parts ===== -/
theorem prsL {L : Nat} (hL : L ≤ 64) {sg tx : Nat → Int32} (hT : TX L sg tx) (ro tu ap : Int32) : ∀ (n k : Nat), L - k < n → k ≤ L → ∀ (d : PD) (ki fi se wo : Int32) (co qu to : Int64) (wv woman mate quarrel joined worth : Nat → Int32), PWf d → DX0 d (nI (pdn d)) wo co qu to wv → DM0 d (nI (pdn d)) woman mate quarrel joined worth → ∀ m mm, L - k + 5 < m → L - k + 1 < mm →
    (∃ d' ki' fi' se' wo' co' qu' to' wv' woman' mate' quarrel' joined' worth', PWf d' ∧ pdr d' = pdr d ∧ pdt d' = pdt d ∧ pda d' = pda d ∧ DX0 d' (nI (pdn d')) wo' co' qu' to' wv' ∧ DM0 d' (nI (pdn d')) woman' mate' quarrel' joined' worth' ∧ lf_X5_faultOf_11 (nI L) sg m (nI k) 4 ki fi se ro tu ap (nI (pdn d)) wo co qu to wv = some (.inr (4, ki', fi', se', ro, tu, ap, nI (pdn d'), wo', co', qu', to', wv')) ∧ lf_X11_readText_89 (nI L) tx mm (nI (pdn d)) (nI k) (-9) woman mate quarrel joined worth = some (nI (pdn d'), nI L, -9, woman', mate', quarrel', joined', worth')) ∨
    (∃ p q1 q2 q3 q4 q5 q6 q7, p ≤ L ∧ RC L (lf_X5_faultOf_11 (nI L) sg m (nI k) 4 ki fi se ro tu ap (nI (pdn d)) wo co qu to wv) p ∧ lf_X11_readText_89 (nI L) tx mm (nI (pdn d)) (nI k) (-9) woman mate quarrel joined worth = some (q1, q2, nI p, q3, q4, q5, q6, q7)) := by
  intro n
  induction n with
  | zero => intro k h1 h2; omega
  | succ n ih =>
    intro k h1 h2 d ki fi se wo co qu to wv woman mate quarrel joined worth hw hx hm m mm hm1 hm2
    by_cases hk : L ≤ k
    · have : k = L := by omega
      subst this
      obtain ⟨m', rfl⟩ : ∃ m', m = m' + 1 := ⟨m - 1, by omega⟩
      obtain ⟨mm', rfl⟩ : ∃ m', mm = m' + 1 := ⟨mm - 1, by omega⟩
      refine Or.inl ⟨d, ki, fi, se, wo, co, qu, to, wv, woman, mate, quarrel, joined, worth, hw, rfl, rfl, rfl, hx, hm, clE hL m' _ _ _ _ _ _ _ _ _ _ _ _ _, ?_⟩
      rw [lf_X11_readText_89, qs_nf rfl, qs_t (nI_le (Nat.le_refl k) (by omega))]
    · have hk' : k < L := by omega
      obtain ⟨mm', rfl⟩ : ∃ m', mm = m' + 1 := ⟨mm - 1, by omega⟩
      have hstep : ∀ o, f_X11_readPart (tx k) (nI (pdn d)) (nI L) (nI k) (-9) woman mate quarrel joined worth tx = o → lf_X11_readText_89 (nI L) tx (mm' + 1) (nI (pdn d)) (nI k) (-9) woman mate quarrel joined worth = pw_bd o (pw_u8 fun o35 o36 o37 o38 o39 o40 o41 o42 => lf_X11_readText_89 (nI L) tx mm' o35 o36 o37 o38 o39 o40 o41 o42) := fun o ho => by
        rw [lf_X11_readText_89, qs_nf rfl, qs_f (nI_ge hk' (by omega))]
        simp (disch := omega) only [qs_cl, qg_in2, ho]
      rcases partSim hw hL hT hk' hx hm ki fi se ro tu ap with ⟨d', s, ki', fi', se', wo', co', qu', to', wv', woman', mate', quarrel', joined', worth', s1, s2, w', e1, e2, e3, x', m', hrp, hcl⟩ | ⟨p, q1, q2, q3, q4, q5, q6, q7, p1, hrp, hcl⟩
      · obtain ⟨m2, rfl⟩ : ∃ m2, m = m2 + s := ⟨m - s, by omega⟩
        rw [hstep _ hrp, qs_bd, qs_u8, hcl m2]
        have := ih (k + s) (by omega) s2 d' ki' fi' se' wo' co' qu' to' wv' woman' mate' quarrel' joined' worth' w' x' m' m2 mm' (by omega) (by omega)
        rw [e1, e2, e3] at this
        exact this
      · obtain ⟨m2, rfl⟩ : ∃ m2, m = m2 + 5 := ⟨m - 5, by omega⟩
        obtain ⟨mm2, rfl⟩ : ∃ m', mm' = m' + 1 := ⟨mm' - 1, by omega⟩
        refine Or.inr ⟨p, q1, q2, q3, q4, q5, q6, q7, p1, hcl m2, ?_⟩
        rw [hstep _ hrp, qs_bd, qs_u8, lf_X11_readText_89, qs_nt (nI_n9 (by omega))]
