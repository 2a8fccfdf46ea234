/-! ===== how many are lawful ===== -/
theorem fl_s {d : PD} {pre : List (Nat → Nat)} {τ : Nat → Nat} : ((pre ++ [τ]).filter (lawB d)).length = (pre.filter (lawB d)).length + (if lawB d τ = true then 1 else 0) := by
  rw [List.filter_append, List.length_append]
  by_cases h : lawB d τ = true
  · rw [if_pos h, List.filter_cons_of_pos h]; rfl
  · rw [if_neg h, List.filter_cons_of_neg h]; rfl
theorem IsB_n {d : PD} {τ : Nat → Nat} {r : Int32} (h : IsB r (lawS d τ)) (a : Nat) : nI a + pw_cd (r = 0) 0 1 = nI (a + (if lawB d τ = true then 1 else 0)) := by
  rcases h with ⟨rfl, hl⟩ | ⟨rfl, hl⟩
  · rw [qs_f (c := (1 : Int32) = 0) (by decide), if_pos (lawB_iff.mpr hl), nI_1]
  · rw [qs_t (c := (0 : Int32) = 0) rfl, if_neg (fun g => hl (lawB_iff.mp g))]; show nI a + nI 0 = _; rw [nI_add]
section
theorem lawAt {d : PD} (hw : PWf d) {pe ro tu ap : Int32} {woman mate quarrel joined worths : Nat → Int32} (hm : PM d pe ro tu ap woman mate quarrel joined worths) {pre suf : List (Nat → Nat)} {τ : Nat → Nat} (hA : allS d = pre ++ τ :: suf) {perm : Nat → Int32} (hrow : RowM d τ perm) : ∃ r, f_X11_isLawful (nI (pdn d)) ro tu ap woman mate quarrel joined perm = some r ∧ IsB r (lawS d τ) := by
  have hst : ST d τ := all_mem.mp (by rw [hA]; simp)
  obtain ⟨r, e, h⟩ := lawM1 hw hst hm hrow
  have em : pe = nI (pdn d) := hm.1
  rw [em] at e
  exact ⟨r, e, h⟩
theorem many_loop {d : PD} (hw : PWf d) {pe ro tu ap : Int32} {woman mate quarrel joined worths : Nat → Int32} (hm : PM d pe ro tu ap woman mate quarrel joined worths) : ∀ (suf pre : List (Nat → Nat)) (τ : Nat → Nat) (m : Nat) (perm : Nat → Int32), allS d = pre ++ τ :: suf → RowM d τ perm → suf.length + 1 < m → ∃ perm', lf_X11_lawful_8 (nI (pdn d)) ro tu ap woman mate quarrel joined m (nI (pre.filter (lawB d)).length) 1 perm = some (nI (lawL d).length, perm') := by
  intro suf
  induction suf with
  | nil =>
    intro pre τ m perm hA hrow hm2
    obtain ⟨m, rfl⟩ : ∃ k, m = k + 2 := ⟨m - 2, by simp only [List.length_nil] at hm2; omega⟩
    obtain ⟨r, er, hr⟩ := lawAt hw hm hA hrow
    rw [lf_X11_lawful_8, qs_f (c := (1 : Int32) = 0) (by decide), er, qs_bd, qs_u1, qs_lt, qs_lt, IsB_n hr]
    rcases goOn_list hw.1 hA hrow with ⟨e, _⟩ | ⟨p', τ', s', _, _, h⟩
    · rw [e, qs_bd, qs_u2, lf_X11_lawful_8, qs_t (c := (0 : Int32) = 0) rfl, ← fl_s]
      unfold lawL; rw [hA]
      exact ⟨_, rfl⟩
    · exact absurd h (by simp)
  | cons τ1 suf ih =>
    intro pre τ m perm hA hrow hm2
    obtain ⟨m, rfl⟩ : ∃ k, m = k + 1 := ⟨m - 1, by omega⟩
    obtain ⟨r, er, hr⟩ := lawAt hw hm hA hrow
    rw [lf_X11_lawful_8, qs_f (c := (1 : Int32) = 0) (by decide), er, qs_bd, qs_u1, qs_lt, qs_lt, IsB_n hr]
    rcases goOn_list hw.1 hA hrow with ⟨_, h⟩ | ⟨p', τ', s', e, hr', h⟩
    · exact absurd h (by simp)
    · obtain ⟨rfl, rfl⟩ := List.cons.inj h
      rw [e, qs_bd, qs_u2, ← fl_s]
      exact ih (pre ++ [τ]) τ1 m p' (by rw [hA]; simp) hr' (by simp only [List.length_cons] at hm2; omega)
theorem lawfulM {d : PD} (hw : PWf d) {pe ro tu ap : Int32} {woman mate quarrel joined worths : Nat → Int32} (hm : PM d pe ro tu ap woman mate quarrel joined worths) (perm : Nat → Int32) : ∃ perm', f_X11_lawful (nI (pdn d)) ro tu ap woman mate quarrel joined perm = some (nI (lawL d).length, perm') := by
  unfold f_X11_lawful
  obtain ⟨p, τ, suf, e, h1, h2⟩ := begin_list hw.1 perm
  have hl := all_len hw.1
  obtain ⟨p2, e2⟩ := many_loop hw hm suf [] τ pw_FU p h2 h1 (by rw [h2] at hl; simp only [List.length_cons] at hl; unfold pw_FU; omega)
  have e2' : lf_X11_lawful_8 (nI (pdn d)) ro tu ap woman mate quarrel joined pw_FU 0 1 p = some (nI (lawL d).length, p2) := e2
  rw [e, qs_bd, qs_u1, e2', qs_bd, qs_u2]
  exact ⟨p2, rfl⟩
end
theorem Sim_many_ok : Sim_many Inv := by
  intro s t hI x1 hx01
  obtain ⟨h1, h2, h3, h4, d, σ, f, hw, hx, hm, hst, hdn, hse, hdx, hsm, hdm, hac, hs0, hs1, hla⟩ := id hI
  have hn := hw.1
  have er : sx_guests_round s = b2i (pdr d) := hx.1
  have ep : sx_guests_people s = nI (pdn d) := hx.2.2.2.1
  have em : sm_people t = nI (pdn d) := hm.1
  have em2 : sm_isRound t = b2i (pdr d) := hm.2.1
  obtain ⟨v', N', eL, hL⟩ := listX hw hx hla
  obtain ⟨p', eM⟩ := lawfulM hw hm (sm_perm_v t)
  have hI' : Inv (px_many s 1 (nI (lawL d).length) v' N') (pm_many t p') := ⟨h1, h2, h3, h4, d, σ, f, hw, hx, hm, hst, hdn, hse, hdx, hsm, hdm, hac, hs0, hs1, LW_RLaw hL⟩
  unfold f_X10_many f_X11_many
  rw [er, ep] at eL
  rw [em2] at eM
  rw [er, ep, em, em2, eL, qs_bd, qs_u4, eM, qs_bd, qs_u2, qs_jn]
  by_cases hx0 : x1 = 0
  · rw [qs_t hx0, qs_t hx0]; exact ⟨_, _, _, _, _, _, rfl, rfl, hI'⟩
  · rw [qs_f hx0, qs_f hx0]
    by_cases hr : b2i (pdr d) = 0
    · rw [qs_t hr, qs_t hr]; exact ⟨_, _, _, _, _, _, rfl, rfl, hI'⟩
    · rw [qs_f hr, qs_f hr]
      by_cases hp : nI (pdn d) ≤ 0
      · rw [qs_t hp, qs_t hp]; exact ⟨_, _, _, _, _, _, rfl, rfl, hI'⟩
      · have hne : ¬ nI (pdn d) = 0 := fun g => hp (by rw [g]; decide)
        rw [qs_f hp, qs_f hp, qs_g hne, qs_g hne]; exact ⟨_, _, _, _, _, _, rfl, rfl, hI'⟩
theorem gcd_step {a b : Nat} : Nat.gcd a b = Nat.gcd b (a % b) := by
  rw [Nat.gcd_comm a b, Nat.gcd_rec b a, Nat.gcd_comm]
theorem gcd_loop : ∀ (j t m m2 a b : Nat), b < 2 ^ j → a < 2 ^ 20 → b < 2 ^ 20 → t + 2 * j ≤ 64 → 2 * j < m → 2 * j < m2 → lf_X10_commonDivisor_7 m (nI a) (nI b) (nI t) = some (nI (Nat.gcd a b)) ∧ lf_X11_common_4 m2 (nI a) (nI b) = some (nI (Nat.gcd a b)) := by
  intro j
  induction j with
  | zero =>
    intro t m m2 a b hb ha hb2 ht h1 h2
    have : b = 0 := by simpa using hb
    subst this
    obtain ⟨m, rfl⟩ : ∃ k, m = k + 1 := ⟨m - 1, by omega⟩
    obtain ⟨m2, rfl⟩ : ∃ k, m2 = k + 1 := ⟨m2 - 1, by omega⟩
    rw [lf_X10_commonDivisor_7, lf_X11_common_4, qs_t (c := nI 0 = 0) rfl, qs_t (c := nI 0 ≤ 0) (by decide), Nat.gcd_zero_right]
    refine ⟨?_, rfl⟩
    unfold pw_cd; split <;> rfl
  | succ j ih =>
    intro t m m2 a b hb ha hb2 ht h1 h2
    obtain ⟨m, rfl⟩ : ∃ k, m = k + 2 := ⟨m - 2, by omega⟩
    obtain ⟨m2, rfl⟩ : ∃ k, m2 = k + 2 := ⟨m2 - 2, by omega⟩
    rw [lf_X10_commonDivisor_7, lf_X11_common_4, qs_f (c := (64 : Int32) ≤ nI t) (nI_ge (b := 64) (by omega) (by omega))]
    by_cases hb0 : b = 0
    · subst hb0
      rw [qs_t (c := nI 0 = 0) rfl, qs_t (c := nI 0 ≤ 0) (by decide), Nat.gcd_zero_right]
      exact ⟨rfl, rfl⟩
    · have hbp : 0 < b := by omega
      have hne : ¬ nI b = 0 := nI_ne0 hbp (by omega)
      have hml := Nat.mod_lt a hbp
      rw [qs_f (nI_nle hbp (by omega)), qs_f hne, qs_g hne, qs_g hne, pk_rem (by omega) hbp (by omega), qs_lt, qs_lt, nI_1]
      rw [lf_X10_commonDivisor_7, lf_X11_common_4, qs_f (c := (64 : Int32) ≤ nI (t + 1)) (nI_ge (b := 64) (by omega) (by omega))]
      by_cases hr0 : a % b = 0
      · rw [hr0, qs_t (c := nI 0 = 0) rfl, qs_t (c := nI 0 ≤ 0) (by decide), gcd_step (a := a), hr0, Nat.gcd_zero_right]
        exact ⟨rfl, rfl⟩
      · have hrp : 0 < a % b := by omega
        have hne2 : ¬ nI (a % b) = 0 := nI_ne0 hrp (by omega)
        have hml2 := Nat.mod_lt b hrp
        have hle : b % (a % b) + (a % b) ≤ b := by
          have e := Nat.div_add_mod b (a % b)
          have : 1 ≤ b / (a % b) := (Nat.one_le_div_iff hrp).mpr (by omega)
          have : a % b * 1 ≤ a % b * (b / (a % b)) := Nat.mul_le_mul_left _ this
          omega
        rw [qs_f (nI_nle hrp (by omega)), qs_f hne2, qs_g hne2, qs_g hne2, pk_rem (by omega) hrp (by omega), qs_lt, qs_lt, nI_1]
        rw [gcd_step (a := a), gcd_step (a := b)]
        have e2 : 2 ^ (j + 1) = 2 * 2 ^ j := by rw [Nat.pow_succ]; omega
        exact ih (t + 1 + 1) m m2 (a % b) (b % (a % b)) (by omega) (by omega) (by omega) (by omega) (by omega) (by omega)
theorem fac_m : ∀ n, n ≤ 7 → f_X11_factorial (nI n) = some (nI (fct n)) := by decide +kernel
theorem Sim_luck_ok : Sim_luck Inv := by
  intro s t hI x1 hx01
  obtain ⟨h1, h2, h3, h4, d, σ, f, hw, hx, hm, hst, hdn, hse, hdx, hsm, hdm, hac, hs0, hs1, hla⟩ := id hI
  have hn := hw.1
  have ep : sx_guests_people s = nI (pdn d) := hx.2.2.2.1
  have em : sm_people t = nI (pdn d) := hm.1
  obtain ⟨v', N', eL, hL⟩ := listX hw hx hla
  obtain ⟨p', eM⟩ := lawfulM hw hm (sm_perm_v t)
  have hlen := lawL_len hn
  have hf := fct_le _ hn
  have hf1 := fct_pos (pdn d)
  have hI' : Inv (px_luck s 1 (nI (lawL d).length) v' N') (pm_luck t p') := ⟨h1, h2, h3, h4, d, σ, f, hw, hx, hm, hst, hdn, hse, hdx, hsm, hdm, hac, hs0, hs1, LW_RLaw hL⟩
  unfold f_X10_luck f_X11_luck f_X10_commonDivisor f_X11_common
  rw [ep] at eL
  rw [ep, em, eL, qs_bd, qs_u4, eM, qs_bd, qs_u2, many_eq hn, qs_bd, qs_u1, fac_m _ hn, qs_bd, qs_u1]
  obtain ⟨g1, g2⟩ := gcd_loop 13 0 pw_FU pw_FU (lawL d).length (fct (pdn d)) (by omega) (by omega) (by omega) (by omega) (by unfold pw_FU; omega) (by unfold pw_FU; omega)
  have g1' : lf_X10_commonDivisor_7 pw_FU (nI (lawL d).length) (nI (fct (pdn d))) 0 = some (nI (Nat.gcd (lawL d).length (fct (pdn d)))) := g1
  have hgp : 0 < Nat.gcd (lawL d).length (fct (pdn d)) := Nat.gcd_pos_of_pos_right _ hf1
  have hgl : Nat.gcd (lawL d).length (fct (pdn d)) ≤ fct (pdn d) := Nat.gcd_le_right _ hf1
  have hne : ¬ nI (Nat.gcd (lawL d).length (fct (pdn d))) = 0 := nI_ne0 hgp (by omega)
  simp only [g1', g2, qs_bd, qs_u1]
  rw [qs_t (c := (1 : Int32) ≤ nI (Nat.gcd (lawL d).length (fct (pdn d)))) (nI_le (a := 1) hgp (by omega)), qs_g hne, qs_g hne, qs_g hne, qs_g hne]
  by_cases hx0 : x1 = 0
  · rw [qs_t hx0, qs_t hx0]; exact ⟨_, _, _, _, _, _, rfl, rfl, hI'⟩
  · rw [qs_f hx0, qs_f hx0]; exact ⟨_, _, _, _, _, _, rfl, rfl, hI'⟩
