/-! ===== how many men ===== -/
def cnt (p : Nat → Bool) : Nat → Nat
  | 0 => 0
  | n + 1 => cnt p n + (if p n = true then 1 else 0)
theorem cnt_le (p : Nat → Bool) : ∀ n, cnt p n ≤ n := by
  intro n
  induction n with
  | zero => exact Nat.le_refl _
  | succ n ih => rw [cnt]; split <;> omega
theorem cnt_cong {p q : Nat → Bool} : ∀ {n : Nat}, (∀ k, k < n → p k = q k) → cnt p n = cnt q n := by
  intro n
  induction n with
  | zero => intro _; rfl
  | succ n ih => intro h; rw [cnt, cnt, ih (fun k hk => h k (by omega)), h n (by omega)]
theorem cnt_off {p : Nat → Bool} {n : Nat} : ∀ {m : Nat}, (∀ k, n ≤ k → k < n + m → p k = false) → cnt p (n + m) = cnt p n := by
  intro m
  induction m with
  | zero => intro _; rfl
  | succ m ih =>
    intro h
    rw [← Nat.add_assoc, cnt, ih (fun k a b => h k a (by omega)), h (n + m) (by omega) (by omega)]
    simp
theorem bc7 : ∀ w, w < 128 → f_J6_bitCount_0f7a4 (nI w) = nI (cnt (fun i => w.testBit i) 7) := by decide +kernel
theorem nI_bv (x : Int32) : x = nI x.toBitVec.toNat := by
  apply Int32.toBitVec_inj.1
  show x.toBitVec = BitVec.ofNat 32 x.toBitVec.toNat
  simp
theorem menX {d : PD} (hn : pdn d ≤ 7) {wo : Int32} (h : ∀ i, i < 32 → bt wo i = (decide (i < pdn d) && pdw d i)) : f_X4_men (nI (pdn d)) wo = nI (pdn d - cnt (pdw d) (pdn d)) := by
  have hw : wo = nI wo.toBitVec.toNat := nI_bv wo
  have hb : ∀ i, wo.toBitVec.toNat.testBit i = (decide (i < pdn d) && pdw d i) := by
    intro i
    rcases Nat.lt_or_ge i 32 with hi | hi
    · rw [← h i hi]; rfl
    · have : wo.toBitVec.toNat.testBit i = false := Nat.testBit_lt_two_pow (Nat.lt_of_lt_of_le wo.toBitVec.isLt (Nat.pow_le_pow_right (by omega) hi))
      rw [this]
      have : ¬ i < pdn d := by omega
      simp [this]
  have hlt : wo.toBitVec.toNat < 128 := by
    apply Nat.lt_pow_two_of_testBit (n := 7)
    intro i hi
    rw [hb i]
    have : ¬ i < pdn d := by omega
    simp [this]
  have ec : cnt (fun i => wo.toBitVec.toNat.testBit i) 7 = cnt (pdw d) (pdn d) := by
    obtain ⟨m, hm⟩ : ∃ m, 7 = pdn d + m := ⟨7 - pdn d, by omega⟩
    rw [hm, cnt_off (fun k a b => by rw [hb]; have : ¬ k < pdn d := by omega
                                     simp [this])]
    exact cnt_cong (fun k hk => by rw [hb]; simp [hk])
  unfold f_X4_men
  rw [qs_lt, hw, bc7 _ hlt, ec, pk_sub (cnt_le _ _)]
theorem menM_loop {d : PD} (hn : pdn d ≤ 7) {woman : Nat → Int32} (h : ∀ p, p < pdn d → woman p = b2i (pdw d p)) : ∀ (m k : Nat), k ≤ pdn d → pdn d - k < m → lf_X11_men_4 (nI (pdn d)) woman m (nI (k - cnt (pdw d) k)) (nI k) = some (nI (pdn d - cnt (pdw d) (pdn d))) := by
  intro m
  induction m with
  | zero => intro k h1 h2; omega
  | succ m ih =>
    intro k h1 h2
    rw [lf_X11_men_4]
    by_cases hk : pdn d ≤ k
    · have ek : k = pdn d := by omega
      rw [qs_t (nI_le hk (by omega)), ek]
    · have hk' : k < pdn d := by omega
      have hc := cnt_le (pdw d) k
      rw [qs_f (nI_ge hk' (by omega)), qs_g (qs_in (by omega) (by omega)), qs_cl (by omega), h k hk', qs_lt, qs_lt, nI_1, nI_1]
      have i1 := ih (k + 1) (by omega) (by omega)
      cases hp : pdw d k
      · rw [qs_t (c := b2i false = 0) rfl]
        rw [cnt, hp] at i1
        have e : k + 1 - (cnt (pdw d) k + (if false = true then 1 else 0)) = k - cnt (pdw d) k + 1 := by simp; omega
        rw [e] at i1; exact i1
      · rw [qs_f (c := b2i true = 0) (by decide)]
        rw [cnt, hp] at i1
        have e : k + 1 - (cnt (pdw d) k + (if true = true then 1 else 0)) = k - cnt (pdw d) k := by simp
        rw [e] at i1
        have e0 : nI (k - cnt (pdw d) k) + 0 = nI (k - cnt (pdw d) k) := by show nI _ + nI 0 = _; rw [nI_add, Nat.add_zero]
        rw [e0]; exact i1
theorem menM {d : PD} (hn : pdn d ≤ 7) {woman : Nat → Int32} (h : ∀ p, p < pdn d → woman p = b2i (pdw d p)) : f_X11_men (nI (pdn d)) woman = some (nI (pdn d - cnt (pdw d) (pdn d))) := by
  unfold f_X11_men
  have e : lf_X11_men_4 (nI (pdn d)) woman pw_FU 0 0 = some (nI (pdn d - cnt (pdw d) (pdn d))) := menM_loop hn h pw_FU 0 (by omega) (by unfold pw_FU; omega)
  rw [e, qs_bd, qs_u1]
theorem b2i_cd (b : Bool) {α : Type} (x y : α) : pw_cd (b2i b = 0) x y = if b = true then y else x := by
  cases b
  · rw [qs_t (c := b2i false = 0) rfl]; rfl
  · rw [qs_f (c := b2i true = 0) (by decide)]; rfl
theorem cd_some {α : Type} {c : Prop} [Decidable c] {a b : Option α} (h1 : ∃ r, a = some r) (h2 : ∃ r, b = some r) : ∃ r, pw_cd c a b = some r := by
  by_cases h : c
  · rw [qs_t h]; exact h1
  · rw [qs_f h]; exact h2
theorem two_some {α : Type} {A : Option α} {P : Prop} (h : ∃ r, A = some r) (p : P) : ∃ r, A = some r ∧ A = some r ∧ P := by
  obtain ⟨r, e⟩ := h
  exact ⟨r, e, e, p⟩
theorem Sim_count_ok : Sim_count Inv := by
  intro s t hI x1
  obtain ⟨h1, h2, h3, h4, d, σ, f, hw, hx, hm, hst, hdn, hse, hdx, hsm, hdm, hac, hs0, hs1, hla⟩ := id hI
  have hn := hw.1
  obtain ⟨r, er, hr⟩ := lawX1 hw hst hx
  obtain ⟨r', er', hr'⟩ := lawM1 hw hst hm (SMs_row hsm)
  have e := IsB_eq hr' hr
  subst e
  have hx' := hx
  have hm' := hm
  obtain ⟨x1', x2, x3, x4, x5, x6, x7, x8, x9, x10⟩ := hx
  obtain ⟨m1, m2, m3, m4, m5, m6, m7, m8, m9⟩ := hm
  obtain ⟨k, k1, k2, k3, k4⟩ := id h2
  obtain ⟨g, g1, g2, g3, g4⟩ := id h3
  obtain ⟨a, ax, σs, ds, fl, a1, a2, a3, a4, _⟩ := id hac
  unfold f_X10_count f_X11_count
  rw [hse, er, er', qs_bd, qs_bd, qs_u1, qs_u1, IsB_cd hr' (fun z => some z), x1', x2, x3, x4, m1, m2, m3, m4, k2, k3, g2, g3, a3, a4, menM hn m5, menX hn x5, qs_bd, qs_u1, qs_lt]
  refine two_some ?_ hI
  repeat' (first | exact ⟨_, rfl⟩ | refine cd_some ?_ ?_)
