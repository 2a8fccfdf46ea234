/-! ===== men move on ===== -/
theorem cnt_sm (p : Nat → Bool) : ∀ n, cnt p n = sm (fun k => if p k = true then 1 else 0) n := by
  intro n
  induction n with
  | zero => rfl
  | succ n ih => show cnt p n + _ = sm _ n + _; rw [ih]
theorem cnt_mono (p : Nat → Bool) : ∀ {m n : Nat}, m ≤ n → cnt p m ≤ cnt p n := by
  intro m n
  induction n with
  | zero => intro h; have : m = 0 := by omega
            subst this; exact Nat.le_refl _
  | succ n ih =>
    intro h
    by_cases hm : m = n + 1
    · subst hm; exact Nat.le_refl _
    · exact Nat.le_trans (ih (by omega)) (Nat.le_add_right _ _)
theorem cnt_str {p : Nat → Bool} {c e : Nat} (h : p c = true) (hce : c < e) : cnt p c < cnt p e := by
  have h1 : cnt p (c + 1) = cnt p c + 1 := by show cnt p c + _ = _; rw [if_pos h]
  have h2 := cnt_mono p (show c + 1 ≤ e by omega)
  omega
theorem cnt_ex {p : Nat → Bool} : ∀ {n j : Nat}, j < cnt p n → ∃ c, c < n ∧ p c = true ∧ cnt p c = j := by
  intro n
  induction n with
  | zero => intro j h; exact absurd h (Nat.not_lt_zero _)
  | succ n ih =>
    intro j h
    have e : cnt p (n + 1) = cnt p n + (if p n = true then 1 else 0) := rfl
    by_cases hj : j < cnt p n
    · obtain ⟨c, h1, h2, h3⟩ := ih hj; exact ⟨c, by omega, h2, h3⟩
    · by_cases hp : p n = true
      · rw [if_pos hp] at e; exact ⟨n, by omega, hp, by omega⟩
      · rw [if_neg hp] at e; omega
theorem cnt_neg (p : Nat → Bool) : ∀ n, cnt (fun k => !p k) n + cnt p n = n := by
  intro n
  induction n with
  | zero => rfl
  | succ n ih =>
    have e1 : cnt (fun k => !p k) (n + 1) = cnt (fun k => !p k) n + (if (!p n) = true then 1 else 0) := rfl
    have e2 : cnt p (n + 1) = cnt p n + (if p n = true then 1 else 0) := rfl
    rw [e1, e2]
    cases hp : p n
    · show cnt (fun k => !p k) n + 1 + (cnt p n + 0) = n + 1; omega
    · show cnt (fun k => !p k) n + 0 + (cnt p n + 1) = n + 1; omega
def mnc (d : PD) (σ : Nat → Nat) (c : Nat) : Bool := !pdw d (σ c)
def mcn (d : PD) (σ : Nat → Nat) (k : Nat) : Nat := cnt (mnc d σ) k
def mns (d : PD) : Nat := pdn d - cnt (pdw d) (pdn d)
theorem mcn_all {d : PD} {σ : Nat → Nat} (hst : ST d σ) : mcn d σ (pdn d) = mns d := by
  have h1 := cnt_neg (pdw d) (pdn d)
  have h2 : mcn d σ (pdn d) = cnt (fun k => !pdw d k) (pdn d) := by
    unfold mcn
    rw [cnt_sm, cnt_sm]
    exact sm_perm hst (F := fun p => if (!pdw d p) = true then 1 else 0)
  unfold mns
  omega
/-- the chair of the j-th man -/
def plc (d : PD) (σ : Nat → Nat) (j : Nat) : Nat := sm (fun c => if mnc d σ c = true ∧ mcn d σ c = j then c else 0) (pdn d)
theorem plc_at {d : PD} {σ : Nat → Nat} {c : Nat} (hc : c < pdn d) (h : mnc d σ c = true) : plc d σ (mcn d σ c) = c := by
  unfold plc
  rw [sm_one (c := c) hc (fun k hk hkc => if_neg (fun g => ?_)), if_pos ⟨h, rfl⟩]
  obtain ⟨g1, g2⟩ := g
  rcases Nat.lt_or_ge k c with q | q
  · have := cnt_str g1 q; unfold mcn at g2; omega
  · have := cnt_str h (show c < k by omega); unfold mcn at g2; omega
theorem plc_ex {d : PD} {σ : Nat → Nat} (hst : ST d σ) {j : Nat} (hj : j < mns d) : plc d σ j < pdn d ∧ mnc d σ (plc d σ j) = true ∧ mcn d σ (plc d σ j) = j := by
  rw [← mcn_all hst] at hj
  obtain ⟨c, h1, h2, h3⟩ := cnt_ex (p := mnc d σ) hj
  have h4 : mcn d σ c = j := h3
  rw [← h4, plc_at h1 h2]
  exact ⟨h1, h2, rfl⟩
theorem plc_inj {d : PD} {σ : Nat → Nat} (hst : ST d σ) {i j : Nat} (hi : i < mns d) (hj : j < mns d) (e : plc d σ i = plc d σ j) : i = j := by
  have h1 := (plc_ex hst hi).2.2
  have h2 := (plc_ex hst hj).2.2
  rw [← h1, ← h2, e]
theorem mod_inj {a b x M : Nat} (ha : a < M) (hb : b < M) (e : (a + x) % M = (b + x) % M) : a = b := by
  have h1 := Nat.sub_mod_eq_zero_of_mod_eq e
  have h2 := Nat.sub_mod_eq_zero_of_mod_eq e.symm
  rw [show a + x - (b + x) = a - b by omega, Nat.mod_eq_of_lt (by omega)] at h1
  rw [show b + x - (a + x) = b - a by omega, Nat.mod_eq_of_lt (by omega)] at h2
  omega
def tau (d : PD) (σ : Nat → Nat) (x : Nat) : Nat → Nat → Nat
  | 0 => σ
  | i + 1 => upN (tau d σ x i) (plc d σ ((i + x) % mns d)) (σ (plc d σ i))
theorem tau_w {d : PD} {σ : Nat → Nat} {x c : Nat} : ∀ {i : Nat}, (∀ k, k < i → c ≠ plc d σ ((k + x) % mns d)) → tau d σ x i c = σ c := by
  intro i
  induction i with
  | zero => intro _; rfl
  | succ i ih =>
    intro h
    show upN (tau d σ x i) (plc d σ ((i + x) % mns d)) (σ (plc d σ i)) c = _
    unfold upN
    rw [if_neg (h i (by omega)), ih (fun k hk => h k (by omega))]
theorem tau_m {d : PD} {σ : Nat → Nat} (hst : ST d σ) {x k : Nat} : ∀ {i : Nat}, k < i → i ≤ mns d → tau d σ x i (plc d σ ((k + x) % mns d)) = σ (plc d σ k) := by
  intro i
  induction i with
  | zero => intro h; omega
  | succ i ih =>
    intro h h2
    show upN (tau d σ x i) (plc d σ ((i + x) % mns d)) (σ (plc d σ i)) _ = _
    unfold upN
    by_cases hk : k = i
    · subst hk; rw [if_pos rfl]
    · rw [if_neg (fun g => hk (mod_inj (by omega) (by omega) (plc_inj hst (Nat.mod_lt _ (by omega)) (Nat.mod_lt _ (by omega)) g))), ih (by omega) (by omega)]
def tauM (d : PD) (σ : Nat → Nat) (x : Nat) : Nat → Nat := tau d σ x (mns d)
/-- a chair after the course: a woman's is hers, a man's has a man's man -/
theorem tau_is {d : PD} {σ : Nat → Nat} (hst : ST d σ) {x c : Nat} (hc : c < pdn d) : (mnc d σ c = false ∧ tauM d σ x c = σ c) ∨ (mnc d σ c = true ∧ ∃ k, k < mns d ∧ c = plc d σ ((k + x) % mns d) ∧ tauM d σ x c = σ (plc d σ k)) := by
  cases hm : mnc d σ c
  · refine Or.inl ⟨rfl, tau_w (fun k hk g => ?_)⟩
    have := (plc_ex hst (j := (k + x) % mns d) (Nat.mod_lt _ (by omega))).2.1
    rw [← g, hm] at this
    exact absurd this (by decide)
  · refine Or.inr ⟨rfl, ?_⟩
    have hj : mcn d σ c < mns d := by rw [← mcn_all hst]; exact cnt_str hm hc
    obtain ⟨k, hk, e⟩ := fb_onto (n := mns d) (f := fun i => (i + x) % mns d) (fun i hi => Nat.mod_lt _ (by omega)) (fun i j hij hj g => by have := mod_inj (by omega) hj g; omega) hj
    have ec : c = plc d σ ((k + x) % mns d) := by
      have e' : (k + x) % mns d = mcn d σ c := e
      rw [e', plc_at hc hm]
    refine ⟨k, hk, ec, ?_⟩
    rw [ec]
    exact tau_m hst hk (Nat.le_refl _)
theorem tau_ST {d : PD} {σ : Nat → Nat} (hst : ST d σ) {x : Nat} : ST d (tauM d σ x) := by
  refine ⟨fun c hc => ?_, fun c hc => ?_, fun c e hc he g => ?_⟩
  · have : tauM d σ x c = σ c := tau_w (fun k hk g => by
      have := (plc_ex hst (j := (k + x) % mns d) (Nat.mod_lt _ (by omega))).1
      omega)
    rw [this, hst.1 c hc]
  · rcases tau_is hst (x := x) hc with ⟨_, q⟩ | ⟨_, k, hk, _, q⟩
    · rw [q]; exact hst.2.1 c hc
    · rw [q]; exact hst.2.1 _ (plc_ex hst hk).1
  · rcases tau_is hst (x := x) hc with ⟨w, q⟩ | ⟨w, k, hk, ek, q⟩ <;> rcases tau_is hst (x := x) he with ⟨w', q'⟩ | ⟨w', k', hk', ek', q'⟩ <;> rw [q, q'] at g
    · exact hst.2.2 c e hc he g
    · have := (plc_ex hst hk').2.1
      unfold mnc at this w; rw [← g, w] at this; exact absurd this (by decide)
    · have := (plc_ex hst hk).2.1
      unfold mnc at this w'; rw [g, w'] at this; exact absurd this (by decide)
    · have e1 := hst.2.2 _ _ (plc_ex hst hk).1 (plc_ex hst hk').1 g
      have e2 := plc_inj hst hk hk' e1
      rw [ek, ek', e2]
theorem tau_Dg {d : PD} {σ : Nat → Nat} (hn : pdn d ≤ 7) (hst : ST d σ) {x : Nat} : ∀ {i : Nat}, i ≤ mns d → Dg (tau d σ x i) := by
  intro i
  induction i with
  | zero => intro _; exact ST_lt8 hn hst
  | succ i ih => intro h; exact Dg_up (ih (by omega)) (ST_lt8 hn hst _)
/-! the class -/
theorem com_loop {d : PD} (hn : pdn d ≤ 7) {σ : Nat → Nat} (hst : ST d σ) {wo : Int32} (hwo : ∀ i, i < 32 → bt wo i = (decide (i < pdn d) && pdw d i)) {c : Nat} (hc : c < pdn d) (hm : mnc d σ c = true) : ∀ (m k : Nat), k ≤ c → c - k < m → lf_X4_chairOfMan_5 (nI (pk σ)) (nI (mcn d σ c)) (nI (pdn d)) wo m (nI (mcn d σ k)) (nI k) = some (.inl (nI c)) := by
  intro m
  induction m with
  | zero => intro k h1 h2; omega
  | succ m ih =>
    intro k h1 h2
    have hsk := hst.2.1 k (by omega)
    rw [lf_X4_chairOfMan_5, qs_f (nI_ge (a := k) (by omega) (by omega)), qs_f (c := (7 : Int32) ≤ nI k) (nI_ge (b := 7) (by omega) (by omega)), qs_lt, on_pk (ST_lt8 hn hst) (by omega), qs_lt, woman_eq hn hwo hsk, nI_1, nI_1]
    have es : mcn d σ (k + 1) = mcn d σ k + (if mnc d σ k = true then 1 else 0) := rfl
    have hle1 : mcn d σ k ≤ k := cnt_le _ _
    have hle2 : mcn d σ c ≤ c := cnt_le _ _
    by_cases hk : k = c
    · subst hk
      have : pdw d (σ k) = false := by unfold mnc at hm; simpa using hm
      rw [this, qs_f (c := ¬ b2i false = 0) (by decide), qs_f (fun g => g rfl)]
    · cases hw : pdw d (σ k)
      · have hmk : mnc d σ k = true := by unfold mnc; rw [hw]; rfl
        have := cnt_str hmk (show k < c by omega)
        rw [qs_f (c := ¬ b2i false = 0) (by decide), qs_t (c := ¬ nI (mcn d σ k) = nI (mcn d σ c)) (fun g => by have := (nI_eq (by omega) (by omega)).mp g; unfold mcn at this; omega)]
        rw [if_pos hmk] at es
        rw [← es]
        exact ih (k + 1) (by omega) (by omega)
      · have hmk : mnc d σ k = false := by unfold mnc; rw [hw]; rfl
        rw [qs_t (c := ¬ b2i true = 0) (by decide)]
        replace es : mcn d σ (k + 1) = mcn d σ k := by rw [es, if_neg (by rw [hmk]; decide)]; rfl
        rw [← es]
        exact ih (k + 1) (by omega) (by omega)
theorem comX {d : PD} (hn : pdn d ≤ 7) {σ : Nat → Nat} (hst : ST d σ) {wo : Int32} (hwo : ∀ i, i < 32 → bt wo i = (decide (i < pdn d) && pdw d i)) {j : Nat} (hj : j < mns d) : f_X4_chairOfMan (nI (pk σ)) (nI j) (nI (pdn d)) wo = some (nI (plc d σ j)) := by
  obtain ⟨h1, h2, h3⟩ := plc_ex hst hj
  unfold f_X4_chairOfMan
  have e : lf_X4_chairOfMan_5 (nI (pk σ)) (nI (mcn d σ (plc d σ j))) (nI (pdn d)) wo pw_FU 0 0 = some (.inl (nI (plc d σ j))) := com_loop hn hst hwo h1 h2 pw_FU 0 (by omega) (by unfold pw_FU; omega)
  rw [h3] at e
  rw [e, qs_bl, qs_u1]
theorem aft_loop {d : PD} (hn : pdn d ≤ 7) {σ : Nat → Nat} (hst : ST d σ) {wo : Int32} (hwo : ∀ i, i < 32 → bt wo i = (decide (i < pdn d) && pdw d i)) {x : Nat} (hx : x ≤ 9) (hM : 0 < mns d) : ∀ (m k : Nat), k ≤ pdn d → pdn d - k < m → lf_X4_afterCourse_21 (nI (pk σ)) (nI x) (nI (mns d)) (nI (pdn d)) wo m (nI (pk (tau d σ x (mcn d σ k)))) (nI (mcn d σ k)) (nI k) = some (nI (pk (tauM d σ x))) := by
  intro m
  induction m with
  | zero => intro k h1 h2; omega
  | succ m ih =>
    intro k h1 h2
    rw [lf_X4_afterCourse_21]
    have hMn : mns d ≤ pdn d := Nat.sub_le _ _
    by_cases hk : pdn d ≤ k
    · have : k = pdn d := by omega
      subst this
      rw [qs_t (nI_le hk (by omega)), mcn_all hst]; rfl
    · have hk' : k < pdn d := by omega
      have hsk := hst.2.1 k hk'
      have hle : mcn d σ k ≤ k := cnt_le _ _
      have es : mcn d σ (k + 1) = mcn d σ k + (if mnc d σ k = true then 1 else 0) := rfl
      rw [qs_f (nI_ge hk' (by omega)), qs_f (c := (7 : Int32) ≤ nI k) (nI_ge (b := 7) (by omega) (by omega)), qs_lt, on_pk (ST_lt8 hn hst) (by omega), qs_lt, woman_eq hn hwo hsk, nI_1, nI_1]
      cases hw : pdw d (σ k)
      · have hmk : mnc d σ k = true := by unfold mnc; rw [hw]; rfl
        have hlt : mcn d σ k < mns d := by rw [← mcn_all hst]; exact cnt_str hmk hk'
        have hml := Nat.mod_lt (mcn d σ k + x) hM
        rw [qs_f (c := ¬ b2i false = 0) (by decide), qs_g (nI_ne0 hM (by omega)), nI_add, pk_rem (by omega) (by omega) (by omega), comX hn hst hwo hml, qs_bd, qs_u1, qs_lt]
        have hpl := (plc_ex hst hml).1
        rw [wi_pk (tau_Dg hn hst (by omega)) (by omega) (by omega)]
        rw [if_pos hmk] at es
        have et : tau d σ x (mcn d σ (k + 1)) = upN (tau d σ x (mcn d σ k)) (plc d σ ((mcn d σ k + x) % mns d)) (σ k) := by
          rw [es]
          show upN (tau d σ x (mcn d σ k)) (plc d σ ((mcn d σ k + x) % mns d)) (σ (plc d σ (mcn d σ k))) = _
          rw [plc_at hk' hmk]
        rw [← et, ← es]
        exact ih (k + 1) (by omega) (by omega)
      · have hmk : mnc d σ k = false := by unfold mnc; rw [hw]; rfl
        rw [qs_t (c := ¬ b2i true = 0) (by decide)]
        replace es : mcn d σ (k + 1) = mcn d σ k := by rw [es, if_neg (by rw [hmk]; decide)]; rfl
        rw [← es]
        exact ih (k + 1) (by omega) (by omega)
theorem courseX {d : PD} (hn : pdn d ≤ 7) {σ : Nat → Nat} (hst : ST d σ) {wo : Int32} (hwo : ∀ i, i < 32 → bt wo i = (decide (i < pdn d) && pdw d i)) {x : Nat} (hx : x ≤ 9) : f_X4_afterCourse (nI (pk σ)) (nI x) (nI (pdn d)) wo = some (nI (pk (tauM d σ x))) := by
  unfold f_X4_afterCourse
  have e0 : f_X4_men (nI (pdn d)) wo = nI (mns d) := menX hn hwo
  have hMn : mns d ≤ pdn d := Nat.sub_le _ _
  rw [e0, qs_lt]
  by_cases hM : 0 < mns d
  · rw [qs_t (c := (1 : Int32) ≤ nI (mns d)) (nI_le (a := 1) hM (by omega))]
    have e : lf_X4_afterCourse_21 (nI (pk σ)) (nI x) (nI (mns d)) (nI (pdn d)) wo pw_FU (nI (pk σ)) 0 0 = some (nI (pk (tauM d σ x))) := aft_loop hn hst hwo hx hM pw_FU 0 (by omega) (by unfold pw_FU; omega)
    rw [e, qs_bd, qs_u1]
  · have h0 : mns d = 0 := by omega
    rw [qs_f (c := (1 : Int32) ≤ nI (mns d)) (nI_ge (b := 1) (by omega) (by omega))]
    unfold tauM; rw [h0]; rfl
/-! the model -/
theorem lay_loop1 {d : PD} (hn : pdn d ≤ 7) {σ : Nat → Nat} (hst : ST d σ) {woman seat : Nat → Int32} (hrow : RowM d σ seat) (hwo : ∀ p, p < pdn d → woman p = b2i (pdw d p)) : ∀ (m k : Nat) (perm places : Nat → Int32), k ≤ pdn d → pdn d - k < m → (∀ c, c < k → perm c = nI (σ c)) → (∀ c, c < k → mnc d σ c = true → places (mcn d σ c) = nI c) → ∃ perm' places', lf_X11_layCourse_4 (nI (pdn d)) woman seat m (nI (mcn d σ k)) (nI k) perm places = some (nI (mns d), perm', places') ∧ RowM d σ perm' ∧ ∀ j, j < mns d → places' j = nI (plc d σ j) := by
  intro m
  induction m with
  | zero => intro k perm places h1 h2; omega
  | succ m ih =>
    intro k perm places h1 h2 hp hq
    rw [lf_X11_layCourse_4]
    by_cases hk : pdn d ≤ k
    · have : k = pdn d := by omega
      subst this
      rw [qs_t (nI_le hk (by omega)), mcn_all hst]
      refine ⟨perm, places, rfl, hp, fun j hj => ?_⟩
      obtain ⟨g1, g2, g3⟩ := plc_ex hst hj
      have := hq _ g1 g2
      rw [g3] at this; exact this
    · have hk' : k < pdn d := by omega
      have hsk := hst.2.1 k hk'
      have hle : mcn d σ k ≤ k := cnt_le _ _
      have es : mcn d σ (k + 1) = mcn d σ k + (if mnc d σ k = true then 1 else 0) := rfl
      rw [qs_f (nI_ge hk' (by omega))]
      simp (disch := omega) only [qs_cl, qg_in2, qs_lt, nI_1, hrow k hk', hwo _ hsk]
      have hp' : ∀ c, c < k + 1 → upd perm k (nI (σ k)) c = nI (σ c) := fun c hc => by
        by_cases hck : c = k
        · subst hck; rw [pk_us]
        · rw [pk_un hck]; exact hp c (by omega)
      cases hw : pdw d (σ k)
      · have hmk : mnc d σ k = true := by unfold mnc; rw [hw]; rfl
        rw [qs_f (c := ¬ b2i false = 0) (by decide)]
        rw [if_pos hmk] at es
        have := ih (k + 1) (upd perm k (nI (σ k))) (upd places (mcn d σ k) (nI k)) (by omega) (by omega) hp' (fun c hc hm => by
          by_cases hck : c = k
          · subst hck; rw [pk_us]
          · have := cnt_str hm (show c < k by omega)
            rw [pk_un (fun g => by unfold mcn at g; omega)]; exact hq c (by omega) hm)
        rw [es] at this
        exact this
      · have hmk : mnc d σ k = false := by unfold mnc; rw [hw]; rfl
        rw [qs_t (c := ¬ b2i true = 0) (by decide)]
        replace es : mcn d σ (k + 1) = mcn d σ k := by rw [es, if_neg (by rw [hmk]; decide)]; rfl
        have := ih (k + 1) (upd perm k (nI (σ k))) places (by omega) (by omega) hp' (fun c hc hm => by
          by_cases hck : c = k
          · subst hck; rw [hmk] at hm; exact absurd hm (by decide)
          · exact hq c (by omega) hm)
        rw [es] at this
        exact this
theorem lay_loop2 {d : PD} (hn : pdn d ≤ 7) {σ : Nat → Nat} (hst : ST d σ) {seat places : Nat → Int32} (hrow : RowM d σ seat) (hpl : ∀ j, j < mns d → places j = nI (plc d σ j)) {x : Nat} (hx : x ≤ 9) : ∀ (m i : Nat) (perm : Nat → Int32), i ≤ mns d → mns d - i < m → RowM d (tau d σ x i) perm → ∃ perm', lf_X11_layCourse_56 (nI x) (nI (mns d)) seat places m (nI i) perm = some perm' ∧ RowM d (tauM d σ x) perm' := by
  intro m
  induction m with
  | zero => intro i perm h1 h2; omega
  | succ m ih =>
    intro i perm h1 h2 hp
    have hMn : mns d ≤ pdn d := Nat.sub_le _ _
    rw [lf_X11_layCourse_56]
    by_cases hk : mns d ≤ i
    · have : i = mns d := by omega
      subst this
      rw [qs_t (nI_le hk (by omega))]
      exact ⟨perm, rfl, hp⟩
    · have hk' : i < mns d := by omega
      have hml := Nat.mod_lt (i + x) (show 0 < mns d by omega)
      have g1 := (plc_ex hst hk').1
      have g2 := (plc_ex hst hml).1
      rw [qs_f (nI_ge hk' (by omega)), qs_g (nI_ne0 (by omega) (by omega)), nI_add, pk_rem (by omega) (by omega) (by omega)]
      simp (disch := omega) only [qs_cl, qg_in2, qs_lt, nI_1, hpl i hk', hpl _ hml, hrow _ g1]
      refine ih (i + 1) _ (by omega) (by omega) (fun c hc => ?_)
      show _ = nI (upN (tau d σ x i) (plc d σ ((i + x) % mns d)) (σ (plc d σ i)) c)
      unfold upN
      by_cases hcc : c = plc d σ ((i + x) % mns d)
      · rw [if_pos hcc, hcc, pk_us]
      · rw [if_neg hcc, pk_un hcc]; exact hp c hc
theorem courseM {d : PD} (hn : pdn d ≤ 7) {σ : Nat → Nat} (hst : ST d σ) {woman seat : Nat → Int32} (hrow : RowM d σ seat) (hwo : ∀ p, p < pdn d → woman p = b2i (pdw d p)) {x : Nat} (hx : x ≤ 9) (perm places : Nat → Int32) : ∃ perm' places', f_X11_layCourse (nI x) (nI (pdn d)) woman seat perm places = some (perm', places') ∧ RowM d (tauM d σ x) perm' := by
  unfold f_X11_layCourse
  obtain ⟨p1, pl1, e1, h1, h2⟩ := lay_loop1 hn hst hrow hwo pw_FU 0 perm places (by omega) (by unfold pw_FU; omega) (fun c hc => by omega) (fun c hc => by omega)
  have e1' : lf_X11_layCourse_4 (nI (pdn d)) woman seat pw_FU 0 0 perm places = some (nI (mns d), p1, pl1) := e1
  obtain ⟨p2, e2, h3⟩ := lay_loop2 hn hst hrow h2 hx pw_FU 0 p1 (by omega) (by unfold pw_FU; have : mns d ≤ pdn d := Nat.sub_le _ _; omega) h1
  have e2' : lf_X11_layCourse_56 (nI x) (nI (mns d)) seat pl1 pw_FU 0 p1 = some p2 := e2
  rw [e1', qs_bd, qs_u3, e2', qs_bd, qs_u1]
  exact ⟨_, _, rfl, h3⟩
/-! sitting down otherwise -/
def els (σ τ : Nat → Nat) (k : Nat) : Nat := cnt (fun c => decide (σ c ≠ τ c)) k
theorem sit_loop {d : PD} (hn : pdn d ≤ 7) {σ τ : Nat → Nat} (hst : ST d σ) (hst2 : ST d τ) {perm : Nat → Int32} (hp : RowM d τ perm) : ∀ (m k : Nat) (seat : Nat → Int32), k ≤ pdn d → pdn d - k < m → (∀ c, c < k → seat c = nI (τ c)) → (∀ c, k ≤ c → c < pdn d → seat c = nI (σ c)) → ∃ seat', lf_X11_sit_8 (nI (pdn d)) perm m (nI (els σ τ k)) (nI k) seat = some (nI (els σ τ (pdn d)), seat') ∧ RowM d τ seat' := by
  intro m
  induction m with
  | zero => intro k seat h1 h2; omega
  | succ m ih =>
    intro k seat h1 h2 ha hb
    rw [lf_X11_sit_8]
    by_cases hk : pdn d ≤ k
    · have : k = pdn d := by omega
      subst this
      rw [qs_t (nI_le hk (by omega))]
      exact ⟨seat, rfl, ha⟩
    · have hk' : k < pdn d := by omega
      have hs1 := hst.2.1 k hk'
      have hs2 := hst2.2.1 k hk'
      rw [qs_f (nI_ge hk' (by omega))]
      simp (disch := omega) only [qs_cl, qg_in2, qs_lt, nI_1, hb k (Nat.le_refl _) hk', hp k hk']
      have es : els σ τ (k + 1) = els σ τ k + (if decide (σ k ≠ τ k) = true then 1 else 0) := rfl
      have ej : nI (els σ τ k) + pw_cd (¬ nI (σ k) = nI (τ k)) 1 0 = nI (els σ τ (k + 1)) := by
        rw [es]
        by_cases h : σ k = τ k
        · rw [qs_f (fun g => g (by rw [h])), if_neg (by simp [h])]; show nI _ + nI 0 = _; rw [nI_add]
        · rw [qs_t (c := ¬ nI (σ k) = nI (τ k)) (fun g => h ((nI_eq (by omega) (by omega)).mp g)), if_pos (by simp [h]), nI_1]
      rw [ej]
      exact ih (k + 1) _ (by omega) (by omega) (fun c hc => by
        by_cases hck : c = k
        · subst hck; rw [pk_us]
        · rw [pk_un hck]; exact ha c (by omega)) (fun c hc1 hc2 => by
        rw [pk_un (by omega)]; exact hb c (by omega) hc2)
theorem SMs_of {d : PD} {σ : Nat → Nat} {a : Nat → Int32} (h : RowM d σ a) : SMs d σ a 0 := fun c hc => by rw [Nat.zero_add]; exact h c hc
/-- both sides take another seating -/
theorem act_sit {d : PD} {σ τ : Nat → Nat} {f : Nat → Nat → Nat} {size acts next : Int32} {before dinners row seat dines perm : Nat → Int32} (hn : pdn d ≤ 7) (hst : ST d σ) (hst2 : ST d τ) (hdn : DN d f) (h : RActs d σ f size before dinners acts next row) (h1 : SMs d σ seat 0) (h2 : DMs d f dines 0) (hp : RowM d τ perm) :
    ∃ (sz2 : Int32) (bf df : Nat → Int32) (ac2 nx2 : Int32) (se2 r : Nat → Int32), f_X10_actTo (nI (pk τ)) (nI (pk σ)) size before dinners = some (nI (pk τ), sz2, bf, df) ∧ f_X11_sit (nI (pdn d)) acts next seat dines perm row = some (nI (els σ τ (pdn d)), ac2, nx2, se2, r) ∧ RActs d τ f sz2 bf df ac2 nx2 r ∧ SMs d τ se2 0 := by
  obtain ⟨sz2, bf, df, ac2, nx2, r, eX, eM, hac2⟩ := act_add (σ' := τ) (f' := f) hn hst hdn h h1 h2 false (fun _ => rfl) (fun g => absurd g (by decide))
  obtain ⟨se2, e2, h3⟩ := sit_loop hn hst hst2 hp pw_FU 0 seat (by omega) (by unfold pw_FU; omega) (fun c hc => by omega) (fun c _ hc => SMs_row h1 c hc)
  have e2' : lf_X11_sit_8 (nI (pdn d)) perm pw_FU 0 0 seat = some (nI (els σ τ (pdn d)), se2) := e2
  have eX' : f_X0_add (nI (pk σ)) 0 size before dinners = some (sz2, bf, df) := eX
  unfold f_X10_actTo f_X11_sit
  rw [eX', qs_bd, qs_u3, eM, qs_bd, qs_u3, e2', qs_bd, qs_u2]
  exact ⟨_, _, _, _, _, _, _, rfl, rfl, hac2, SMs_of h3⟩
theorem Sim_course_ok : Sim_course Inv := by
  intro s t hI x1
  obtain ⟨h1, h2, h3, h4, d, σ, f, hw, hx, hm, hst, hdn, hse, hdx, hsm, hdm, hac, hs0, hs1, hla⟩ := id hI
  have hn := hw.1
  have er : sx_guests_round s = b2i (pdr d) := hx.1
  have ep : sx_guests_people s = nI (pdn d) := hx.2.2.2.1
  have em : sm_people t = nI (pdn d) := hm.1
  have hrow := SMs_row hsm
  unfold f_X10_course f_X11_course
  have ein : f_X11_in (Int32.toInt64 x1) 1 9 = if (1 : Int32) ≤ x1 ∧ x1 ≤ 9 then 1 else 0 := in_ii x1 1 9
  rw [ein, qs_lt]
  by_cases ha : x1 < 1
  · have : ¬ ((1 : Int32) ≤ x1 ∧ x1 ≤ 9) := fun g => (fa_of_lt ha).2.1 g.1
    rw [qs_t ha, if_neg this, qs_f (c := ¬ (0 : Int32) = 0) (fun g => g rfl)]
    exact ⟨-2, _, _, _, _, _, _, _, _, _, _, rfl, rfl, hI⟩
  · rw [qs_f ha]
    by_cases hb : x1 ≤ 9
    · have : (1 : Int32) ≤ x1 ∧ x1 ≤ 9 := ⟨fa_of_nlt ha, hb⟩
      rw [qs_t hb, if_pos this, qs_t (c := ¬ (1 : Int32) = 0) (by decide)]
      obtain ⟨x, hx9, rfl⟩ := nI_of2 (M := 9) (n := 9) (by decide) (fun g => ha (fa_trans g (by decide))) hb
      have hst2 := tau_ST hst (x := x)
      obtain ⟨pe, pl, eL, hp⟩ := courseM hn hst hrow hm.2.2.2.2.1 hx9 (sm_perm_v t) (sm_places_v t)
      obtain ⟨sz2, bf, df, ac2, nx2, se2, r, eX, eM, hac2, hsm2⟩ := act_sit hn hst hst2 hdn hac hsm hdm hp
      obtain ⟨lr, er1, hr⟩ := lawX1 hw hst2 hx
      obtain ⟨lr', er', hr'⟩ := lawM1 hw hst2 hm (SMs_row hsm2)
      have e := IsB_eq hr' hr
      subst e
      rw [ep] at er1
      rw [em] at er'
      rw [hse, ep, em, courseX hn hst hx.2.2.2.2.1 hx9, qs_bd, qs_u1, eX, qs_bd, qs_u4, er1, qs_bd, qs_u1, eL, qs_bd, qs_u2, eM, qs_bd, qs_u5, er', qs_bd, qs_u1, IsB_cd hr' (fun z => some (z, ac2, nx2, se2, pe, r, pl))]
      exact ⟨lr', _, _, _, _, _, _, _, _, _, _, rfl, rfl, h1, h2, h3, h4, d, _, f, hw, hx, hm, hst2, hdn, rfl, hdx, hsm2, hdm, hac2, hs0, hs1, hla⟩
    · have : ¬ ((1 : Int32) ≤ x1 ∧ x1 ≤ 9) := fun g => hb g.2
      rw [qs_f hb, if_neg this, qs_f (c := ¬ (0 : Int32) = 0) (fun g => g rfl)]
      exact ⟨-2, _, _, _, _, _, _, _, _, _, _, rfl, rfl, hI⟩
theorem good_loop {d : PD} (hw : PWf d) {σ : Nat → Nat} (hst : ST d σ) {ro tu ap pe wo : Int32} {co qu to ba : Int64} {worths : Nat → Int32} (hx : PX d ro tu ap pe wo co qu to ba worths) {pe' ro' tu' ap' : Int32} {woman mate quarrel joined worths' seat : Nat → Int32} (hm : PM d pe' ro' tu' ap' woman mate quarrel joined worths') (hrow : RowM d σ seat) : ∀ (m k : Nat) (acc : Int32) (perm places : Nat → Int32), 1 ≤ k → k ≤ 7 → 7 - k < m → ∃ r q1 q2, lf_X10_good_12 (nI (mns d)) (nI (pk σ)) (b2i (pdr d)) (nI (pdn d)) wo to ba m acc (nI k) = some r ∧ lf_X11_good_4 (nI (pdn d)) ro' tu' ap' woman mate quarrel joined seat m acc (nI k) perm places = some (r, q1, q2) := by
  have hn := hw.1
  have er : ro = b2i (pdr d) := hx.1
  have ep : pe = nI (pdn d) := hx.2.2.2.1
  have em : pe' = nI (pdn d) := hm.1
  have hMn : mns d ≤ pdn d := Nat.sub_le _ _
  intro m
  induction m with
  | zero => intro k acc perm places h0 h1 h2; omega
  | succ m ih =>
    intro k acc perm places h0 h1 h2
    have eM : f_X11_men (nI (pdn d)) woman = some (nI (mns d)) := menM hn hm.2.2.2.2.1
    rw [lf_X10_good_12, lf_X11_good_4, eM, qs_bd, qs_u1]
    by_cases hk : mns d ≤ k
    · rw [qs_t (nI_le hk (by omega)), qs_t (nI_le hk (by omega))]
      exact ⟨_, _, _, rfl, rfl⟩
    · have hk' : k < mns d := by omega
      have hst2 := tau_ST hst (x := k)
      obtain ⟨pe1, pl, eL, hp⟩ := courseM hn hst hrow hm.2.2.2.2.1 (show k ≤ 9 by omega) perm places
      obtain ⟨lr, er1, hr⟩ := lawX hw hst2 hx.2.2.2.2.2.2.2.1 hx.2.2.2.2.2.2.2.2.1
      obtain ⟨lr', er', hr'⟩ := lawM1 hw hst2 hm hp
      have e := IsB_eq hr' hr
      subst e
      rw [em] at er'
      rw [qs_f (nI_ge hk' (by omega)), qs_f (nI_ge hk' (by omega)), qs_f (c := (7 : Int32) ≤ nI k) (nI_ge (b := 7) (by omega) (by omega)), courseX hn hst hx.2.2.2.2.1 (show k ≤ 9 by omega), qs_bd, qs_u1, er1, qs_bd, qs_u1, eL, qs_bd, qs_u2, er', qs_bd, qs_u1, nI_1]
      have h0' : acc + 0 = acc := by simp
      rcases hr' with ⟨rfl, _⟩ | ⟨rfl, _⟩
      · rw [qs_f (c := (1 : Int32) = 0) (by decide), qs_f (c := (1 : Int32) = 0) (by decide), qs_lt]
        exact ih (k + 1) _ _ _ (by omega) (by omega) (by omega)
      · rw [qs_t (c := (0 : Int32) = 0) rfl, qs_t (c := (0 : Int32) = 0) rfl, qs_lt, h0']
        exact ih (k + 1) _ _ _ (by omega) (by omega) (by omega)
theorem Sim_good_ok : Sim_good Inv := by
  intro s t hI
  obtain ⟨h1, h2, h3, h4, d, σ, f, hw, hx, hm, hst, hdn, hse, hdx, hsm, hdm, hac, hs0, hs1, hla⟩ := id hI
  have hn := hw.1
  have er : sx_guests_round s = b2i (pdr d) := hx.1
  have ep : sx_guests_people s = nI (pdn d) := hx.2.2.2.1
  have em : sm_people t = nI (pdn d) := hm.1
  have hrow := SMs_row hsm
  unfold f_X10_good f_X11_good
  obtain ⟨r, q1, q2, e1, e2⟩ := good_loop hw hst hx hm hrow pw_FU 1 0 (sm_perm_v t) (sm_places_v t) (by omega) (by omega) (by unfold pw_FU; omega)
  have e1' : lf_X10_good_12 (nI (mns d)) (nI (pk σ)) (b2i (pdr d)) (nI (pdn d)) (sx_guests_women s) (sx_guests_togethers s) (sx_guests_barred s) pw_FU 0 1 = some r := e1
  have e2' : lf_X11_good_4 (nI (pdn d)) (sm_isRound t) (sm_byTurns t) (sm_apart t) (sm_woman_v t) (sm_mate_v t) (sm_quarrel_v t) (sm_joined_v t) (sm_seat_v t) pw_FU 0 1 (sm_perm_v t) (sm_places_v t) = some (r, q1, q2) := e2
  have e0 : f_X4_men (nI (pdn d)) (sx_guests_women s) = nI (mns d) := menX hn hx.2.2.2.2.1
  rw [hse, er, ep, em, e0, qs_lt, e1', qs_bd, qs_u1, e2', qs_bd, qs_u3]
  exact ⟨_, _, _, rfl, rfl, hI⟩
