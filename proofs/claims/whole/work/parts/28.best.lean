/-! ===== the seating of most worth, the one with fewest who dined together ===== -/
theorem sm_le {f : Nat → Nat} {B : Nat} : ∀ {n : Nat}, (∀ k, k < n → f k ≤ B) → sm f n ≤ n * B := by
  intro n
  induction n with
  | zero => intro _; exact Nat.zero_le _
  | succ n ih =>
    intro h
    show sm f n + f n ≤ _
    have := ih (fun k hk => h k (by omega))
    have := h n (by omega)
    rw [Nat.add_mul]; omega
def wW (d : PD) (τ : Nat → Nat) : Nat := sm (fun j => pdv d (τ j) (τ (bhd d j)) + pdv d (τ (bhd d j)) (τ j)) (npr d)
def wD (d : PD) (f : Nat → Nat → Nat) (τ : Nat → Nat) : Nat := sm (fun j => f (τ j) (τ (bhd d j))) (npr d)
theorem wW_le {d : PD} (hw : PWf d) {τ : Nat → Nat} : wW d τ ≤ 1000 := by
  have h : wW d τ ≤ npr d * 18 := sm_le (fun k _ => by have := hw.2.2.2.2.2.2 (τ k) (τ (bhd d k)); have := hw.2.2.2.2.2.2 (τ (bhd d k)) (τ k); omega)
  have : npr d ≤ 7 := Nat.le_trans npr_le hw.1
  have : npr d * 18 ≤ 7 * 18 := Nat.mul_le_mul_right _ this
  omega
theorem wD_le {d : PD} (hw : PWf d) {f : Nat → Nat → Nat} (hf : DN d f) {τ : Nat → Nat} : wD d f τ ≤ 1000 := by
  have h : wD d f τ ≤ npr d * 99 := sm_le (fun k _ => hf.2.1 _ _)
  have : npr d ≤ 7 := Nat.le_trans npr_le hw.1
  have : npr d * 99 ≤ 7 * 99 := Nat.mul_le_mul_right _ this
  omega
theorem weigh_loop {d : PD} (hn : pdn d ≤ 7) {τ : Nat → Nat} (hst : ST d τ) {g : Nat → Nat} {v : Nat → Int32} (hv : ∀ k, k < npr d → v (8 * τ k + τ (bhd d k)) + v (8 * τ (bhd d k) + τ k) = nI (g k)) : ∀ (m k : Nat) (one : Int32), k ≤ npr d → npr d - k < m → (k < npr d → one = nI (τ k)) → lf_X4_weigh_27 (nI (pk τ)) (f_X4_neighbourPairs (b2i (pdr d)) (nI (pdn d))) (nI (pdn d)) v m (nI (sm g k)) one (nI k) = some (nI (sm g (npr d))) := by
  intro m
  induction m with
  | zero => intro k one h1 h2; omega
  | succ m ih =>
    intro k one h1 h2 h3
    have hk7 : k ≤ 7 := Nat.le_trans h1 (Nat.le_trans npr_le hn)
    rw [lf_X4_weigh_27]
    by_cases hk : npr d ≤ k
    · have : k = npr d := by omega
      subst this
      rw [qs_t ((pairs_le hn hk7).mpr hk)]
    · have hk' : k < npr d := by omega
      have hkn : k < pdn d := Nat.lt_of_lt_of_le hk' npr_le
      have hb := bhd_lt (d := d) hkn
      have hs1 := hst.2.1 k hkn
      have hs2 := hst.2.1 _ hb
      rw [qs_f (fun h => hk ((pairs_le hn hk7).mp h)), qs_f (c := (7 : Int32) ≤ nI k) (nI_ge (b := 7) (by omega) (by omega)), qs_lt, beh_eq hn hkn, on_pk (ST_lt8 hn hst) (by omega), h3 hk', qs_lt, qs_lt, qs_lt, cell_nI (by omega) (by omega), cell_nI (by omega) (by omega)]
      simp (disch := omega) only [qs_cl, qg_in2, qs_lt, nI_1]
      rw [hv k hk', nI_add]
      refine ih (k + 1) _ (by omega) (by omega) (fun hk2 => ?_)
      congr 2
      unfold bhd
      have := npr_le (d := d)
      rw [if_pos (by omega)]
theorem weighX {d : PD} (hn : pdn d ≤ 7) {τ : Nat → Nat} (hst : ST d τ) {g : Nat → Nat} {v : Nat → Int32} (hv : ∀ k, k < npr d → v (8 * τ k + τ (bhd d k)) + v (8 * τ (bhd d k) + τ k) = nI (g k)) : f_X4_weigh (nI (pk τ)) (b2i (pdr d)) (nI (pdn d)) v = some (nI (sm g (npr d))) := by
  unfold f_X4_weigh
  have e : lf_X4_weigh_27 (nI (pk τ)) (f_X4_neighbourPairs (b2i (pdr d)) (nI (pdn d))) (nI (pdn d)) v pw_FU 0 (f_X7_personOn (nI (pk τ)) 0) 0 = some (nI (sm g (npr d))) := weigh_loop hn hst hv pw_FU 0 _ (by omega) (by have := Nat.le_trans npr_le hn; unfold pw_FU; omega) (fun _ => on_pk (ST_lt8 hn hst) (c := 0) (by omega))
  rw [qs_lt, qs_t (c := (64 : Int32) ≤ 64) (by decide), qs_lt, qs_lt, e, qs_bd, qs_u1]
theorem weighW {d : PD} (hn : pdn d ≤ 7) {τ : Nat → Nat} (hst : ST d τ) {v : Nat → Int32} (hv : ∀ p q, p < 8 → q < 8 → v (8 * p + q) = nI (pdv d p q)) : f_X4_weigh (nI (pk τ)) (b2i (pdr d)) (nI (pdn d)) v = some (nI (wW d τ)) :=
  weighX hn hst (fun k hk => by
    have hkn : k < pdn d := Nat.lt_of_lt_of_le hk npr_le
    have hs1 := hst.2.1 k hkn
    have hs2 := hst.2.1 _ (bhd_lt (d := d) hkn)
    rw [hv _ _ (by omega) (by omega), hv _ _ (by omega) (by omega), nI_add])
theorem weighD {d : PD} (hn : pdn d ≤ 7) {τ : Nat → Nat} (hst : ST d τ) {f : Nat → Nat → Nat} (hf : DN d f) {v : Nat → Int32} (hv : DX f v) : f_X4_weigh (nI (pk τ)) (b2i (pdr d)) (nI (pdn d)) v = some (nI (wD d f τ)) :=
  weighX hn hst (fun k hk => by
    have hkn : k < pdn d := Nat.lt_of_lt_of_le hk npr_le
    have hbl := bhd_lt (d := d) hkn
    have hs1 := hst.2.1 k hkn
    have hs2 := hst.2.1 _ hbl
    have hne : τ (bhd d k) ≠ τ k := fun g => bhd_ne hk (hst.2.2 _ _ hbl hkn g)
    rw [hv _ _ (by omega) (by omega), hv _ _ (by omega) (by omega)]
    by_cases hlt : τ k < τ (bhd d k)
    · rw [if_pos hlt, if_neg (by omega)]; show nI _ + nI 0 = _; rw [nI_add]; rfl
    · rw [if_neg hlt, if_pos (by omega), hf.1]; show nI 0 + nI _ = _; rw [nI_add, Nat.zero_add])
/-! the model's sums -/
theorem worthIn_loop {d : PD} (hn : pdn d ≤ 7) {τ : Nat → Nat} (hst : ST d τ) {row worths : Nat → Int32} (hrow : RowM d τ row) (hv : ∀ p q, p < pdn d → q < pdn d → worths (7 * p + q) = nI (pdv d p q)) : ∀ (m k : Nat), k ≤ pdn d → pdn d - k < m → lf_X11_worthIn_4 (nI (pdn d)) (b2i (pdr d)) worths row m (nI (sm (fun c => sm (Wc d τ c) (pdn d)) k)) (nI k) = some (nI (sm (fun c => sm (Wc d τ c) (pdn d)) (pdn d))) := by
  intro m
  induction m with
  | zero => intro k h1 h2; omega
  | succ m ih =>
    intro k h1 h2
    rw [lf_X11_worthIn_4]
    by_cases hk : pdn d ≤ k
    · have : k = pdn d := by omega
      subst this
      rw [qs_t (nI_le hk (by omega))]
    · have hk' : k < pdn d := by omega
      rw [qs_f (nI_ge hk' (by omega)), worthFor_eq hn hst hrow hv hk', qs_bd, qs_u1, qs_lt, nI_add, nI_1]
      exact ih (k + 1) (by omega) (by omega)
theorem worthInM {d : PD} (hn : pdn d ≤ 7) {τ : Nat → Nat} (hst : ST d τ) {row worths : Nat → Int32} (hrow : RowM d τ row) (hv : ∀ p q, p < pdn d → q < pdn d → worths (7 * p + q) = nI (pdv d p q)) : f_X11_worthIn (nI (pdn d)) (b2i (pdr d)) worths row = some (nI (wW d τ)) := by
  unfold f_X11_worthIn
  have e : lf_X11_worthIn_4 (nI (pdn d)) (b2i (pdr d)) worths row pw_FU 0 0 = some (nI (sm (fun c => sm (Wc d τ c) (pdn d)) (pdn d))) := worthIn_loop hn hst hrow hv pw_FU 0 (by omega) (by unfold pw_FU; omega)
  have e2 : sm (fun c => sm (Wc d τ c) (pdn d)) (pdn d) = wW d τ := nb_sum2 hn (g := fun c e => pdv d (τ c) (τ e))
  rw [e, qs_bd, qs_u1, e2]
def Dc (d : PD) (f : Nat → Nat → Nat) (τ : Nat → Nat) (c e : Nat) : Nat := if nx d c e = true then f (τ c) (τ e) else 0
theorem dinedIn_in {d : PD} (hn : pdn d ≤ 7) {τ : Nat → Nat} (hst : ST d τ) {f : Nat → Nat → Nat} {row dines : Nat → Int32} (hrow : RowM d τ row) (hv : DMs d f dines 0) {c : Nat} (hc : c < pdn d) {A : Nat} : ∀ (m k : Nat), k ≤ c → c - k < m → lf_X11_dinedIn_15 (nI c) (nI (pdn d)) (b2i (pdr d)) dines row m (nI (A + sm (Dc d f τ c) k)) (nI k) = some (nI (A + sm (Dc d f τ c) c)) := by
  intro m
  induction m with
  | zero => intro k h1 h2; omega
  | succ m ih =>
    intro k h1 h2
    rw [lf_X11_dinedIn_15]
    by_cases hk : c ≤ k
    · have : k = c := by omega
      subst this
      rw [qs_t (nI_le hk (by omega))]
    · have hk' : k < pdn d := by omega
      have es : sm (Dc d f τ c) (k + 1) = sm (Dc d f τ c) k + Dc d f τ c k := rfl
      have h0 : nI (A + sm (Dc d f τ c) k) + 0 = nI (A + sm (Dc d f τ c) k) := by show nI _ + nI 0 = _; rw [nI_add]; rfl
      have hi := ih (k + 1) (by omega) (by omega)
      rw [es] at hi
      have hs1 := hst.2.1 c hc
      have hs2 := hst.2.1 k hk'
      rw [qs_f (nI_ge (by omega) (by omega)), qs_lt, next_eq hn hc hk' (by omega)]
      simp (disch := omega) only [qs_cl, qg_in2, qs_lt, nI_1, hrow c hc, hrow k hk', qs_7]
      rw [dm0 hv hs1 hs2, nI_add, h0]
      cases hb : nx d c k
      · have : Dc d f τ c k = 0 := by unfold Dc; rw [if_neg (by rw [hb]; decide)]
        rw [this, Nat.add_zero] at hi
        rw [qs_t (c := b2i false = 0) rfl]
        exact hi
      · have : Dc d f τ c k = f (τ c) (τ k) := by unfold Dc; rw [if_pos hb]
        rw [this] at hi
        rw [qs_f (c := b2i true = 0) (by decide), Nat.add_assoc]
        exact hi
theorem dinedIn_out {d : PD} (hn : pdn d ≤ 7) {τ : Nat → Nat} (hst : ST d τ) {f : Nat → Nat → Nat} {row dines : Nat → Int32} (hrow : RowM d τ row) (hv : DMs d f dines 0) : ∀ (m k : Nat), k ≤ pdn d → pdn d - k < m → lf_X11_dinedIn_4 (nI (pdn d)) (b2i (pdr d)) dines row m (nI (sm (fun c => sm (Dc d f τ c) c) k)) (nI k) = some (nI (sm (fun c => sm (Dc d f τ c) c) (pdn d))) := by
  intro m
  induction m with
  | zero => intro k h1 h2; omega
  | succ m ih =>
    intro k h1 h2
    rw [lf_X11_dinedIn_4]
    by_cases hk : pdn d ≤ k
    · have : k = pdn d := by omega
      subst this
      rw [qs_t (nI_le hk (by omega))]
    · have hk' : k < pdn d := by omega
      have e : lf_X11_dinedIn_15 (nI k) (nI (pdn d)) (b2i (pdr d)) dines row pw_FU (nI (sm (fun c => sm (Dc d f τ c) c) k)) 0 = some (nI (sm (fun c => sm (Dc d f τ c) c) k + sm (Dc d f τ k) k)) := dinedIn_in hn hst hrow hv hk' pw_FU 0 (by omega) (by unfold pw_FU; omega)
      rw [qs_f (nI_ge hk' (by omega)), e, qs_bd, qs_u1, nI_1]
      exact ih (k + 1) (by omega) (by omega)
theorem dinedInM {d : PD} (hn : pdn d ≤ 7) {τ : Nat → Nat} (hst : ST d τ) {f : Nat → Nat → Nat} (hf : DN d f) {row dines : Nat → Int32} (hrow : RowM d τ row) (hv : DMs d f dines 0) : f_X11_dinedIn (nI (pdn d)) (b2i (pdr d)) dines row = some (nI (wD d f τ)) := by
  unfold f_X11_dinedIn
  have e : lf_X11_dinedIn_4 (nI (pdn d)) (b2i (pdr d)) dines row pw_FU 0 0 = some (nI (sm (fun c => sm (Dc d f τ c) c) (pdn d))) := dinedIn_out hn hst hrow hv pw_FU 0 (by omega) (by unfold pw_FU; omega)
  have e2 : sm (fun c => sm (Dc d f τ c) c) (pdn d) = wD d f τ := nb_sum hn (g := fun c e => f (τ c) (τ e)) (fun a b => hf.1 _ _)
  rw [e, qs_bd, qs_u1, e2]
/-! the first best of a list -/
def bet (mx : Bool) (a b : Nat) : Prop := if mx = true then b < a else a < b
def FB (mx : Bool) (wt : (Nat → Nat) → Nat) (P : List (Nat → Nat)) (j : Nat) (τ : Nat → Nat) : Prop := P[j]? = some τ ∧ (∀ (i : Nat) (ρ : Nat → Nat), P[i]? = some ρ → ¬ bet mx (wt ρ) (wt τ)) ∧ ∀ (i : Nat) (ρ : Nat → Nat), i < j → P[i]? = some ρ → bet mx (wt τ) (wt ρ)
theorem FB_uniq {mx : Bool} {wt : (Nat → Nat) → Nat} {P : List (Nat → Nat)} {j j' : Nat} {τ τ' : Nat → Nat} (h : FB mx wt P j τ) (h' : FB mx wt P j' τ') : j = j' ∧ τ = τ' := by
  have : j = j' := by
    rcases Nat.lt_trichotomy j j' with g | g | g
    · exact absurd (h'.2.2 j τ g h.1) (h.2.1 j' τ' h'.1)
    · exact g
    · exact absurd (h.2.2 j' τ' g h'.1) (h'.2.1 j τ h.1)
  subst this
  have := h.1
  rw [h'.1] at this
  exact ⟨rfl, (Option.some.inj this).symm⟩
theorem snoc_at {P : List (Nat → Nat)} {ρ x : Nat → Nat} {i : Nat} (h : (P ++ [ρ])[i]? = some x) : P[i]? = some x ∨ (i = P.length ∧ x = ρ) := by
  rcases Nat.lt_or_ge i P.length with g | g
  · rw [List.getElem?_append_left g] at h; exact Or.inl h
  · rw [List.getElem?_append_right g] at h
    rcases Nat.eq_zero_or_pos (i - P.length) with q | q
    · rw [q] at h
      exact Or.inr ⟨by omega, by simpa using h.symm⟩
    · have : ([ρ] : List (Nat → Nat))[i - P.length]? = none := by rw [List.getElem?_eq_none_iff]; simp; omega
      rw [this] at h; exact absurd h (by simp)
theorem FB_first {mx : Bool} {wt : (Nat → Nat) → Nat} {ρ : Nat → Nat} : FB mx wt ([] ++ [ρ]) 0 ρ := by
  refine ⟨rfl, fun i x h => ?_, fun i x h => absurd h (Nat.not_lt_zero _)⟩
  rcases snoc_at h with g | ⟨_, g⟩
  · exact absurd g (by simp)
  · subst g; unfold bet; split <;> omega
theorem FB_new {mx : Bool} {wt : (Nat → Nat) → Nat} {P : List (Nat → Nat)} {j : Nat} {τ ρ : Nat → Nat} (h : FB mx wt P j τ) (hb : bet mx (wt ρ) (wt τ)) : FB mx wt (P ++ [ρ]) P.length ρ := by
  refine ⟨by simp, fun i x hx => ?_, fun i x hi hx => ?_⟩
  · rcases snoc_at hx with g | ⟨_, g⟩
    · have := h.2.1 i x g
      unfold bet at *
      cases mx <;> simp_all <;> omega
    · subst g; unfold bet; split <;> omega
  · rcases snoc_at hx with g | ⟨g, _⟩
    · have := h.2.1 i x g
      unfold bet at *
      cases mx <;> simp_all <;> omega
    · omega
theorem FB_old {mx : Bool} {wt : (Nat → Nat) → Nat} {P : List (Nat → Nat)} {j : Nat} {τ ρ : Nat → Nat} (h : FB mx wt P j τ) (hb : ¬ bet mx (wt ρ) (wt τ)) : FB mx wt (P ++ [ρ]) j τ := by
  have hj : j < P.length := by
    rcases Nat.lt_or_ge j P.length with g | g
    · exact g
    · have := h.1; rw [List.getElem?_eq_none_iff.mpr g] at this; exact absurd this (by simp)
  refine ⟨by rw [List.getElem?_append_left hj]; exact h.1, fun i x hx => ?_, fun i x hi hx => ?_⟩
  · rcases snoc_at hx with g | ⟨_, g⟩
    · exact h.2.1 i x g
    · subst g; exact hb
  · rcases snoc_at hx with g | ⟨g, _⟩
    · exact h.2.2 i x hi g
    · omega
/-! numbers that stand for better -/
def Sg (mx : Bool) : Int32 := if mx = true then -1 else 1
def Mx (mx : Bool) (w : Nat) : Int32 := if mx = true then nI w else -(nI w)
theorem neg_toInt {w : Nat} (h : w ≤ 1000) : (-(nI w)).toInt = -(w : Int) := by
  have e : -(nI w) = nI 0 - nI w := by show -(nI w) = 0 - nI w; rw [Int32.sub_eq_add_neg, Int32.zero_add]
  rw [e, pk_sub_toInt (by omega) (by omega)]; simp
theorem Sg_le {mx : Bool} {a b : Nat} (ha : a ≤ 1000) (hb : b ≤ 1000) : Sg mx * nI a ≤ Sg mx * nI b ↔ ¬ bet mx b a := by
  have e1 : ∀ w : Nat, (-1 : Int32) * nI w = -(nI w) := fun w => by rw [Int32.neg_mul, Int32.one_mul]
  have e2 : ∀ w : Nat, (1 : Int32) * nI w = nI w := fun w => Int32.one_mul _
  unfold Sg bet
  cases mx
  · simp only [Bool.false_eq_true, if_false]
    rw [e2, e2, nI_leI (by omega) (by omega)]; omega
  · simp only [if_true]
    rw [e1, e1, fa_le, neg_toInt ha, neg_toInt hb]; omega
theorem Mx_le {mx : Bool} {a b : Nat} (ha : a ≤ 1000) (hb : b ≤ 1000) : Mx mx b ≤ Mx mx a ↔ ¬ bet mx b a := by
  unfold Mx bet
  cases mx
  · simp only [Bool.false_eq_true, if_false]
    rw [fa_le, neg_toInt ha, neg_toInt hb]; omega
  · simp only [if_true]
    rw [nI_leI (by omega) (by omega)]; omega
/-! the class's search -/
theorem take_s {d : PD} {k : Nat} {ρ : Nat → Nat} (h : (lawL d)[k]? = some ρ) : (lawL d).take (k + 1) = (lawL d).take k ++ [ρ] := by
  rw [List.take_add_one, h]; rfl
theorem fol_loop {d : PD} (hn : pdn d ≤ 7) {v : Nat → Int32} {N : Nat} (hL : LW d v N) {mx : Bool} {wt : (Nat → Nat) → Nat} (hwt : ∀ τ, wt τ ≤ 1000) {mat : Nat → Int32} (hg : ∀ τ, ST d τ → f_X4_weigh (nI (pk τ)) (b2i (pdr d)) (nI (pdn d)) mat = some (nI (wt τ))) : ∀ (m k : Nat) (l4 l5 : Int32), k ≤ (lawL d).length → (lawL d).length - k < m → ((k = 0 ∧ l4 = -9) ∨ ∃ j τ, l4 = nI j ∧ l5 = Sg mx * nI (wt τ) ∧ FB mx wt ((lawL d).take k) j τ) → ((lawL d).length = 0 ∧ lf_X2_firstOfLeast_10 (Sg mx) (nI (lawL d).length) v N (b2i (pdr d)) (nI (pdn d)) mat m l4 l5 (nI k) = some (-9)) ∨ ∃ j τ, FB mx wt (lawL d) j τ ∧ lf_X2_firstOfLeast_10 (Sg mx) (nI (lawL d).length) v N (b2i (pdr d)) (nI (pdn d)) mat m l4 l5 (nI k) = some (nI j) := by
  have hll := lawL_len hn
  intro m
  induction m with
  | zero => intro k l4 l5 h1 h2; omega
  | succ m ih =>
    intro k l4 l5 h1 h2 hs
    rw [lf_X2_firstOfLeast_10]
    by_cases hk : (lawL d).length ≤ k
    · have : k = (lawL d).length := by omega
      subst this
      rw [qs_t (nI_le hk (by omega))]
      rcases hs with ⟨g1, g2⟩ | ⟨j, τ, g1, g2, g3⟩
      · exact Or.inl ⟨g1, by rw [g2]⟩
      · rw [List.take_length] at g3
        exact Or.inr ⟨j, τ, g3, by rw [g1]⟩
    · have hk' : k < (lawL d).length := by omega
      obtain ⟨ρ, eρ, hr, _⟩ := L_at (d := d) hk'
      rw [qs_f (nI_ge hk' (by omega)), seatOf hL eρ, qs_bd, qs_u1, hg ρ hr, qs_bd, qs_u1, qs_lt, nI_1]
      rcases hs with ⟨g1, g2⟩ | ⟨j, τ, g1, g2, g3⟩
      · subst g1
        rw [g2, qs_t (c := (-9 : Int32) < 0) (by decide)]
        exact ih 1 _ _ (by omega) (by omega) (Or.inr ⟨0, ρ, rfl, rfl, by rw [take_s eρ, List.take_zero]; exact FB_first⟩)
      · have hj : j < k := by
          have := g3.1
          rcases Nat.lt_or_ge j k with q | q
          · exact q
          · rw [List.getElem?_eq_none_iff.mpr (by rw [List.length_take]; omega)] at this; exact absurd this (by simp)
        rw [g1, qs_f (c := nI j < 0) (nI_pos (by omega)), g2]
        by_cases hb : bet mx (wt ρ) (wt τ)
        · rw [qs_f (c := Sg mx * nI (wt τ) ≤ Sg mx * nI (wt ρ)) (fun g => (Sg_le (hwt _) (hwt _)).mp g hb)]
          have hnew := FB_new g3 hb
          rw [← take_s eρ, List.length_take, Nat.min_eq_left (by omega)] at hnew
          exact ih (k + 1) _ _ (by omega) (by omega) (Or.inr ⟨k, ρ, rfl, rfl, hnew⟩)
        · rw [qs_t (c := Sg mx * nI (wt τ) ≤ Sg mx * nI (wt ρ)) ((Sg_le (hwt _) (hwt _)).mpr hb)]
          have hold := FB_old g3 hb
          rw [← take_s eρ] at hold
          exact ih (k + 1) _ _ (by omega) (by omega) (Or.inr ⟨j, τ, rfl, rfl, hold⟩)
theorem folX {d : PD} (hn : pdn d ≤ 7) {v : Nat → Int32} {N : Nat} (hL : LW d v N) {mx : Bool} {wt : (Nat → Nat) → Nat} (hwt : ∀ τ, wt τ ≤ 1000) {mat : Nat → Int32} (hg : ∀ τ, ST d τ → f_X4_weigh (nI (pk τ)) (b2i (pdr d)) (nI (pdn d)) mat = some (nI (wt τ))) : ((lawL d).length = 0 ∧ f_X2_firstOfLeast (Sg mx) (nI (lawL d).length) v N (b2i (pdr d)) (nI (pdn d)) mat = some (-9)) ∨ ∃ j τ, FB mx wt (lawL d) j τ ∧ f_X2_firstOfLeast (Sg mx) (nI (lawL d).length) v N (b2i (pdr d)) (nI (pdn d)) mat = some (nI j) := by
  unfold f_X2_firstOfLeast
  have hll := lawL_len hn
  rcases fol_loop hn hL (mx := mx) hwt hg pw_FU 0 (-9) 0 (by omega) (by unfold pw_FU; omega) (Or.inl ⟨rfl, rfl⟩) with ⟨g1, g2⟩ | ⟨j, τ, g1, g2⟩
  · have g2' : lf_X2_firstOfLeast_10 (Sg mx) (nI (lawL d).length) v N (b2i (pdr d)) (nI (pdn d)) mat pw_FU (-9) 0 0 = some (-9) := g2
    rw [g2', qs_bd, qs_u1]; exact Or.inl ⟨g1, rfl⟩
  · have g2' : lf_X2_firstOfLeast_10 (Sg mx) (nI (lawL d).length) v N (b2i (pdr d)) (nI (pdn d)) mat pw_FU (-9) 0 0 = some (nI j) := g2
    rw [g2', qs_bd, qs_u1]; exact Or.inr ⟨j, τ, g1, rfl⟩
/-! the model's search -/
theorem cpy90 {perm : Nat → Int32} : ∀ (m k : Nat) (found : Nat → Int32), k ≤ 7 → 7 - k < m → (∀ c, c < k → found c = perm c) → ∃ r, lf_X11_layBest_90 1 perm m (nI k) found = some r ∧ ∀ c, c < 7 → r c = perm c := by
  intro m
  induction m with
  | zero => intro k found h1 h2; omega
  | succ m ih =>
    intro k found h1 h2 h3
    rw [lf_X11_layBest_90]
    by_cases hk : 7 ≤ k
    · rw [qs_t (c := (7 : Int32) ≤ nI k) (nI_le (a := 7) hk (by omega))]
      exact ⟨found, rfl, fun c hc => h3 c (by omega)⟩
    · rw [qs_f (c := (7 : Int32) ≤ nI k) (nI_ge (b := 7) (by omega) (by omega)), qs_f (c := (1 : Int32) = 0) (by decide)]
      simp (disch := omega) only [qs_cl, qg_in2, qs_lt, nI_1]
      exact ih (k + 1) _ (by omega) (by omega) (fun c hc => by
        by_cases q : c = k
        · rw [q, pk_us]
        · rw [pk_un q]; exact h3 c (by omega))
theorem cpy90_0 {perm found : Nat → Int32} : lf_X11_layBest_90 0 perm pw_FU 0 found = some found := by
  unfold pw_FU
  rw [lf_X11_layBest_90, qs_f (by decide), qs_t rfl]
def BSt (d : PD) (mx : Bool) (wt : (Nat → Nat) → Nat) (P : List (Nat → Nat)) (l2 fs : Int32) (found : Nat → Int32) : Prop := (P = [] ∧ l2 = 0) ∨ ∃ j τ, l2 = 1 ∧ fs = Mx mx (wt τ) ∧ RowM d τ found ∧ FB mx wt P j τ
section
theorem best_step {d : PD} (hw : PWf d) {pe ro tu ap : Int32} {woman mate quarrel joined worths : Nat → Int32} (hm : PM d pe ro tu ap woman mate quarrel joined worths) {kind : Int32} {dines : Nat → Int32} {mx : Bool} {wt : (Nat → Nat) → Nat} (hwt : ∀ τ, wt τ ≤ 1000) (hsum : ∀ (τ : Nat → Nat) (perm : Nat → Int32) (k21 : Int32 → Option (Int32 × Int32 × (Nat → Int32) × (Nat → Int32))), ST d τ → RowM d τ perm → pw_cd (kind = 0) (pw_bd (f_X11_worthIn (nI (pdn d)) ro worths perm) <| pw_u1 fun r41 => k21 r41) (pw_bd (f_X11_dinedIn (nI (pdn d)) ro dines perm) <| pw_u1 fun r44 => k21 (-r44)) = k21 (Mx mx (wt τ))) {pre suf : List (Nat → Nat)} {τ : Nat → Nat} {m : Nat} {perm found : Nat → Int32} {l2 fs : Int32} (hA : allS d = pre ++ τ :: suf) (hrow : RowM d τ perm) (hs : BSt d mx wt (pre.filter (lawB d)) l2 fs found) {z : Int32} {p' : Nat → Int32} (eg : f_X11_goOn (nI (pdn d)) perm = some (z, p')) : ∃ l2' fs' found', BSt d mx wt ((pre ++ [τ]).filter (lawB d)) l2' fs' found' ∧ lf_X11_layBest_8 kind (nI (pdn d)) ro tu ap woman mate quarrel joined worths dines (m + 1) l2 1 fs perm found = lf_X11_layBest_8 kind (nI (pdn d)) ro tu ap woman mate quarrel joined worths dines m l2' z fs' p' found' := by
  have hst : ST d τ := all_mem.mp (by rw [hA]; simp)
  obtain ⟨r, er, hr⟩ := lawAt hw hm hA hrow
  rw [lf_X11_layBest_8, qs_f (c := (1 : Int32) = 0) (by decide), er, qs_bd, qs_u1, qs_jn]
  simp only [eg, qs_bd, qs_u2]
  rw [List.filter_append]
  rcases hr with ⟨rfl, hl⟩ | ⟨rfl, hl⟩
  · rw [qs_f (c := (1 : Int32) = 0) (by decide), qs_jn, hsum τ perm _ hst hrow, List.filter_cons_of_pos (lawB_iff.mpr hl), List.filter_nil]
    have hcp : ∃ f', lf_X11_layBest_90 1 perm pw_FU 0 found = some f' ∧ RowM d τ f' := by
      obtain ⟨f', e, h⟩ := cpy90 (perm := perm) pw_FU 0 found (by omega) (by unfold pw_FU; omega) (fun c hc => absurd hc (Nat.not_lt_zero _))
      exact ⟨f', e, fun c hc => by rw [h c (by have := hw.1; omega)]; exact hrow c hc⟩
    obtain ⟨f', ef, hf⟩ := hcp
    rcases hs with ⟨g1, rfl⟩ | ⟨j, τ0, rfl, g2, g3, g4⟩
    · rw [qs_t (c := (0 : Int32) = 0) rfl, qs_lt, qs_f (c := (1 : Int32) = 0) (by decide), qs_lt, ef, qs_bd, qs_u1]
      refine ⟨_, _, _, Or.inr ⟨0, τ, rfl, rfl, hf, ?_⟩, rfl⟩
      rw [g1]; exact FB_first
    · rw [qs_f (c := (1 : Int32) = 0) (by decide), g2]
      by_cases hb : bet mx (wt τ) (wt τ0)
      · rw [qs_f (c := Mx mx (wt τ) ≤ Mx mx (wt τ0)) (fun g => (Mx_le (hwt _) (hwt _)).mp g hb), qs_lt, qs_f (c := (1 : Int32) = 0) (by decide), qs_lt, ef, qs_bd, qs_u1]
        exact ⟨_, _, _, Or.inr ⟨_, τ, rfl, rfl, hf, FB_new g4 hb⟩, rfl⟩
      · rw [qs_t (c := Mx mx (wt τ) ≤ Mx mx (wt τ0)) ((Mx_le (hwt _) (hwt _)).mpr hb), qs_lt, qs_t (c := (0 : Int32) = 0) rfl, qs_lt, cpy90_0, qs_bd, qs_u1]
        exact ⟨_, _, _, Or.inr ⟨j, τ0, rfl, rfl, g3, FB_old g4 hb⟩, rfl⟩
  · rw [qs_t (c := (0 : Int32) = 0) rfl, List.filter_cons_of_neg (fun g => hl (lawB_iff.mp g)), List.filter_nil, List.append_nil]
    exact ⟨_, _, _, hs, rfl⟩
theorem best_loop {d : PD} (hw : PWf d) {pe ro tu ap : Int32} {woman mate quarrel joined worths : Nat → Int32} (hm : PM d pe ro tu ap woman mate quarrel joined worths) {kind : Int32} {dines : Nat → Int32} {mx : Bool} {wt : (Nat → Nat) → Nat} (hwt : ∀ τ, wt τ ≤ 1000) (hsum : ∀ (τ : Nat → Nat) (perm : Nat → Int32) (k21 : Int32 → Option (Int32 × Int32 × (Nat → Int32) × (Nat → Int32))), ST d τ → RowM d τ perm → pw_cd (kind = 0) (pw_bd (f_X11_worthIn (nI (pdn d)) ro worths perm) <| pw_u1 fun r41 => k21 r41) (pw_bd (f_X11_dinedIn (nI (pdn d)) ro dines perm) <| pw_u1 fun r44 => k21 (-r44)) = k21 (Mx mx (wt τ))) : ∀ (suf pre : List (Nat → Nat)) (τ : Nat → Nat) (m : Nat) (perm found : Nat → Int32) (l2 fs : Int32), allS d = pre ++ τ :: suf → RowM d τ perm → suf.length + 1 < m → BSt d mx wt (pre.filter (lawB d)) l2 fs found → ∃ l2' fs' found' perm', BSt d mx wt (lawL d) l2' fs' found' ∧ lf_X11_layBest_8 kind (nI (pdn d)) ro tu ap woman mate quarrel joined worths dines m l2 1 fs perm found = some (l2', fs', perm', found') := by
  intro suf
  induction suf with
  | nil =>
    intro pre τ m perm found l2 fs hA hrow hm2 hs
    obtain ⟨m, rfl⟩ : ∃ k, m = k + 2 := ⟨m - 2, by simp only [List.length_nil] at hm2; omega⟩
    rcases goOn_list hw.1 hA hrow with ⟨e, _⟩ | ⟨p', τ', s', _, _, h⟩
    · obtain ⟨l2', fs', f', h1, h2⟩ := best_step hw hm hwt hsum (m := m + 1) hA hrow hs e
      rw [h2, lf_X11_layBest_8, qs_t (c := (0 : Int32) = 0) rfl]
      refine ⟨_, _, _, _, ?_, rfl⟩
      unfold lawL; rw [hA]; exact h1
    · exact absurd h (by simp)
  | cons τ1 suf ih =>
    intro pre τ m perm found l2 fs hA hrow hm2 hs
    obtain ⟨m, rfl⟩ : ∃ k, m = k + 1 := ⟨m - 1, by omega⟩
    rcases goOn_list hw.1 hA hrow with ⟨_, h⟩ | ⟨p', τ', s', e, hr', h⟩
    · exact absurd h (by simp)
    · obtain ⟨rfl, rfl⟩ := List.cons.inj h
      obtain ⟨l2', fs', f', h1, h2⟩ := best_step hw hm hwt hsum (m := m) hA hrow hs e
      rw [h2]
      exact ih (pre ++ [τ]) τ1 m p' f' l2' fs' (by rw [hA]; simp) hr' (by simp only [List.length_cons] at hm2; omega) h1
theorem bestM {d : PD} (hw : PWf d) {pe ro tu ap : Int32} {woman mate quarrel joined worths : Nat → Int32} (hm : PM d pe ro tu ap woman mate quarrel joined worths) {kind : Int32} {dines : Nat → Int32} {mx : Bool} {wt : (Nat → Nat) → Nat} (hwt : ∀ τ, wt τ ≤ 1000) (hsum : ∀ (τ : Nat → Nat) (perm : Nat → Int32) (k21 : Int32 → Option (Int32 × Int32 × (Nat → Int32) × (Nat → Int32))), ST d τ → RowM d τ perm → pw_cd (kind = 0) (pw_bd (f_X11_worthIn (nI (pdn d)) ro worths perm) <| pw_u1 fun r41 => k21 r41) (pw_bd (f_X11_dinedIn (nI (pdn d)) ro dines perm) <| pw_u1 fun r44 => k21 (-r44)) = k21 (Mx mx (wt τ))) (fs : Int32) (perm found : Nat → Int32) : ∃ l2' fs' found' perm', BSt d mx wt (lawL d) l2' fs' found' ∧ f_X11_layBest kind (nI (pdn d)) ro tu ap fs woman mate quarrel joined worths dines perm found = some (l2', fs', perm', found') := by
  unfold f_X11_layBest
  obtain ⟨p, τ, suf, e, h1, h2⟩ := begin_list hw.1 perm
  have hl := all_len hw.1
  obtain ⟨l2', fs', f', p', g1, g2⟩ := best_loop hw hm hwt hsum suf [] τ pw_FU p found 0 fs h2 h1 (by rw [h2] at hl; simp only [List.length_cons] at hl; unfold pw_FU; omega) (Or.inl ⟨rfl, rfl⟩)
  have h01 : l2' = 0 ∨ l2' = 1 := by
    rcases g1 with ⟨_, q⟩ | ⟨_, _, q, _⟩
    · exact Or.inl q
    · exact Or.inr q
  rw [e, qs_bd, qs_u1, g2, qs_bd, qs_u4, qs_g h01]
  exact ⟨_, _, _, _, g1, rfl⟩
theorem sumW {d : PD} (hw : PWf d) {pe ro tu ap : Int32} {woman mate quarrel joined worths : Nat → Int32} (hm : PM d pe ro tu ap woman mate quarrel joined worths) (er : ro = b2i (pdr d)) (dines : Nat → Int32) : ∀ (τ : Nat → Nat) (perm : Nat → Int32) (k21 : Int32 → Option (Int32 × Int32 × (Nat → Int32) × (Nat → Int32))), ST d τ → RowM d τ perm → pw_cd ((0 : Int32) = 0) (pw_bd (f_X11_worthIn (nI (pdn d)) ro worths perm) <| pw_u1 fun r41 => k21 r41) (pw_bd (f_X11_dinedIn (nI (pdn d)) ro dines perm) <| pw_u1 fun r44 => k21 (-r44)) = k21 (Mx true (wW d τ)) := by
  intro τ perm k21 hst hrow
  have mv := hm.2.2.2.2.2.2.2.2
  rw [qs_t (c := (0 : Int32) = 0) rfl, er, worthInM hw.1 hst hrow mv, qs_bd, qs_u1]; rfl
end
theorem sumD {d : PD} (hw : PWf d) {ro : Int32} {worths : Nat → Int32} (er : ro = b2i (pdr d)) {f : Nat → Nat → Nat} (hf : DN d f) {dines : Nat → Int32} (hd : DMs d f dines 0) : ∀ (τ : Nat → Nat) (perm : Nat → Int32) (k21 : Int32 → Option (Int32 × Int32 × (Nat → Int32) × (Nat → Int32))), ST d τ → RowM d τ perm → pw_cd ((1 : Int32) = 0) (pw_bd (f_X11_worthIn (nI (pdn d)) ro worths perm) <| pw_u1 fun r41 => k21 r41) (pw_bd (f_X11_dinedIn (nI (pdn d)) ro dines perm) <| pw_u1 fun r44 => k21 (-r44)) = k21 (Mx false (wD d f τ)) := by
  intro τ perm k21 hst hrow
  rw [qs_f (c := (1 : Int32) = 0) (by decide), er, dinedInM hw.1 hst hf hrow hd, qs_bd, qs_u1]; rfl
theorem none_FB {d : PD} {mx : Bool} {wt : (Nat → Nat) → Nat} {j : Nat} {τ : Nat → Nat} (h : FB mx wt (lawL d) j τ) (h0 : (lawL d).length = 0) : False := by
  have := L_lt h.1; omega
theorem Sim_worthOf_ok : Sim_worthOf Inv := by
  intro s t hI x1 hx01
  obtain ⟨h1, h2, h3, h4, d, σ, f, hw, hx, hm, hst, hdn, hse, hdx, hsm, hdm, hac, hs0, hs1, hla⟩ := id hI
  have hn := hw.1
  have er : sx_guests_round s = b2i (pdr d) := hx.1
  have ep : sx_guests_people s = nI (pdn d) := hx.2.2.2.1
  have em : sm_people t = nI (pdn d) := hm.1
  have em2 : sm_isRound t = b2i (pdr d) := hm.2.1
  have xv := hx.2.2.2.2.2.2.2.2.2
  have mv := hm.2.2.2.2.2.2.2.2
  obtain ⟨v', N', eL, hL⟩ := listX hw hx hla
  have hI' : ∀ a b c, Inv (px_worthOf s 1 (nI (lawL d).length) v' N') (pm_worthOf t a b c) := fun a b c => ⟨h1, h2, h3, h4, d, σ, f, hw, hx, hm, hst, hdn, hse, hdx, hsm, hdm, hac, hs0, hs1, LW_RLaw hL⟩
  unfold f_X10_worthOf f_X11_worthOf
  rw [er, ep] at eL
  by_cases hx0 : x1 = 0
  · rw [qs_nf hx0, qs_nf hx0, er, ep, em, em2, hse, weighW hn hst xv, qs_bd, qs_u1, worthInM hn hst (SMs_row hsm) mv, qs_bd, qs_u1]
    exact ⟨_, _, _, _, _, _, _, _, rfl, rfl, hI⟩
  · obtain ⟨l2', fs', f', p', g1, g2⟩ := bestM hw hm (fun τ => wW_le hw) (sumW hw hm em2 (sm_dines_v t)) (sm_foundSum t) (sm_perm_v t) (sm_found_v t)
    rw [em2] at g2
    rw [qs_nt hx0, qs_nt hx0, er, ep, em, em2, eL, qs_bd, qs_u4, g2, qs_bd, qs_u4]
    rcases folX hn hL (mx := true) (fun τ => wW_le hw) (fun τ ht => weighW hn ht xv) with ⟨q1, q2⟩ | ⟨j, τ, q1, q2⟩
    · have q2' : f_X2_firstOfLeast (-1) (nI (lawL d).length) v' N' (b2i (pdr d)) (nI (pdn d)) (sx_guests_worths_v s) = some (-9) := q2
      rw [q2', qs_bd, qs_u1, qs_f (c := (0 : Int32) ≤ -9) (by decide)]
      rcases g1 with ⟨_, rfl⟩ | ⟨_, _, _, _, _, k⟩
      · rw [qs_t (c := (0 : Int32) = 0) rfl]; exact ⟨_, _, _, _, _, _, _, _, rfl, rfl, hI' _ _ _⟩
      · exact (none_FB k q1).elim
    · have q2' : f_X2_firstOfLeast (-1) (nI (lawL d).length) v' N' (b2i (pdr d)) (nI (pdn d)) (sx_guests_worths_v s) = some (nI j) := q2
      have hj := L_lt q1.1
      have hll := lawL_len hn
      rw [q2', qs_bd, qs_u1, qs_t (c := (0 : Int32) ≤ nI j) (nI_pos' (by omega)), seatOf hL q1.1, qs_bd, qs_u1, weighW hn (L_ST q1.1).1 xv, qs_bd, qs_u1]
      rcases g1 with ⟨k, _⟩ | ⟨j2, τ2, rfl, k2, k3, k4⟩
      · rw [k] at hj; exact absurd hj (by simp)
      · obtain ⟨rfl, rfl⟩ := FB_uniq q1 k4
        rw [qs_f (c := (1 : Int32) = 0) (by decide), k2]; exact ⟨_, _, _, _, _, _, _, _, rfl, rfl, hI' _ _ _⟩
theorem Sim_few_ok : Sim_few Inv := by
  intro s t hI
  obtain ⟨h1, h2, h3, h4, d, σ, f, hw, hx, hm, hst, hdn, hse, hdx, hsm, hdm, hac, hs0, hs1, hla⟩ := id hI
  have hn := hw.1
  have er : sx_guests_round s = b2i (pdr d) := hx.1
  have ep : sx_guests_people s = nI (pdn d) := hx.2.2.2.1
  have em : sm_people t = nI (pdn d) := hm.1
  have em2 : sm_isRound t = b2i (pdr d) := hm.2.1
  obtain ⟨v', N', eL, hL⟩ := listX hw hx hla
  have hI' : ∀ a b c, Inv (px_few s 1 (nI (lawL d).length) v' N') (pm_few t a b c) := fun a b c => ⟨h1, h2, h3, h4, d, σ, f, hw, hx, hm, hst, hdn, hse, hdx, hsm, hdm, hac, hs0, hs1, LW_RLaw hL⟩
  unfold f_X10_few f_X11_few
  rw [er, ep] at eL
  obtain ⟨l2', fs', f', p', g1, g2⟩ := bestM hw hm (fun τ => wD_le hw hdn) (sumD hw em2 hdn hdm) (sm_foundSum t) (sm_perm_v t) (sm_found_v t)
  rw [em2] at g2
  rw [er, ep, em, em2, eL, qs_bd, qs_u4, g2, qs_bd, qs_u4]
  rcases folX hn hL (mx := false) (fun τ => wD_le hw hdn) (fun τ ht => weighD hn ht hdn hdx) with ⟨q1, q2⟩ | ⟨j, τ, q1, q2⟩
  · have q2' : f_X2_firstOfLeast 1 (nI (lawL d).length) v' N' (b2i (pdr d)) (nI (pdn d)) (sx_table_dined_v s) = some (-9) := q2
    rw [q2', qs_bd, qs_u1, qs_f (c := (0 : Int32) ≤ -9) (by decide)]
    rcases g1 with ⟨_, rfl⟩ | ⟨_, _, _, _, _, k⟩
    · rw [qs_t (c := (0 : Int32) = 0) rfl]; exact ⟨_, _, _, _, _, _, _, _, rfl, rfl, hI' _ _ _⟩
    · exact (none_FB k q1).elim
  · have q2' : f_X2_firstOfLeast 1 (nI (lawL d).length) v' N' (b2i (pdr d)) (nI (pdn d)) (sx_table_dined_v s) = some (nI j) := q2
    have hj := L_lt q1.1
    have hll := lawL_len hn
    rw [q2', qs_bd, qs_u1, qs_t (c := (0 : Int32) ≤ nI j) (nI_pos' (by omega)), seatOf hL q1.1, qs_bd, qs_u1, weighD hn (L_ST q1.1).1 hdn hdx, qs_bd, qs_u1]
    rcases g1 with ⟨k, _⟩ | ⟨j2, τ2, rfl, k2, k3, k4⟩
    · rw [k] at hj; exact absurd hj (by simp)
    · obtain ⟨rfl, rfl⟩ := FB_uniq q1 k4
      have e : -(Mx false (wD d f τ)) = nI (wD d f τ) := by show -(-(nI (wD d f τ))) = _; simp
      rw [qs_f (c := (1 : Int32) = 0) (by decide), k2, e]; exact ⟨_, _, _, _, _, _, _, _, rfl, rfl, hI' _ _ _⟩
theorem personBy_in {d : PD} (hn : pdn d ≤ 7) {v : Nat → Int32} {N : Nat} (hL : LW d v N) {j : Nat} {τ : Nat → Nat} (h : (lawL d)[j]? = some τ) {p : Nat} (hp : p < pdn d) : f_X2_personBy (nI j) (nI p) (nI (lawL d).length) v N = some (nI (τ p)) := by
  unfold f_X2_personBy
  rw [qs_lt, hasRank_in hn h, qs_f (c := (1 : Int32) = 0) (by decide), seatOf hL h, qs_bd, qs_u1, qs_lt, on_pk (ST_lt8 hn (L_ST h).1) (by omega)]
theorem personBy_out {x n : Int32} {v : Nat → Int32} {N : Nat} : f_X2_personBy (-9) x n v N = some (-9) := by
  unfold f_X2_personBy f_X2_hasRank
  rw [qs_t (c := (-9 : Int32) < 0) (by decide), qs_lt, qs_t (c := (0 : Int32) = 0) rfl]
theorem Sim_bestAt_ok : Sim_bestAt Inv := by
  intro s t hI x1
  obtain ⟨h1, h2, h3, h4, d, σ, f, hw, hx, hm, hst, hdn, hse, hdx, hsm, hdm, hac, hs0, hs1, hla⟩ := id hI
  have hn := hw.1
  have er : sx_guests_round s = b2i (pdr d) := hx.1
  have ep : sx_guests_people s = nI (pdn d) := hx.2.2.2.1
  have em : sm_people t = nI (pdn d) := hm.1
  have em2 : sm_isRound t = b2i (pdr d) := hm.2.1
  have xv := hx.2.2.2.2.2.2.2.2.2
  obtain ⟨v', N', eL, hL⟩ := listX hw hx hla
  have hI' : ∀ a b c, Inv (px_bestAt s 1 (nI (lawL d).length) v' N') (pm_bestAt t a b c) := fun a b c => ⟨h1, h2, h3, h4, d, σ, f, hw, hx, hm, hst, hdn, hse, hdx, hsm, hdm, hac, hs0, hs1, LW_RLaw hL⟩
  unfold f_X10_bestAt f_X11_bestAt
  rw [er, ep] at eL
  obtain ⟨l2', fs', f', p', g1, g2⟩ := bestM hw hm (fun τ => wW_le hw) (sumW hw hm em2 (sm_dines_v t)) (sm_foundSum t) (sm_perm_v t) (sm_found_v t)
  rw [em2] at g2
  rw [er, ep, em, em2, isP_eq x1 hn, qs_bd, qs_u1, qs_lt]
  rcases hp_cases x1 hn with ⟨p, hp, rfl⟩ | h
  · rw [hp_in hp hn, qs_nt (c := (1 : Int32) = 0) (by decide), qs_nt (c := (1 : Int32) = 0) (by decide), eL, qs_bd, qs_u4, g2, qs_bd, qs_u4]
    rcases folX hn hL (mx := true) (fun τ => wW_le hw) (fun τ ht => weighW hn ht xv) with ⟨q1, q2⟩ | ⟨j, τ, q1, q2⟩
    · have q2' : f_X2_firstOfLeast (-1) (nI (lawL d).length) v' N' (b2i (pdr d)) (nI (pdn d)) (sx_guests_worths_v s) = some (-9) := q2
      rw [q2', qs_bd, qs_u1, personBy_out, qs_bd, qs_u1]
      rcases g1 with ⟨_, rfl⟩ | ⟨_, _, _, _, _, k⟩
      · rw [qs_t (c := (0 : Int32) = 0) rfl]; exact ⟨_, _, _, _, _, _, _, _, rfl, rfl, hI' _ _ _⟩
      · exact (none_FB k q1).elim
    · have q2' : f_X2_firstOfLeast (-1) (nI (lawL d).length) v' N' (b2i (pdr d)) (nI (pdn d)) (sx_guests_worths_v s) = some (nI j) := q2
      have hj := L_lt q1.1
      rw [q2', qs_bd, qs_u1, personBy_in hn hL q1.1 hp, qs_bd, qs_u1]
      rcases g1 with ⟨k, _⟩ | ⟨j2, τ2, rfl, k2, k3, k4⟩
      · rw [k] at hj; exact absurd hj (by simp)
      · obtain ⟨rfl, rfl⟩ := FB_uniq q1 k4
        rw [qs_f (c := (1 : Int32) = 0) (by decide)]
        simp (disch := omega) only [qs_cl, qg_in2, k3 p hp]
        exact ⟨_, _, _, _, _, _, _, _, rfl, rfl, hI' _ _ _⟩
  · rw [hp_out hn h, qs_nf (c := (0 : Int32) = 0) rfl, qs_nf (c := (0 : Int32) = 0) rfl]
    exact ⟨_, _, _, _, _, _, _, _, rfl, rfl, hI⟩
theorem Sim_fewAt_ok : Sim_fewAt Inv := by
  intro s t hI x1
  obtain ⟨h1, h2, h3, h4, d, σ, f, hw, hx, hm, hst, hdn, hse, hdx, hsm, hdm, hac, hs0, hs1, hla⟩ := id hI
  have hn := hw.1
  have er : sx_guests_round s = b2i (pdr d) := hx.1
  have ep : sx_guests_people s = nI (pdn d) := hx.2.2.2.1
  have em : sm_people t = nI (pdn d) := hm.1
  have em2 : sm_isRound t = b2i (pdr d) := hm.2.1
  obtain ⟨v', N', eL, hL⟩ := listX hw hx hla
  have hI' : ∀ a b c, Inv (px_fewAt s 1 (nI (lawL d).length) v' N') (pm_fewAt t a b c) := fun a b c => ⟨h1, h2, h3, h4, d, σ, f, hw, hx, hm, hst, hdn, hse, hdx, hsm, hdm, hac, hs0, hs1, LW_RLaw hL⟩
  unfold f_X10_fewAt f_X11_fewAt
  rw [er, ep] at eL
  obtain ⟨l2', fs', f', p', g1, g2⟩ := bestM hw hm (fun τ => wD_le hw hdn) (sumD hw em2 hdn hdm) (sm_foundSum t) (sm_perm_v t) (sm_found_v t)
  rw [em2] at g2
  rw [er, ep, em, em2, isP_eq x1 hn, qs_bd, qs_u1, qs_lt]
  rcases hp_cases x1 hn with ⟨p, hp, rfl⟩ | h
  · rw [hp_in hp hn, qs_nt (c := (1 : Int32) = 0) (by decide), qs_nt (c := (1 : Int32) = 0) (by decide), eL, qs_bd, qs_u4, g2, qs_bd, qs_u4]
    rcases folX hn hL (mx := false) (fun τ => wD_le hw hdn) (fun τ ht => weighD hn ht hdn hdx) with ⟨q1, q2⟩ | ⟨j, τ, q1, q2⟩
    · have q2' : f_X2_firstOfLeast 1 (nI (lawL d).length) v' N' (b2i (pdr d)) (nI (pdn d)) (sx_table_dined_v s) = some (-9) := q2
      rw [q2', qs_bd, qs_u1, personBy_out, qs_bd, qs_u1]
      rcases g1 with ⟨_, rfl⟩ | ⟨_, _, _, _, _, k⟩
      · rw [qs_t (c := (0 : Int32) = 0) rfl]; exact ⟨_, _, _, _, _, _, _, _, rfl, rfl, hI' _ _ _⟩
      · exact (none_FB k q1).elim
    · have q2' : f_X2_firstOfLeast 1 (nI (lawL d).length) v' N' (b2i (pdr d)) (nI (pdn d)) (sx_table_dined_v s) = some (nI j) := q2
      have hj := L_lt q1.1
      rw [q2', qs_bd, qs_u1, personBy_in hn hL q1.1 hp, qs_bd, qs_u1]
      rcases g1 with ⟨k, _⟩ | ⟨j2, τ2, rfl, k2, k3, k4⟩
      · rw [k] at hj; exact absurd hj (by simp)
      · obtain ⟨rfl, rfl⟩ := FB_uniq q1 k4
        rw [qs_f (c := (1 : Int32) = 0) (by decide)]
        simp (disch := omega) only [qs_cl, qg_in2, k3 p hp]
        exact ⟨_, _, _, _, _, _, _, _, rfl, rfl, hI' _ _ _⟩
  · rw [hp_out hn h, qs_nf (c := (0 : Int32) = 0) rfl, qs_nf (c := (0 : Int32) = 0) rfl]
    exact ⟨_, _, _, _, _, _, _, _, rfl, rfl, hI⟩
