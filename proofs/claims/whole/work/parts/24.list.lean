/-! ===== the class lists all lawful seatings ===== -/
theorem qs_nt {α : Type} {c : Prop} [Decidable c] (h : ¬ c) (a b : α) : pw_cd (¬ c) a b = a := if_pos h
theorem qs_nf {α : Type} {c : Prop} [Decidable c] (h : c) (a b : α) : pw_cd (¬ c) a b = b := if_neg (fun g => g h)
theorem gen_part {n k c : Nat} {σ : Nat → Nat} (hc : c + (k + 1) = n) (hp : Pre n c σ) : ∀ m, m ≤ n → ((List.range m).flatMap (fun p => if sea σ c p = true then [] else gen n k (c + 1) (upN σ c p))).length ≤ cnt (fun p => !sea σ c p) m * fct k := by
  intro m
  induction m with
  | zero => intro _; exact Nat.le_of_eq (by simp [cnt])
  | succ m ihm =>
    intro hm
    rw [List.range_succ, List.flatMap_append, List.length_append]
    have e : cnt (fun p => !sea σ c p) (m + 1) = cnt (fun p => !sea σ c p) m + (if (!sea σ c m) = true then 1 else 0) := rfl
    rw [e, Nat.add_mul]
    have h1 := ihm (by omega)
    have h2 : ([m].flatMap (fun p => if sea σ c p = true then [] else gen n k (c + 1) (upN σ c p))).length ≤ (if (!sea σ c m) = true then 1 else 0) * fct k := by
      rw [List.flatMap_singleton]
      by_cases hs : sea σ c m = true
      · rw [if_pos hs]; exact Nat.zero_le _
      · rw [if_neg hs, if_pos (by simpa using hs), Nat.one_mul]
        exact gen_len k (c + 1) _ (by omega) (Pre_up hp (by omega) hs)
    omega
def Arr (L : List (Nat → Nat)) (v : Nat → Int32) : Prop := ∀ (j : Nat) (τ : Nat → Nat), L[j]? = some τ → v j = nI (pk τ)
theorem Arr_snoc {L : List (Nat → Nat)} {v : Nat → Int32} (h : Arr L v) (τ : Nat → Nat) : Arr (L ++ [τ]) (upd v L.length (nI (pk τ))) := by
  intro j ρ hj
  by_cases hl : j < L.length
  · rw [pk_un (by omega)]
    rw [List.getElem?_append_left hl] at hj
    exact h j ρ hj
  · rw [List.getElem?_append_right (by omega)] at hj
    by_cases he : j = L.length
    · subst he
      rw [Nat.sub_self] at hj
      have : τ = ρ := by simpa using hj
      rw [pk_us, this]
    · have : ([τ] : List (Nat → Nat))[j - L.length]? = none := by
        rw [List.getElem?_eq_none_iff]; simp; omega
      rw [this] at hj; exact absurd hj (by simp)
theorem addL {L : List (Nat → Nat)} {v : Nat → Int32} {N : Nat} (h : Arr L v) (hN : L.length < N) (hN2 : N ≤ 5040) (τ : Nat → Nat) : f_X2_add (nI (pk τ)) (nI L.length) v N = some (nI (L ++ [τ]).length, upd v L.length (nI (pk τ))) := by
  unfold f_X2_add
  rw [qs_f (nI_pos (by omega)), qs_lt, qs_f (nI_ge hN (by omega))]
  simp (disch := omega) only [qs_cl, qg_in2, qs_lt, nI_1]
  rw [List.length_append]; rfl
def Gp (d : PD) (σ : Nat → Nat) (c k p : Nat) : List (Nat → Nat) := (List.range p).flatMap (fun p => if sea σ c p = true then [] else gen (pdn d) k (c + 1) (upN σ c p))
theorem Gp_s {d : PD} {σ : Nat → Nat} {c k p : Nat} : (Gp d σ c k (p + 1)).filter (lawB d) = (Gp d σ c k p).filter (lawB d) ++ (if sea σ c p = true then [] else gen (pdn d) k (c + 1) (upN σ c p)).filter (lawB d) := by
  unfold Gp
  rw [List.range_succ, List.flatMap_append, List.flatMap_singleton, List.filter_append]
theorem barred_none {d : PD} {σ : Nat → Nat} {c k p : Nat} (hck : c + (k + 1) = pdn d) (hp : Pre (pdn d) c σ) (hpn : p < pdn d) (hc : 0 < c) (hs : ¬ sea σ c p = true) (hb : pdb d (σ (c - 1)) p = true) : (gen (pdn d) k (c + 1) (upN σ c p)).filter (lawB d) = [] := by
  rw [List.filter_eq_nil_iff]
  intro τ hm hl
  obtain ⟨h1, h2⟩ := (gen_mem k (c + 1) _ (by omega) (Pre_up hp hpn hs) τ).mp hm
  have hst : ST d τ := h1
  have hlaw := lawB_iff.mp hl
  have e1 : τ (c - 1) = σ (c - 1) := by rw [h2 (c - 1) (by omega)]; unfold upN; rw [if_neg (by omega)]
  have e2 : τ c = p := by rw [h2 c (by omega)]; unfold upN; rw [if_pos rfl]
  have hadj : adj d τ (σ (c - 1)) p = true := adj_iff.mpr ⟨c - 1, c, by omega, by omega, nx_iff.mpr (Or.inl (by omega)), e1, e2⟩
  rw [hlaw.1 _ _ hadj] at hb
  exact absurd hb (by decide)
theorem Pre_Dg {n c : Nat} {σ : Nat → Nat} (hn : n ≤ 7) (h : Pre n c σ) : Dg σ := fun e => by
  rcases Nat.lt_or_ge e c with g | g
  · have := h.2.1 e g; omega
  · rw [h.1 e g]; omega
theorem sea_bits {n c p : Nat} {σ : Nat → Nat} {mask : Int32} (hp : p < 7) (hm : ∀ i, i < 32 → bt mask i = sea σ c i) : ∀ i, i < 32 → bt (mask ||| ((1 : Int32) <<< (nI p &&& 31))) i = sea (upN σ c p) (c + 1) i := by
  intro i hi
  rw [b_or, hm i hi, b_1shl p (by omega) i hi, Bool.eq_iff_iff, sea_iff, Bool.or_eq_true, sea_iff, decide_eq_true_eq]
  constructor
  · rintro (⟨e, he, g⟩ | g)
    · exact ⟨e, by omega, by unfold upN; rw [if_neg (by omega)]; exact g⟩
    · exact ⟨c, by omega, by unfold upN; rw [if_pos rfl]; exact g.symm⟩
  · rintro ⟨e, he, g⟩
    unfold upN at g
    by_cases q : e = c
    · rw [if_pos q] at g; exact Or.inr g.symm
    · rw [if_neg q] at g; exact Or.inl ⟨e, by omega, g⟩
def SeatOK (d : PD) (tog bar : Int64) (D : Nat) : Prop := ∀ (k c : Nat) (σ : Nat → Nat) (mask : Int32) (L : List (Nat → Nat)) (v : Nat → Int32) (N : Nat), k < D → c + k = pdn d → Pre (pdn d) c σ → (∀ i, i < 32 → bt mask i = sea σ c i) → Arr L v → L.length + fct k ≤ N → N ≤ 5040 → ∃ v', f_X2_seatFrom D (nI c) mask (nI (pk σ)) (nI L.length) v N (b2i (pdr d)) (nI (pdn d)) tog bar = some (nI (L ++ (gen (pdn d) k c σ).filter (lawB d)).length, v') ∧ Arr (L ++ (gen (pdn d) k c σ).filter (lawB d)) v'
theorem seat_loop {d : PD} (hw : PWf d) {tog bar : Int64} {D k c : Nat} {σ : Nat → Nat} {mask blk : Int32} {L : List (Nat → Nat)} {N : Nat} (hD : SeatOK d tog bar D) (hk : k < D) (hck : c + (k + 1) = pdn d) (hp : Pre (pdn d) c σ) (hm : ∀ i, i < 32 → bt mask i = sea σ c i) (hbl : ∀ i, i < 7 → bt blk i = (sea σ c i || (decide (0 < c) && pdb d (σ (c - 1)) i))) (hN : L.length + fct (k + 1) ≤ N) (hN2 : N ≤ 5040) : ∀ (m p : Nat) (v : Nat → Int32), p ≤ pdn d → pdn d - p < m → Arr (L ++ (Gp d σ c k p).filter (lawB d)) v → ∃ v', lf_X2_seatFrom_60 (f_X2_seatFrom D) (nI c) mask (nI (pk σ)) blk N (b2i (pdr d)) (nI (pdn d)) tog bar m (nI p) (nI (L ++ (Gp d σ c k p).filter (lawB d)).length) v = some (nI (L ++ (Gp d σ c k (pdn d)).filter (lawB d)).length, v') ∧ Arr (L ++ (Gp d σ c k (pdn d)).filter (lawB d)) v' := by
  have hn := hw.1
  intro m
  induction m with
  | zero => intro p v h1 h2; omega
  | succ m ih =>
    intro p v h1 h2 ha
    rw [lf_X2_seatFrom_60]
    by_cases hpn : pdn d ≤ p
    · have : p = pdn d := by omega
      subst this
      rw [qs_t (nI_le hpn (by omega))]
      exact ⟨v, rfl, ha⟩
    · have hpn' : p < pdn d := by omega
      rw [qs_f (nI_ge hpn' (by omega)), qs_f (c := (7 : Int32) ≤ nI p) (nI_ge (b := 7) (by omega) (by omega)), nI_1]
      have hb := hbl p (by omega)
      by_cases hs : sea σ c p = true
      · have e1 : bt blk p = true := by rw [hb, hs]; rfl
        rw [qs_nt (fun g => by rw [bt_1 blk (by omega), e1] at g; exact absurd g (by decide))]
        have hi := ih (p + 1) v (by omega) (by omega)
        rw [Gp_s, if_pos hs, List.filter_nil, List.append_nil] at hi
        exact hi ha
      · by_cases hbar : 0 < c ∧ pdb d (σ (c - 1)) p = true
        · have e1 : bt blk p = true := by rw [hb]; simp [hbar.1, hbar.2]
          rw [qs_nt (fun g => by rw [bt_1 blk (by omega), e1] at g; exact absurd g (by decide))]
          have hi := ih (p + 1) v (by omega) (by omega)
          rw [Gp_s, if_neg hs, barred_none hck hp hpn' hbar.1 hs hbar.2, List.append_nil] at hi
          exact hi ha
        · have e1 : bt blk p = false := by
            rw [hb]
            have : sea σ c p = false := by simpa using hs
            rw [this]
            by_cases q : 0 < c
            · have : pdb d (σ (c - 1)) p = false := by
                cases hh : pdb d (σ (c - 1)) p
                · rfl
                · exact absurd ⟨q, hh⟩ hbar
              rw [this]; simp
            · simp [q]
          rw [qs_nf ((bt_1 blk (by omega)).mpr e1), qs_lt, wi_pk (Pre_Dg hn hp) (by omega) (by omega)]
          have hroom : (L ++ (Gp d σ c k p).filter (lawB d)).length + fct k ≤ N := by
            rw [List.length_append]
            have r1 := gen_part hck hp p (by omega)
            have r2 : ((Gp d σ c k p).filter (lawB d)).length ≤ (Gp d σ c k p).length := List.length_filter_le _ _
            have r3 : cnt (fun p => !sea σ c p) (p + 1) = cnt (fun p => !sea σ c p) p + 1 := by
              show cnt (fun p => !sea σ c p) p + (if (!sea σ c p) = true then 1 else 0) = _
              rw [if_pos (by simpa using hs)]
            have r4 := cnt_mono (fun p => !sea σ c p) (show p + 1 ≤ pdn d by omega)
            have r5 := cnt_neg (fun p => sea σ c p) (pdn d)
            rw [sea_cnt hp] at r5
            have r6 : (cnt (fun p => !sea σ c p) p + 1) * fct k ≤ (k + 1) * fct k := Nat.mul_le_mul_right _ (by omega)
            rw [Nat.add_mul, Nat.one_mul] at r6
            have r7 : fct (k + 1) = (k + 1) * fct k := rfl
            have r8 : (Gp d σ c k p).length ≤ cnt (fun p => !sea σ c p) p * fct k := r1
            omega
          obtain ⟨v1, e2, h3⟩ := hD k (c + 1) (upN σ c p) (mask ||| ((1 : Int32) <<< (nI p &&& 31))) (L ++ (Gp d σ c k p).filter (lawB d)) v N hk (by omega) (Pre_up hp hpn' hs) (sea_bits (n := pdn d) (by omega) hm) ha hroom hN2
          rw [nI_1, e2, qs_bd, qs_u2]
          have hi := ih (p + 1) v1 (by omega) (by omega)
          rw [Gp_s, if_neg hs, ← List.append_assoc] at hi
          exact hi h3
theorem seat_ok {d : PD} (hw : PWf d) {tog bar : Int64} (ht : Mt tog (pdg d)) (hb : Mt bar (pdb d)) : ∀ D, SeatOK d tog bar D := by
  have hn := hw.1
  intro D
  induction D with
  | zero => intro k c σ mask L v N h; omega
  | succ D ih =>
    intro k c σ mask L v N hk hck hp hm ha hN hN2
    rw [f_X2_seatFrom, qs_jn]
    cases k with
    | zero =>
      have hcn : c = pdn d := by omega
      subst hcn
      have hst : ST d σ := hp
      rw [qs_t (nI_le (Nat.le_refl _) (by omega))]
      obtain ⟨r, er, hr⟩ := lawX hw hst ht hb
      simp only [er, qs_bd, qs_u1]
      have eg : gen (pdn d) 0 (pdn d) σ = [σ] := rfl
      rw [eg]
      rcases hr with ⟨rfl, hl⟩ | ⟨rfl, hl⟩
      · rw [qs_f (c := (1 : Int32) = 0) (by decide), addL ha (by unfold fct at hN; omega) hN2, qs_bd, qs_u2]
        have : [σ].filter (lawB d) = [σ] := by rw [List.filter_cons_of_pos (lawB_iff.mpr hl), List.filter_nil]
        rw [this]
        exact ⟨_, rfl, Arr_snoc ha σ⟩
      · rw [qs_t (c := (0 : Int32) = 0) rfl]
        have : [σ].filter (lawB d) = [] := by rw [List.filter_cons_of_neg (fun g => hl (lawB_iff.mp g)), List.filter_nil]
        rw [this, List.append_nil]
        exact ⟨v, rfl, ha⟩
    | succ k =>
      rw [qs_f (nI_ge (a := c) (by omega) (by omega)), qs_t (c := nI c < 7) (nI_lt (b := 7) (by omega) (by omega)), qs_jn]
      have eg : gen (pdn d) (k + 1) c σ = Gp d σ c k (pdn d) := rfl
      rw [eg]
      have hfin : ∀ blk : Int32, (∀ i, i < 7 → bt blk i = (sea σ c i || (decide (0 < c) && pdb d (σ (c - 1)) i))) → ∃ v', (pw_bd (lf_X2_seatFrom_60 (f_X2_seatFrom D) (nI c) mask (nI (pk σ)) blk N (b2i (pdr d)) (nI (pdn d)) tog bar pw_FU 0 (nI L.length) v) <| pw_u2 fun y33 y34 => some (y33, y34)) = some (nI (L ++ (Gp d σ c k (pdn d)).filter (lawB d)).length, v') ∧ Arr (L ++ (Gp d σ c k (pdn d)).filter (lawB d)) v' := by
        intro blk hbl
        have e0 : (Gp d σ c k 0).filter (lawB d) = [] := rfl
        obtain ⟨v', e, h⟩ := seat_loop hw ih (by omega) hck hp hm hbl hN hN2 pw_FU 0 v (by omega) (by unfold pw_FU; omega) (by rw [e0, List.append_nil]; exact ha)
        rw [e0, List.append_nil] at e
        have e' : lf_X2_seatFrom_60 (f_X2_seatFrom D) (nI c) mask (nI (pk σ)) blk N (b2i (pdr d)) (nI (pdn d)) tog bar pw_FU 0 (nI L.length) v = some (nI (L ++ (Gp d σ c k (pdn d)).filter (lawB d)).length, v') := e
        rw [e', qs_bd, qs_u2]
        exact ⟨v', rfl, h⟩
      rcases Nat.eq_zero_or_pos c with h0 | h0
      · subst h0
        rw [qs_t (c := nI 0 ≤ 0) (by decide)]
        exact hfin mask (fun i hi => by rw [hm i (by omega)]; simp)
      · rw [qs_f (c := nI c ≤ 0) (nI_nle h0 (by omega)), nI_sub1 h0, on_pk (Pre_Dg hn hp) (by omega), qs_lt, qs_lt, qs_lt]
        have hs := hp.2.1 (c - 1) (by omega)
        refine hfin _ (fun i hi => ?_)
        rw [b_or, hm i (by omega), Mt_row hb (by omega) (by omega)]
        have : i < 8 := by omega
        simp [h0, this]
theorem fac_v : ∀ n, n ≤ 7 → pw_facv n = nI (fct n) := by decide
theorem fct_pos : ∀ n, 1 ≤ fct n := by
  intro n
  induction n with
  | zero => exact Nat.le_refl _
  | succ n ih => show 1 ≤ (n + 1) * fct n; exact Nat.le_trans ih (Nat.le_mul_of_pos_left _ (by omega))
theorem many_eq {n : Nat} (hn : n ≤ 7) : f_X7_howMany (nI n) = some (nI (fct n)) := by
  unfold f_X7_howMany
  rw [qs_and7 (by omega), Nat.mod_eq_of_lt (by omega)]
  simp (disch := omega) only [qs_cl, qg_in2]
  rw [fac_v n hn]
def LW (d : PD) (v : Nat → Int32) (N : Nat) : Prop := 1 ≤ N ∧ N ≤ 5040 ∧ (lawL d).length ≤ N ∧ Arr (lawL d) v
theorem LW_RLaw {d : PD} {v : Nat → Int32} {N : Nat} (h : LW d v N) : RLaw d v N 1 (nI (lawL d).length) := ⟨h.1, h.2.1, Or.inr ⟨rfl, h.2.2.1, rfl, h.2.2.2⟩⟩
theorem listX {d : PD} (hw : PWf d) {v : Nat → Int32} {N : Nat} {listed size ro tu ap pe wo : Int32} {co qu to ba : Int64} {worths : Nat → Int32} (hx : PX d ro tu ap pe wo co qu to ba worths) (hl : RLaw d v N listed size) : ∃ v' N', f_X2_list listed size v N ro pe to ba = some (1, nI (lawL d).length, v', N') ∧ LW d v' N' := by
  have hn := hw.1
  obtain ⟨er, _, _, ep, _, _, _, hto, hba, _⟩ := hx
  obtain ⟨hN1, hN2, h | ⟨h1, h2, h3, h4⟩⟩ := hl
  · unfold f_X2_list
    rw [h, qs_t rfl, er, ep, many_eq hn, qs_bd, qs_u1, qs_lt, qs_jn]
    have hf := fct_le _ hn
    have hf1 := fct_pos (pdn d)
    have key : ∀ (v0 : Nat → Int32) (N0 : Nat), fct (pdn d) ≤ N0 → N0 ≤ 5040 → ∃ v', (pw_bd (f_X2_seatFrom 9 0 0 0 0 v0 N0 (b2i (pdr d)) (nI (pdn d)) to ba) <| pw_u2 fun o15 o16 => some ((1 : Int32), o15, o16, N0)) = some (1, nI (lawL d).length, v', N0) ∧ LW d v' N0 := by
      intro v0 N0 g1 g2
      obtain ⟨v', e, h⟩ := seat_ok hw hto hba 9 (pdn d) 0 (fun _ => 0) 0 [] v0 N0 (by omega) (by omega) Pre_0 (fun i hi => by rw [b_0]; rfl) (fun j τ hj => by simp at hj) (by simpa using g1) g2
      have e' : f_X2_seatFrom 9 0 0 0 0 v0 N0 (b2i (pdr d)) (nI (pdn d)) to ba = some (nI ([] ++ (gen (pdn d) (pdn d) 0 (fun _ => 0)).filter (lawB d)).length, v') := e
      rw [e', qs_bd, qs_u2]
      refine ⟨v', rfl, by omega, g2, ?_, h⟩
      refine Nat.le_trans (List.length_filter_le _ _) (Nat.le_trans (gen_len _ 0 _ (by omega) Pre_0) g1)
    by_cases hc : fct (pdn d) ≤ N
    · rw [qs_t (nI_le hc (by omega))]
      obtain ⟨v', e, h⟩ := key v N hc hN2
      exact ⟨v', N, e, h⟩
    · rw [qs_f (nI_ge (by omega) (by omega)), qs_cl (by omega), qs_g ⟨nI_pos (by omega), hf⟩]
      obtain ⟨v', e, h⟩ := key (fun _ => 0) (fct (pdn d)) (Nat.le_refl _) hf
      exact ⟨v', _, e, h⟩
  · unfold f_X2_list
    rw [h1, qs_f (c := (1 : Int32) = 0) (by decide), h3]
    exact ⟨v, N, rfl, hN1, hN2, h2, h4⟩
