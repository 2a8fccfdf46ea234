/-! ===== the text read, sign by sign (the class) ===== -/
def TX (L : Nat) (sg tx : Nat → Int32) : Prop := ∀ j, j < L → ∃ v, v < 256 ∧ sg j = nI v ∧ tx j = nI v
theorem clE {L : Nat} (hL : L ≤ 64) {sg : Nat → Int32} (m : Nat) (st ki fi se ro tu ap pe wo : Int32) (co qu to : Int64) (wv : Nat → Int32) : lf_X5_faultOf_11 (nI L) sg (m + 1) (nI L) st ki fi se ro tu ap pe wo co qu to wv = some (.inr (st, ki, fi, se, ro, tu, ap, pe, wo, co, qu, to, wv)) := by
  rw [lf_X5_faultOf_11, qs_t (nI_le (Nat.le_refl L) (by omega))]
theorem clS {L : Nat} (hL : L ≤ 64) {sg : Nat → Int32} {k : Nat} (hk : k < L) {v : Nat} (hv : sg k = nI v) (m : Nat) {st ki fi se ro tu ap pe wo : Int32} {co qu to : Int64} {wv : Nat → Int32} {st' ki' fi' se' ro' tu' ap' pe' wo' : Int32} {co' qu' to' : Int64} {wv' : Nat → Int32} (h : f_X5_accepts (nI v) st ki fi se ro tu ap pe wo co qu to wv = some (1, st', ki', fi', se', ro', tu', ap', pe', wo', co', qu', to', wv')) : lf_X5_faultOf_11 (nI L) sg (m + 1) (nI k) st ki fi se ro tu ap pe wo co qu to wv = lf_X5_faultOf_11 (nI L) sg m (nI (k + 1)) st' ki' fi' se' ro' tu' ap' pe' wo' co' qu' to' wv' := by
  rw [lf_X5_faultOf_11, qs_f (nI_ge hk (by omega)), qs_lt, qs_f (c := (64 : Int32) ≤ nI k) (nI_ge (b := 64) (by omega) (by omega))]
  simp (disch := omega) only [qs_cl, qg_in2, hv]
  rw [h, qs_bd, qs_u14, qs_nt (c := (1 : Int32) = 0) (by decide), nI_1]
theorem clF {L : Nat} (hL : L ≤ 64) {sg : Nat → Int32} {k : Nat} (hk : k < L) {v : Nat} (hv : sg k = nI v) (m : Nat) {st ki fi se ro tu ap pe wo : Int32} {co qu to : Int64} {wv : Nat → Int32} {st' ki' fi' se' ro' tu' ap' pe' wo' : Int32} {co' qu' to' : Int64} {wv' : Nat → Int32} (h : f_X5_accepts (nI v) st ki fi se ro tu ap pe wo co qu to wv = some (0, st', ki', fi', se', ro', tu', ap', pe', wo', co', qu', to', wv')) : lf_X5_faultOf_11 (nI L) sg (m + 1) (nI k) st ki fi se ro tu ap pe wo co qu to wv = some (.inl (nI k, st', ki', fi', se', ro', tu', ap', pe', wo', co', qu', to', wv')) := by
  rw [lf_X5_faultOf_11, qs_f (nI_ge hk (by omega)), qs_lt, qs_f (c := (64 : Int32) ≤ nI k) (nI_ge (b := 64) (by omega) (by omega))]
  simp (disch := omega) only [qs_cl, qg_in2, hv]
  rw [h, qs_bd, qs_u14, qs_nf (c := (0 : Int32) = 0) rfl]
/-- it ends with a fault at p -/
def RC (L : Nat) (x : Option ((Int32 × Int32 × Int32 × Int32 × Int32 × Int32 × Int32 × Int32 × Int32 × Int32 × Int64 × Int64 × Int64 × (Nat → Int32)) ⊕ (Int32 × Int32 × Int32 × Int32 × Int32 × Int32 × Int32 × Int32 × Int32 × Int64 × Int64 × Int64 × (Nat → Int32)))) (p : Nat) : Prop :=
  (∃ o1 o2 o3 o4 o5 o6 o7 o8 o9 o10 o11 o12 o13, x = some (.inl (nI p, o1, o2, o3, o4, o5, o6, o7, o8, o9, o10, o11, o12, o13))) ∨ (p = L ∧ ∃ o1 o2 o3 o4 o5 o6 o7 o8 o9 o10 o11 o12 o13, o1 ≠ 4 ∧ x = some (.inr (o1, o2, o3, o4, o5, o6, o7, o8, o9, o10, o11, o12, o13)))
theorem RC_F {L : Nat} (hL : L ≤ 64) {sg : Nat → Int32} {k : Nat} (hk : k < L) {v : Nat} (hv : sg k = nI v) (m : Nat) {st ki fi se ro tu ap pe wo : Int32} {co qu to : Int64} {wv : Nat → Int32} {st' ki' fi' se' ro' tu' ap' pe' wo' : Int32} {co' qu' to' : Int64} {wv' : Nat → Int32} (h : f_X5_accepts (nI v) st ki fi se ro tu ap pe wo co qu to wv = some (0, st', ki', fi', se', ro', tu', ap', pe', wo', co', qu', to', wv')) : RC L (lf_X5_faultOf_11 (nI L) sg (m + 1) (nI k) st ki fi se ro tu ap pe wo co qu to wv) k :=
  Or.inl ⟨_, _, _, _, _, _, _, _, _, _, _, _, _, clF hL hk hv m h⟩
theorem RC_E {L : Nat} (hL : L ≤ 64) {sg : Nat → Int32} (m : Nat) {st ki fi se ro tu ap pe wo : Int32} {co qu to : Int64} {wv : Nat → Int32} (h : st ≠ 4) : RC L (lf_X5_faultOf_11 (nI L) sg (m + 1) (nI L) st ki fi se ro tu ap pe wo co qu to wv) L :=
  Or.inr ⟨rfl, _, _, _, _, _, _, _, _, _, _, _, _, _, h, clE hL m st ki fi se ro tu ap pe wo co qu to wv⟩
/-! what is accepted -/
theorem hpV : ∀ n, n < 8 → ∀ v, v < 256 → f_X4_hasPerson (nI v - 48) (nI n) = if 48 ≤ v ∧ v < 48 + n then 1 else 0 := by decide +kernel
theorem in09 : ∀ v, v < 256 → f_X11_in (Int32.toInt64 (nI v - 48)) 0 9 = if 48 ≤ v ∧ v ≤ 57 then 1 else 0 := by decide +kernel
theorem in_m1 : f_X11_in (Int32.toInt64 (-1)) 0 9 = 0 := by decide +kernel
theorem vM48 {v : Nat} (h : 48 ≤ v) : nI v - 48 = nI (v - 48) := pk_sub (a := v) (b := 48) h
theorem vIs {v : Nat} (hv : v < 256) {c : Nat} (hc : c < 256) : nI v = nI c ↔ v = c := nI_eq (by omega) (by omega)
theorem ac0 (v : Nat) (hv : v < 256) (ki fi se ro tu ap pe wo : Int32) (co qu to : Int64) (wv : Nat → Int32) : f_X5_accepts (nI v) 0 ki fi se ro tu ap pe wo co qu to wv = some (b2i (decide (v = 77)), 1, ki, fi, se, ro, tu, ap, pe, wo, co, qu, to, wv) := by
  unfold f_X5_accepts
  rw [qs_t (c := (0 : Int32) = 0) rfl]
  by_cases h : v = 77
  · rw [decide_eq_true h, h, qs_nf (c := nI 77 = 77) rfl]; rfl
  · rw [decide_eq_false h, qs_nt (c := nI v = 77) (fun g => h ((vIs hv (c := 77) (by omega)).mp g))]; rfl
theorem ac1 (v : Nat) (hv : v < 256) (ki fi se ro tu ap pe wo : Int32) (co qu to : Int64) (wv : Nat → Int32) : f_X5_accepts (nI v) 1 ki fi se ro tu ap pe wo co qu to wv = some (b2i (decide (v = 114) || decide (v = 108)), 2, ki, fi, se, b2i (decide (v = 114)), tu, ap, pe, wo, co, qu, to, wv) := by
  unfold f_X5_accepts
  rw [qs_f (c := (1 : Int32) = 0) (by decide), qs_t (c := (1 : Int32) = 1) rfl]
  by_cases h : v = 114
  · rw [h, qs_nf (c := nI 114 = 114) rfl, qs_lt, qs_g (by decide), qs_t (c := nI 114 = 114) rfl]; rfl
  · have h' : ¬ nI v = 114 := fun g => h ((vIs hv (c := 114) (by omega)).mp g)
    rw [qs_nt h', qs_lt, qs_g (by decide), qs_f h', decide_eq_false h]
    by_cases h2 : v = 108
    · rw [decide_eq_true h2, h2, qs_nf (c := nI 108 = 108) rfl]; rfl
    · rw [decide_eq_false h2, qs_nt (c := nI v = 108) (fun g => h2 ((vIs hv (c := 108) (by omega)).mp g))]; rfl
theorem ac2 (v : Nat) (hv : v < 256) (ki fi se ro tu ap pe wo : Int32) (co qu to : Int64) (wv : Nat → Int32) : f_X5_accepts (nI v) 2 ki fi se ro tu ap pe wo co qu to wv = some (b2i (decide (v = 48) || decide (v = 49)), 3, ki, fi, se, ro, b2i (decide (v = 49)), ap, pe, wo, co, qu, to, wv) := by
  unfold f_X5_accepts
  rw [qs_f (c := (2 : Int32) = 0) (by decide), qs_f (c := (2 : Int32) = 1) (by decide), qs_t (c := (2 : Int32) = 2) rfl]
  by_cases h : v = 49
  · rw [h, qs_nf (c := nI 49 = 49) rfl, qs_lt, qs_g (by decide), qs_f (c := nI 49 = 48) (by decide), qs_nf (c := nI 49 = 49) rfl]; rfl
  · have h' : ¬ nI v = 49 := fun g => h ((vIs hv (c := 49) (by omega)).mp g)
    rw [qs_nt h', qs_lt, qs_g (by decide), decide_eq_false h]
    by_cases h2 : v = 48
    · rw [decide_eq_true h2, h2, qs_t (c := nI 48 = 48) rfl]; rfl
    · rw [decide_eq_false h2, qs_f (c := nI v = 48) (fun g => h2 ((vIs hv (c := 48) (by omega)).mp g)), qs_nt h']; rfl
theorem ac3 (v : Nat) (hv : v < 256) (ki fi se ro tu ap pe wo : Int32) (co qu to : Int64) (wv : Nat → Int32) : f_X5_accepts (nI v) 3 ki fi se ro tu ap pe wo co qu to wv = some (b2i (decide (v = 48) || decide (v = 49)), 4, ki, fi, se, ro, tu, b2i (decide (v = 49)), pe, wo, co, qu, to, wv) := by
  unfold f_X5_accepts
  rw [qs_f (c := (3 : Int32) = 0) (by decide), qs_f (c := (3 : Int32) = 1) (by decide), qs_f (c := (3 : Int32) = 2) (by decide), qs_t (c := (3 : Int32) = 3) rfl]
  by_cases h : v = 49
  · rw [h, qs_nf (c := nI 49 = 49) rfl, qs_lt, qs_g (by decide), qs_f (c := nI 49 = 48) (by decide), qs_nf (c := nI 49 = 49) rfl]; rfl
  · have h' : ¬ nI v = 49 := fun g => h ((vIs hv (c := 49) (by omega)).mp g)
    rw [qs_nt h', qs_lt, qs_g (by decide), decide_eq_false h]
    by_cases h2 : v = 48
    · rw [decide_eq_true h2, h2, qs_t (c := nI 48 = 48) rfl]; rfl
    · rw [decide_eq_false h2, qs_f (c := nI v = 48) (fun g => h2 ((vIs hv (c := 48) (by omega)).mp g)), qs_nt h']; rfl
theorem ac4 {v : Nat} {ki fi se ro tu ap pe wo : Int32} {co qu to : Int64} {wv : Nat → Int32} {r s4 k4 p4 w4 : Int32} {c4 : Int64} (h01 : r = 0 ∨ r = 1) (h : f_X5_acceptsPart (nI v) 4 pe wo co qu to wv = some (r, s4, k4, p4, w4, c4)) : f_X5_accepts (nI v) 4 ki fi se ro tu ap pe wo co qu to wv = some (r, s4, k4, fi, se, ro, tu, ap, p4, w4, c4, qu, to, wv) := by
  unfold f_X5_accepts
  rw [qs_f (c := (4 : Int32) = 0) (by decide), qs_f (c := (4 : Int32) = 1) (by decide), qs_f (c := (4 : Int32) = 2) (by decide), qs_f (c := (4 : Int32) = 3) (by decide), qs_t (c := (4 : Int32) = 4) rfl, h, qs_bd, qs_u6, qs_g h01]
theorem admitX (b : Bool) {n : Nat} (wo : Int32) : f_X4_admit (b2i b) (nI n) wo = some (nI (n + 1), if b = true then wo ||| ((1 : Int32) <<< (nI n &&& 31)) else wo) := by
  unfold f_X4_admit
  rw [qs_jn]
  cases b
  · rw [qs_t (c := b2i false = 0) rfl]; simp only [qs_lt, nI_1]; rfl
  · rw [qs_f (c := b2i true = 0) (by decide)]; simp only [qs_lt, nI_1]; rfl
theorem ac5 (v : Nat) (hv : v < 256) (ki fi se ro tu ap wo : Int32) (n : Nat) (co qu to : Int64) (wv : Nat → Int32) : f_X5_accepts (nI v) 5 ki fi se ro tu ap (nI n) wo co qu to wv = some (b2i (decide (v = 119) || decide (v = 109)), 4, ki, fi, se, ro, tu, ap, nI (n + 1), (if decide (v = 119) = true then wo ||| ((1 : Int32) <<< (nI n &&& 31)) else wo), co, qu, to, wv) := by
  unfold f_X5_accepts
  rw [qs_f (c := (5 : Int32) = 0) (by decide), qs_f (c := (5 : Int32) = 1) (by decide), qs_f (c := (5 : Int32) = 2) (by decide), qs_f (c := (5 : Int32) = 3) (by decide), qs_f (c := (5 : Int32) = 4) (by decide), qs_t (c := (5 : Int32) = 5) rfl]
  have a1 := admitX true (n := n) wo
  have a0 := admitX false (n := n) wo
  have e1 : f_X4_admit 1 (nI n) wo = _ := a1
  have e0 : f_X4_admit 0 (nI n) wo = _ := a0
  by_cases h : v = 119
  · rw [h, qs_nf (c := nI 119 = 119) rfl, qs_lt, e1, qs_bd, qs_u2, qs_t (c := nI 119 = 119) rfl]; rfl
  · have h' : ¬ nI v = 119 := fun g => h ((vIs hv (c := 119) (by omega)).mp g)
    rw [qs_nt h', qs_lt, e0, qs_bd, qs_u2, qs_f h', decide_eq_false h]
    by_cases h2 : v = 109
    · rw [decide_eq_true h2, h2, qs_nf (c := nI 109 = 109) rfl]; rfl
    · rw [decide_eq_false h2, qs_nt (c := nI v = 109) (fun g => h2 ((vIs hv (c := 109) (by omega)).mp g))]; rfl
/-! the first of two, the second, the worth -/
theorem ac6 {d : PD} (hw : PWf d) {pe wo : Int32} {co qu to : Int64} {wv : Nat → Int32} (h : DX0 d pe wo co qu to wv) (v : Nat) (hv : v < 256) (ki fi se ro tu ap : Int32) : f_X5_accepts (nI v) 6 ki fi se ro tu ap (nI (pdn d)) wo co qu to wv = some (b2i (decide (48 ≤ v) && decide (v < 48 + pdn d) && frA (decide (ki = 87)) d (v - 48)), 7, ki, nI v - 48, se, ro, tu, ap, nI (pdn d), wo, co, qu, to, wv) := by
  have hn := hw.1
  unfold f_X5_accepts
  rw [qs_f (c := (6 : Int32) = 0) (by decide), qs_f (c := (6 : Int32) = 1) (by decide), qs_f (c := (6 : Int32) = 2) (by decide), qs_f (c := (6 : Int32) = 3) (by decide), qs_f (c := (6 : Int32) = 4) (by decide), qs_f (c := (6 : Int32) = 5) (by decide), qs_t (c := (6 : Int32) = 6) rfl, qs_lt, qs_lt, hpV (pdn d) (by omega) v hv]
  by_cases hi : 48 ≤ v ∧ v < 48 + pdn d
  · obtain ⟨y, e, hy⟩ := freeX hw (show v - 48 < pdn d by omega) h ki
    have hz := Fre_0 hn hy
    rw [if_pos hi, qs_f (c := (1 : Int32) = 0) (by decide), vM48 hi.1, e, qs_bd, qs_u1, decide_eq_true hi.1, decide_eq_true hi.2]
    by_cases hy0 : y = 0
    · rw [qs_t hy0, hz.mp hy0]; rfl
    · have : frA (decide (ki = 87)) d (v - 48) = true := by
        rcases Bool.eq_false_or_eq_true (frA (decide (ki = 87)) d (v - 48)) with g | g
        · exact g
        · exact absurd (hz.mpr g) hy0
      rw [qs_f hy0, this]; rfl
  · rw [if_neg hi, qs_t (c := (0 : Int32) = 0) rfl]
    have : (decide (48 ≤ v) && decide (v < 48 + pdn d)) = false := by
      rw [Bool.eq_false_iff]
      intro g
      simp only [Bool.and_eq_true, decide_eq_true_eq] at g
      exact hi g
    rw [this]; rfl
theorem ac7a {d : PD} (hw : PWf d) {pe wo : Int32} {co qu to : Int64} {wv : Nat → Int32} (h : DX0 d pe wo co qu to wv) {v : Nat} (hv : v < 256) {i : Nat} (hi : i < pdn d) (ki se : Int32) : (¬ (48 ≤ v ∧ v < 48 + pdn d ∧ frB (decide (ki = 87)) d i (v - 48) = true) ∧ f_X5_acceptsSecond (nI v - 48) 7 ki (nI i) se (nI (pdn d)) qu to wv = some (0, 7, se, qu, to)) ∨ (48 ≤ v ∧ v < 48 + pdn d ∧ frB (decide (ki = 87)) d i (v - 48) = true ∧ f_X5_acceptsSecond (nI v - 48) 7 ki (nI i) se (nI (pdn d)) qu to wv = (if ki = 81 then some (1, 4, nI (v - 48), qu ||| f_X3_bothWays (nI i) (nI (v - 48)), to) else if ki = 84 then some (1, 4, nI (v - 48), qu, to ||| f_X3_bothWays (nI i) (nI (v - 48))) else some (1, 8, nI (v - 48), qu, to))) := by
  have hn := hw.1
  unfold f_X5_acceptsSecond
  rw [qs_lt, hpV (pdn d) (by omega) v hv]
  by_cases hj : 48 ≤ v ∧ v < 48 + pdn d
  · obtain ⟨y, e, hy⟩ := freeX hw hi h ki
    have hb := bt_1 y (q := v - 48) (by omega)
    rw [hy _ (by omega)] at hb
    rw [if_pos hj, qs_f (c := (1 : Int32) = 0) (by decide), e, qs_bd, qs_u1, vM48 hj.1]
    cases hf : frB (decide (ki = 87)) d i (v - 48)
    · left
      rw [qs_nf (hb.mpr hf)]
      exact ⟨fun g => absurd g.2.2 (by decide), rfl⟩
    · right
      rw [qs_nt (fun g => by rw [hb.mp g] at hf; exact absurd hf (by decide))]
      refine ⟨hj.1, hj.2, rfl, ?_⟩
      by_cases h1 : ki = 81
      · rw [if_pos h1, qs_nf h1, qs_lt, qs_lt]
      · rw [if_neg h1, qs_nt h1]
        by_cases h2 : ki = 84
        · rw [if_pos h2, qs_nf h2, qs_lt, qs_lt]
        · rw [if_neg h2, qs_nt h2]
  · left
    rw [if_neg hj, qs_t (c := (0 : Int32) = 0) rfl]
    exact ⟨fun g => hj ⟨g.1, g.2.1⟩, rfl⟩
theorem ac7 {x : Int32} {ki fi se ro tu ap pe wo : Int32} {co qu to : Int64} {wv : Nat → Int32} {r s4 k4 : Int32} {q4 t4 : Int64} (h01 : r = 0 ∨ r = 1) (h : f_X5_acceptsSecond (x - 48) 7 ki fi se pe qu to wv = some (r, s4, k4, q4, t4)) : f_X5_accepts x 7 ki fi se ro tu ap pe wo co qu to wv = some (r, s4, ki, fi, k4, ro, tu, ap, pe, wo, co, q4, t4, wv) := by
  unfold f_X5_accepts
  rw [qs_f (c := (7 : Int32) = 0) (by decide), qs_f (c := (7 : Int32) = 1) (by decide), qs_f (c := (7 : Int32) = 2) (by decide), qs_f (c := (7 : Int32) = 3) (by decide), qs_f (c := (7 : Int32) = 4) (by decide), qs_f (c := (7 : Int32) = 5) (by decide), qs_f (c := (7 : Int32) = 6) (by decide), qs_t (c := (7 : Int32) = 7) rfl, h, qs_bd, qs_u5, qs_g h01]
theorem v19a : ∀ v, v < 256 → (nI v - 48 < 1 ↔ v < 49) := by decide +kernel
theorem v19b : ∀ v, v < 256 → (nI v - 48 ≤ 9 ↔ v ≤ 57) := by decide +kernel
theorem ac8 (v : Nat) (hv : v < 256) (ki ro tu ap pe wo : Int32) (co qu to : Int64) (wv : Nat → Int32) {i j : Nat} (hi : i < 8) (hj : j < 8) : f_X5_accepts (nI v) 8 ki (nI i) (nI j) ro tu ap pe wo co qu to wv = (if 49 ≤ v ∧ v ≤ 57 then some (1, 4, ki, nI i, nI j, ro, tu, ap, pe, wo, co, qu, to, upd wv (8 * i + j) (nI (v - 48))) else some (0, 8, ki, nI i, nI j, ro, tu, ap, pe, wo, co, qu, to, wv)) := by
  unfold f_X5_accepts
  rw [qs_f (c := (8 : Int32) = 0) (by decide), qs_f (c := (8 : Int32) = 1) (by decide), qs_f (c := (8 : Int32) = 2) (by decide), qs_f (c := (8 : Int32) = 3) (by decide), qs_f (c := (8 : Int32) = 4) (by decide), qs_f (c := (8 : Int32) = 5) (by decide), qs_f (c := (8 : Int32) = 6) (by decide), qs_f (c := (8 : Int32) = 7) (by decide)]
  unfold f_X5_acceptsValue
  by_cases h1 : v < 49
  · rw [qs_t ((v19a v hv).mpr h1), qs_bd, qs_u3, qs_g (Or.inl rfl), if_neg (by omega)]
  · rw [qs_f (fun g => h1 ((v19a v hv).mp g))]
    by_cases h2 : v ≤ 57
    · rw [qs_t ((v19b v hv).mpr h2), qs_lt, cell_nI hi hj]
      simp (disch := omega) only [qs_cl, qg_in2, qs_lt]
      rw [qs_bd, qs_u3, qs_g (Or.inr rfl), if_pos (by omega), vM48 (by omega)]
    · rw [qs_f (fun g => h2 ((v19b v hv).mp g)), qs_bd, qs_u3, qs_g (Or.inl rfl), if_neg (by omega)]
/-! ===== the model's figures ===== -/
theorem failM (a : Int32) : f_X11_fail a (-9) = some a := by unfold f_X11_fail; rw [qs_nf rfl]
theorem fgSkip (al len at_ fa : Int32) (tx : Nat → Int32) (h : fa ≠ -9) : f_X11_figure al len at_ fa tx = some (0, at_, fa) := by
  have hf : f_X11_fail at_ fa = some fa := by unfold f_X11_fail; rw [qs_nt h]
  unfold f_X11_figure
  rw [qs_jn, qs_nt h]
  simp only [qs_lt, qs_jn, in_m1, hf, qs_bd, qs_u1, qs_T]
theorem fgEnd {L : Nat} (hL : L ≤ 64) (al : Int32) (tx : Nat → Int32) : f_X11_figure al (nI L) (nI L) (-9) tx = some (0, nI L, nI L) := by
  unfold f_X11_figure
  rw [qs_jn, qs_nf rfl]
  simp only [qs_lt, qs_jn, in_m1, failM, qs_bd, qs_u1, qs_T]
  rw [qs_t (nI_le (Nat.le_refl L) (by omega))]
theorem fgIn {L : Nat} (hL : L ≤ 64) (al : Int32) {tx : Nat → Int32} {k v : Nat} (hk : k < L) (hv : v < 256) (ht : tx k = nI v) : f_X11_figure al (nI L) (nI k) (-9) tx = if 48 ≤ v ∧ v ≤ 57 ∧ bt al (v - 48) = true then some (nI (v - 48), nI (k + 1), -9) else some (0, nI k, nI k) := by
  unfold f_X11_figure
  rw [qs_jn, qs_nf rfl]
  simp only [qs_lt, qs_jn, in_m1, failM, qs_bd, qs_u1, qs_T]
  rw [qs_f (nI_ge hk (by omega))]
  simp (disch := omega) only [qs_cl, qg_in2, ht, in09 v hv]
  by_cases h : 48 ≤ v ∧ v ≤ 57
  · have hb := bt_1 al (q := v - 48) (by omega)
    rw [if_pos h, qs_f (c := (1 : Int32) = 0) (by decide), vM48 h.1]
    cases hf : bt al (v - 48)
    · rw [qs_nf (hb.mpr hf), if_neg (fun g => absurd g.2.2 (by decide))]
    · rw [qs_nt (fun g => by rw [hb.mp g] at hf; exact absurd hf (by decide)), if_pos ⟨h.1, h.2, rfl⟩, nI_1]
  · rw [if_neg h, qs_t (c := (0 : Int32) = 0) rfl, if_neg (fun g => h ⟨g.1, g.2.1⟩)]
theorem eiEnd {L : Nat} (hL : L ≤ 64) (a b : Nat) (ha : a < 256) (hb : b < 256) (tx : Nat → Int32) : f_X11_either (nI a) (nI b) (nI L) (nI L) (-9) tx = some (0, nI L, nI L) := by
  have m1 : ∀ c, c < 256 → ¬ (-1 : Int32) = nI c := by decide +kernel
  unfold f_X11_either
  rw [qs_jn, qs_nf rfl]
  simp only [qs_lt, qs_jn, failM, qs_bd, qs_u1]
  rw [qs_t (nI_le (Nat.le_refl L) (by omega)), qs_f (m1 a ha), qs_f (m1 b hb)]
theorem eiIn {L : Nat} (hL : L ≤ 64) (a b : Nat) (ha : a < 256) (hb : b < 256) {tx : Nat → Int32} {k v : Nat} (hk : k < L) (hv : v < 256) (ht : tx k = nI v) : f_X11_either (nI a) (nI b) (nI L) (nI k) (-9) tx = if v = a ∨ v = b then some (b2i (decide (v = a)), nI (k + 1), -9) else some (0, nI k, nI k) := by
  unfold f_X11_either
  rw [qs_jn, qs_nf rfl]
  simp only [qs_lt, qs_jn, failM, qs_bd, qs_u1]
  rw [qs_f (nI_ge hk (by omega))]
  simp (disch := omega) only [qs_cl, qg_in2, ht, nI_1]
  by_cases h : v = a
  · subst h
    rw [qs_t rfl, qs_nf rfl, if_pos (Or.inl rfl), decide_eq_true rfl]; rfl
  · have h' : ¬ nI v = nI a := fun g => h ((vIs hv ha).mp g)
    rw [qs_f h', decide_eq_false h]
    by_cases h2 : v = b
    · subst h2
      rw [qs_t rfl, qs_nt h', if_pos (Or.inr rfl)]; rfl
    · rw [qs_f (fun g => h2 ((vIs hv hb).mp g)), if_neg (fun g => g.elim h h2)]
