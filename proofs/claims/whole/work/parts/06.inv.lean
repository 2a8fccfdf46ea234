/-! ===== what both objects stand for ===== -/
def b2i (b : Bool) : Int32 := if b then 1 else 0
/-- a party: how many, round, by turns, apart; women, couples, quarrels, together, worths -/
abbrev PD : Type := Nat × Bool × Bool × Bool × (Nat → Bool) × (Nat → Nat → Bool) × (Nat → Nat → Bool) × (Nat → Nat → Bool) × (Nat → Nat → Nat)
abbrev pdn (d : PD) : Nat := d.1
abbrev pdr (d : PD) : Bool := d.2.1
abbrev pdt (d : PD) : Bool := d.2.2.1
abbrev pda (d : PD) : Bool := d.2.2.2.1
abbrev pdw (d : PD) : Nat → Bool := d.2.2.2.2.1
abbrev pdc (d : PD) : Nat → Nat → Bool := d.2.2.2.2.2.1
abbrev pdq (d : PD) : Nat → Nat → Bool := d.2.2.2.2.2.2.1
abbrev pdg (d : PD) : Nat → Nat → Bool := d.2.2.2.2.2.2.2.1
abbrev pdv (d : PD) : Nat → Nat → Nat := d.2.2.2.2.2.2.2.2
/-- two that may not sit beside each other -/
def pdb (d : PD) (p q : Nat) : Bool := decide (p < pdn d) && decide (q < pdn d) && decide (p ≠ q) && (pdq d p q || (pda d && pdc d p q) || (pdt d && (pdw d p == pdw d q)))
/-- a set of pairs among n people: of two unlike, both ways -/
def PrS (n : Nat) (f : Nat → Nat → Bool) : Prop := (∀ p q, f p q = true → p < n ∧ q < n ∧ p ≠ q) ∧ ∀ p q, f p q = f q p
def PWf (d : PD) : Prop := pdn d ≤ 7 ∧ PrS (pdn d) (pdc d) ∧ PrS (pdn d) (pdq d) ∧ PrS (pdn d) (pdg d) ∧ (∀ p q r, pdc d p q = true → pdc d p r = true → q = r) ∧ (∀ p q, ¬ (p < pdn d ∧ q < pdn d ∧ p ≠ q) → pdv d p q = 0) ∧ ∀ p q, pdv d p q ≤ 9
def PX (d : PD) (round byTurns apart people women : Int32) (couples quarrels togethers barred : Int64) (worths : Nat → Int32) : Prop :=
  round = b2i (pdr d) ∧ byTurns = b2i (pdt d) ∧ apart = b2i (pda d) ∧ people = nI (pdn d) ∧ (∀ i, i < 32 → bt women i = (decide (i < pdn d) && pdw d i)) ∧ Mt couples (pdc d) ∧ Mt quarrels (pdq d) ∧ Mt togethers (pdg d) ∧ Mt barred (pdb d) ∧ ∀ p q, p < 8 → q < 8 → worths (8 * p + q) = nI (pdv d p q)
def PM (d : PD) (people isRound byTurns apart : Int32) (woman mate quarrel joined worths : Nat → Int32) : Prop :=
  people = nI (pdn d) ∧ isRound = b2i (pdr d) ∧ byTurns = b2i (pdt d) ∧ apart = b2i (pda d) ∧ (∀ p, p < pdn d → woman p = b2i (pdw d p)) ∧ (∀ p, p < pdn d → (∀ q, pdc d p q = true → mate p = nI q) ∧ ((∀ q, pdc d p q = false) → mate p = -9)) ∧ (∀ p, p < pdn d → ∀ i, i < 32 → bt (quarrel p) i = pdq d p i) ∧ (∀ p, p < pdn d → ∀ i, i < 32 → bt (joined p) i = pdg d p i) ∧ ∀ p q, p < pdn d → q < pdn d → worths (7 * p + q) = nI (pdv d p q)
/-- chairs next to each other -/
def nx (d : PD) (c e : Nat) : Bool := decide (c + 1 = e) || decide (e + 1 = c) || (pdr d && decide (2 < pdn d) && ((decide (c = 0) && decide (e + 1 = pdn d)) || (decide (e = 0) && decide (c + 1 = pdn d))))
/-- a seating -/
def ST (d : PD) (σ : Nat → Nat) : Prop := (∀ c, pdn d ≤ c → σ c = 0) ∧ (∀ c, c < pdn d → σ c < pdn d) ∧ ∀ c e, c < pdn d → e < pdn d → σ c = σ e → c = e
/-- who sits beside whom -/
def adj (d : PD) (σ : Nat → Nat) (p q : Nat) : Bool := (List.range (pdn d)).any (fun c => (List.range (pdn d)).any (fun e => nx d c e && decide (σ c = p) && decide (σ e = q)))
def lawS (d : PD) (σ : Nat → Nat) : Prop := (∀ p q, adj d σ p q = true → pdb d p q = false) ∧ ∀ p q, pdg d p q = true → adj d σ p q = true
/-- who dined with whom -/
def DN (d : PD) (f : Nat → Nat → Nat) : Prop := (∀ p q, f p q = f q p) ∧ (∀ p q, f p q ≤ 99) ∧ ∀ p q, ¬ (p < pdn d ∧ q < pdn d ∧ p ≠ q) → f p q = 0
def DX (f : Nat → Nat → Nat) (dined : Nat → Int32) : Prop := ∀ p q, p < 8 → q < 8 → dined (8 * p + q) = if p < q then nI (f p q) else 0
def SMs (d : PD) (σ : Nat → Nat) (a : Nat → Int32) (o : Nat) : Prop := ∀ c, c < pdn d → a (o + c) = nI (σ c)
def DMs (d : PD) (f : Nat → Nat → Nat) (a : Nat → Int32) (o : Nat) : Prop := ∀ p q, p < pdn d → q < pdn d → a (o + (7 * p + q)) = nI (f p q)
def RText (sg : Nat → Int32) (ln : Int32) (tx : Nat → Int32) (ml : Int32) : Prop := ∃ k, k ≤ 64 ∧ ln = nI k ∧ ml = nI k ∧ ∀ j, j < k → ∃ v, v < 256 ∧ sg j = nI v ∧ tx j = nI v
/-- the row of acts: k of them; before act j the table was (σs j, ds j); the last ones are the table now -/
def RActs (d : PD) (σ : Nat → Nat) (f : Nat → Nat → Nat) (size : Int32) (before dinners : Nat → Int32) (acts next : Int32) (row : Nat → Int32) : Prop :=
  ∃ (k x : Nat) (σs : Nat → Nat → Nat) (ds : Nat → Nat → Nat → Nat) (fl : Nat → Bool), k ≤ 16 ∧ x < 16 ∧ size = nI k ∧ acts = nI k ∧ next = nI x ∧ σs k = σ ∧ ds k = f ∧
  (∀ j, j < k → ST d (σs j) ∧ DN d (ds j) ∧ before j = nI (pk (σs j)) ∧ dinners j = b2i (fl j) ∧ SMs d (σs j) row (56 * ((x + 16 - k + j) % 16)) ∧ DMs d (ds j) row (56 * ((x + 16 - k + j) % 16) + 7)) ∧
  ∀ j, j < k → (fl j = false → ds (j + 1) = ds j) ∧ (fl j = true → σs (j + 1) = σs j ∧ ∀ p q, ds (j + 1) p q = ds j p q + (if adj d (σs j) p q = true then 1 else 0))
def RSlot (d : PD) (z : Nat) (dined : Nat → Int32) (seating kept : Int32) (isKept keptA : Nat → Int32) : Prop :=
  (kept = 0 ∧ isKept z = 0) ∨ (kept = 1 ∧ isKept z = 1 ∧ ∃ (σ : Nat → Nat) (f : Nat → Nat → Nat), ST d σ ∧ DN d f ∧ seating = nI (pk σ) ∧ DX f dined ∧ SMs d σ keptA (56 * z) ∧ DMs d f keptA (56 * z + 7))
def RGos (ones others besides : Nat → Int32) (size told : Int32) (one other beside : Nat → Int32) : Prop :=
  ∃ k, k ≤ 8 ∧ size = nI k ∧ told = nI k ∧ ∀ j, j < k → ∃ (a e : Nat) (b : Bool), a < 7 ∧ e < 7 ∧ a ≠ e ∧ ones j = nI a ∧ one j = nI a ∧ others j = nI e ∧ other j = nI e ∧ besides j = b2i b ∧ beside j = b2i b
/-! ===== all seatings, in order ===== -/
def sea (σ : Nat → Nat) (c p : Nat) : Bool := (List.range c).any (fun e => decide (σ e = p))
def gen (n : Nat) : Nat → Nat → (Nat → Nat) → List (Nat → Nat)
  | 0, _, σ => [σ]
  | k + 1, c, σ => (List.range n).flatMap (fun p => if sea σ c p = true then [] else gen n k (c + 1) (upN σ c p))
def allS (d : PD) : List (Nat → Nat) := gen (pdn d) (pdn d) 0 (fun _ => 0)
noncomputable def lawB (d : PD) (σ : Nat → Nat) : Bool := @decide (lawS d σ) (Classical.propDecidable _)
noncomputable def lawL (d : PD) : List (Nat → Nat) := (allS d).filter (lawB d)
/-- the row of all lawful seatings, in order -/
def RLaw (d : PD) (seatings : Nat → Int32) (N : Nat) (listed size : Int32) : Prop :=
  1 ≤ N ∧ N ≤ 5040 ∧ (listed = 0 ∨ (listed = 1 ∧ (lawL d).length ≤ N ∧ size = nI (lawL d).length ∧ ∀ (j : Nat) (τ : Nat → Nat), (lawL d)[j]? = some τ → seatings j = nI (pk τ)))
def Inv (s : SX) (t : SM) : Prop :=
  sx_drawnBy s = sm_seed t ∧ RText (sx_text_signs_v s) (sx_text_length s) (sm_text_v t) (sm_length t) ∧
  RGos (sx_gossips_ones_v s) (sx_gossips_others_v s) (sx_gossips_besides_v s) (sx_gossips_size s) (sm_told t) (sm_toldOne_v t) (sm_toldOther_v t) (sm_toldBeside_v t) ∧
  (1 ≤ sx_search_queue_n s ∧ sx_search_queue_n s = sx_search_swaps_n s ∧ sx_search_queue_n s ≤ 720) ∧
  ∃ (d : PD) (σ : Nat → Nat) (f : Nat → Nat → Nat), PWf d ∧
    PX d (sx_guests_round s) (sx_guests_byTurns s) (sx_guests_apart s) (sx_guests_people s) (sx_guests_women s) (sx_guests_couples s) (sx_guests_quarrels s) (sx_guests_togethers s) (sx_guests_barred s) (sx_guests_worths_v s) ∧
    PM d (sm_people t) (sm_isRound t) (sm_byTurns t) (sm_apart t) (sm_woman_v t) (sm_mate_v t) (sm_quarrel_v t) (sm_joined_v t) (sm_worths_v t) ∧
    ST d σ ∧ DN d f ∧ sx_table_seating s = nI (pk σ) ∧ DX f (sx_table_dined_v s) ∧ SMs d σ (sm_seat_v t) 0 ∧ DMs d f (sm_dines_v t) 0 ∧
    RActs d σ f (sx_acts_size s) (sx_acts_before_v s) (sx_acts_dinners_v s) (sm_acts t) (sm_next t) (sm_row_v t) ∧
    RSlot d 0 (sx_slot0_dined_v s) (sx_slot0_seating s) (sx_slot0_kept s) (sm_isKept_v t) (sm_kept_v t) ∧
    RSlot d 1 (sx_slot1_dined_v s) (sx_slot1_seating s) (sx_slot1_kept s) (sm_isKept_v t) (sm_kept_v t) ∧
    RLaw d (sx_lawful_seatings_v s) (sx_lawful_seatings_n s) (sx_lawful_listed s) (sx_lawful_size s)
theorem Sim_seed_ok : Sim_seed Inv := by
  intro s t hI x1
  obtain ⟨h1, h2, h3, h4, h5⟩ := hI
  refine ⟨sx_drawnBy s, x1, x1, rfl, ?_, rfl, h2, h3, h4, h5⟩
  rw [h1]; rfl
theorem Sim_wipe_ok : Sim_wipe Inv := by
  intro s t hI
  obtain ⟨h1, h2, h3, h4, h5⟩ := hI
  obtain ⟨k, k1, k2, k3, k4⟩ := id h2
  refine ⟨sx_text_length s, 0, 0, rfl, ?_, h1, ⟨0, by omega, rfl, rfl, fun j hj => absurd hj (by omega)⟩, h3, h4, h5⟩
  rw [k2, ← k3]; rfl
theorem Sim_hush_ok : Sim_hush Inv := by
  intro s t hI
  obtain ⟨h1, h2, h3, h4, h5⟩ := hI
  obtain ⟨k, k1, k2, k3, k4⟩ := id h3
  refine ⟨sx_gossips_size s, 0, 0, rfl, ?_, h1, h2, ⟨0, by omega, rfl, rfl, fun j hj => absurd hj (by omega)⟩, h4, h5⟩
  rw [k2, ← k3]; rfl
