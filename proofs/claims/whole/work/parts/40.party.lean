/-! ===== fault, party ===== -/
theorem Sim_fault_ok : Sim_fault Inv := by
  intro s t hI
  obtain ⟨h1, ⟨L, hL, eL, eM, hT⟩, h3⟩ := id hI
  rcases readSim hL hT (sx_reader_kind s) (sx_reader_first s) (sx_reader_second s) (sx_draft_worths_v s) (sm_readRound t) (sm_readTurns t) (sm_readApart t) (sm_readWoman_v t) (sm_readMate_v t) (sm_readQuarrel_v t) (sm_readJoined_v t) (sm_readWorth_v t) with ⟨d, ki', fi', se', wo, co, qu, to, ba, wv', at_, woman', mate', quarrel', joined', worth', z1, z2, z3, z4, z5, z6⟩ | ⟨p, p1, ⟨o1, o2, o3, o4, o5, o6, o7, o8, o9, o10, o11, o12, o13, o14, z5⟩, ⟨q1, q2, q3, q4, q5, q6, q7, q8, q9, q10, q11, z6⟩⟩
  · unfold f_X10_fault f_X11_fault
    rw [eL, eM, z5, z6, qs_bd, qs_bd, qs_u15, qs_u12]
    exact ⟨_, _, _, _, _, _, _, _, _, _, _, _, _, _, _, _, _, _, _, _, _, _, _, _, _, _, rfl, rfl, hI⟩
  · unfold f_X10_fault f_X11_fault
    rw [eL, eM, z5, z6, qs_bd, qs_bd, qs_u15, qs_u12]
    exact ⟨_, _, _, _, _, _, _, _, _, _, _, _, _, _, _, _, _, _, _, _, _, _, _, _, _, _, rfl, rfl, hI⟩
def sid (n c : Nat) : Nat := if c < n then c else 0
theorem sid_Dg {n : Nat} (hn : n ≤ 7) : Dg (sid n) := fun c => by unfold sid; split <;> omega
theorem sid_s {n : Nat} : upN (sid n) n n = sid (n + 1) := by
  funext c
  unfold upN sid
  by_cases h : c = n
  · rw [if_pos h, if_pos (by omega)]; exact h.symm
  · rw [if_neg h]
    by_cases g : c < n
    · rw [if_pos g, if_pos (by omega)]
    · rw [if_neg g, if_neg (by omega)]
theorem told_lp {n : Nat} (hn : n ≤ 7) : ∀ (m k : Nat), k ≤ n → n - k < m → lf_X7_asTold_4 (nI n) m (nI (pk (sid k))) (nI k) = some (nI (pk (sid n))) := by
  intro m
  induction m with
  | zero => intro k h1 h2; omega
  | succ m ih =>
    intro k h1 h2
    rw [lf_X7_asTold_4]
    by_cases hk : n ≤ k
    · have : k = n := by omega
      subst this
      rw [qs_t (nI_le hk (by omega))]
    · rw [qs_f (nI_ge (show k < n by omega) (by omega)), qs_f (c := (7 : Int32) ≤ nI k) (nI_ge (b := 7) (by omega) (by omega)), qs_lt, wi_pk (sid_Dg (by omega)) (by omega) (by omega), sid_s, nI_1]
      exact ih (k + 1) (by omega) (by omega)
theorem bgn_lp : ∀ (m k : Nat) (w : Nat → Int32), k ≤ 64 → 64 - k < m → (∀ i, i < k → w i = 0) → ∃ w', lf_X8_begin_10 m (nI k) w = some w' ∧ ∀ i, i < 64 → w' i = 0 := by
  intro m
  induction m with
  | zero => intro k w h1 h2; omega
  | succ m ih =>
    intro k w h1 h2 h3
    rw [lf_X8_begin_10, qs_lt]
    by_cases hk : 64 ≤ k
    · rw [qs_t (c := (64 : Int32) ≤ nI k) (nI_le (a := 64) hk (by omega))]
      exact ⟨w, rfl, fun i hi => h3 i (by omega)⟩
    · rw [qs_f (c := (64 : Int32) ≤ nI k) (nI_ge (b := 64) (by omega) (by omega))]
      simp (disch := omega) only [qs_cl, qg_in2, qs_lt, nI_1]
      exact ih (k + 1) _ (by omega) (by omega) (fun i hi => by
        by_cases g : i = k
        · rw [g, pk_us]
        · rw [pk_un g]; exact h3 i (by omega))
theorem beginX {n : Nat} (hn : n ≤ 7) (w : Nat → Int32) : ∃ w', f_X8_begin (nI n) w = some (nI (pk (sid n)), w') ∧ ∀ i, i < 64 → w' i = 0 := by
  obtain ⟨w', e, h⟩ := bgn_lp pw_FU 0 w (by omega) (by unfold pw_FU; omega) (fun i hi => absurd hi (Nat.not_lt_zero _))
  have e' : lf_X8_begin_10 pw_FU 0 w = some w' := e
  have e2 : lf_X7_asTold_4 (nI n) pw_FU 0 0 = some (nI (pk (sid n))) := told_lp hn pw_FU 0 (by omega) (by unfold pw_FU; omega)
  unfold f_X8_begin f_X7_asTold
  rw [e2, qs_bd, qs_u1, qs_bd, qs_u1, e', qs_bd, qs_u1]
  exact ⟨w', rfl, h⟩
theorem cp46 (rw_ rm rq rj : Nat → Int32) : ∀ (m k : Nat) (a b c d e : Nat → Int32), k ≤ 7 → 7 - k < m → (∀ p, p < k → a p = vp_nar .boolean (rw_ p) ∧ b p = rm p ∧ c p = rq p ∧ d p = rj p ∧ e p = nI p) → ∃ a' b' c' d' e', lf_X11_party_46 rw_ rm rq rj m (nI k) a b c d e = some (a', b', c', d', e') ∧ ∀ p, p < 7 → a' p = vp_nar .boolean (rw_ p) ∧ b' p = rm p ∧ c' p = rq p ∧ d' p = rj p ∧ e' p = nI p := by
  intro m
  induction m with
  | zero => intro k a b c d e h1 h2; omega
  | succ m ih =>
    intro k a b c d e h1 h2 h3
    rw [lf_X11_party_46]
    by_cases hk : 7 ≤ k
    · rw [qs_t (c := (7 : Int32) ≤ nI k) (nI_le (a := 7) hk (by omega))]
      exact ⟨_, _, _, _, _, rfl, fun p hp => h3 p (by omega)⟩
    · rw [qs_f (c := (7 : Int32) ≤ nI k) (nI_ge (b := 7) (by omega) (by omega))]
      simp (disch := omega) only [qs_cl, qg_in2, qs_lt, nI_1]
      exact ih (k + 1) _ _ _ _ _ (by omega) (by omega) (fun p hp => by
        by_cases g : p = k
        · rw [g, pk_us, pk_us, pk_us, pk_us, pk_us]; exact ⟨rfl, rfl, rfl, rfl, rfl⟩
        · rw [pk_un g, pk_un g, pk_un g, pk_un g, pk_un g]; exact h3 p (by omega))
theorem cp115 (rv : Nat → Int32) : ∀ (m k : Nat) (a b : Nat → Int32), k ≤ 49 → 49 - k < m → (∀ p, p < k → a p = rv p ∧ b p = 0) → ∃ a' b', lf_X11_party_115 rv m (nI k) a b = some (a', b') ∧ ∀ p, p < 49 → a' p = rv p ∧ b' p = 0 := by
  intro m
  induction m with
  | zero => intro k a b h1 h2; omega
  | succ m ih =>
    intro k a b h1 h2 h3
    rw [lf_X11_party_115]
    by_cases hk : 49 ≤ k
    · rw [qs_t (c := (49 : Int32) ≤ nI k) (nI_le (a := 49) hk (by omega))]
      exact ⟨_, _, rfl, fun p hp => h3 p (by omega)⟩
    · rw [qs_f (c := (49 : Int32) ≤ nI k) (nI_ge (b := 49) (by omega) (by omega))]
      simp (disch := omega) only [qs_cl, qg_in2, qs_lt, nI_1]
      exact ih (k + 1) _ _ (by omega) (by omega) (fun p hp => by
        by_cases g : p = k
        · rw [g, pk_us, pk_us]; exact ⟨rfl, rfl⟩
        · rw [pk_un g, pk_un g]; exact h3 p (by omega))
theorem ST_sid {d : PD} : ST d (sid (pdn d)) := by
  refine ⟨fun c hc => ?_, fun c hc => ?_, fun c e hc he h => ?_⟩
  · unfold sid; rw [if_neg (by omega)]
  · unfold sid; rw [if_pos hc]; exact hc
  · unfold sid at h; rw [if_pos hc, if_pos he] at h; exact h
theorem DN_0 {d : PD} : DN d (fun _ _ => 0) := ⟨fun _ _ => rfl, fun _ _ => Nat.zero_le _, fun _ _ _ => rfl⟩
theorem DX_0 {w : Nat → Int32} (h : ∀ i, i < 64 → w i = 0) : DX (fun _ _ => 0) w := fun p q hp hq => by
  rw [h _ (by omega)]
  split <;> rfl
theorem Sim_party_ok : Sim_party Inv := by
  intro s t hI
  obtain ⟨h1, ⟨L, hL, eL, eM, hT⟩, h3, h4, dO, σO, fO, hwO, hxO, hmO, hstO, hdnO, hseO, hdxO, hsmO, hdmO, hac, hs0, hs1, hla⟩ := id hI
  rcases readSim hL hT (sx_reader_kind s) (sx_reader_first s) (sx_reader_second s) (sx_draft_worths_v s) (sm_readRound t) (sm_readTurns t) (sm_readApart t) (sm_readWoman_v t) (sm_readMate_v t) (sm_readQuarrel_v t) (sm_readJoined_v t) (sm_readWorth_v t) with ⟨d, ki', fi', se', wo, co, qu, to, ba, wv', at_, woman', mate', quarrel', joined', worth', z1, z2, z3, z4, z5, z6⟩ | ⟨p, p1, ⟨o1, o2, o3, o4, o5, o6, o7, o8, o9, o10, o11, o12, o13, o14, z5⟩, ⟨q1, q2, q3, q4, q5, q6, q7, q8, q9, q10, q11, z6⟩⟩
  · have hn := z1.1
    obtain ⟨w', eB, hB⟩ := beginX hn (sx_table_dined_v s)
    obtain ⟨a', b', c', d', e', e46, h46⟩ := cp46 woman' mate' quarrel' joined' pw_FU 0 (sm_woman_v t) (sm_mate_v t) (sm_quarrel_v t) (sm_joined_v t) (sm_seat_v t) (by omega) (by unfold pw_FU; omega) (fun p hp => absurd hp (Nat.not_lt_zero _))
    have e46' : lf_X11_party_46 woman' mate' quarrel' joined' pw_FU 0 (sm_woman_v t) (sm_mate_v t) (sm_quarrel_v t) (sm_joined_v t) (sm_seat_v t) = some (a', b', c', d', e') := e46
    obtain ⟨v1, v2, e115, h115⟩ := cp115 worth' pw_FU 0 (sm_worths_v t) (sm_dines_v t) (by omega) (by unfold pw_FU; omega) (fun p hp => absurd hp (Nat.not_lt_zero _))
    have e115' : lf_X11_party_115 worth' pw_FU 0 (sm_worths_v t) (sm_dines_v t) = some (v1, v2) := e115
    have hb2 : ∀ b : Bool, b2i b = 0 ∨ b2i b = 1 := fun b => by cases b; exact Or.inl rfl; exact Or.inr rfl
    have c0 : Int32.toNatClampNeg 0 = 0 := by decide
    have c1 : Int32.toNatClampNeg 1 = 1 := by decide
    have n0 : vp_nar .boolean 0 = 0 := by decide
    have eX : f_X10_party (sx_text_length s) (sx_text_signs_v s) (sx_reader_kind s) (sx_reader_first s) (sx_reader_second s) (sx_lawful_listed s) (sx_lawful_size s) (sx_table_seating s) (sx_table_dined_v s) (sx_acts_size s) (sx_slot0_kept s) (sx_slot1_kept s) (sx_draft_worths_v s) = some (nI (pdn d), true, 4, ki', fi', se', 0, 0, nI (pk (sid (pdn d))), w', 0, 0, 0, b2i (pdr d), b2i (pdt d), b2i (pda d), nI (pdn d), wo, co, qu, to, ba, wv') := by
      unfold f_X10_party f_X2_forget
      rw [eL, z5, qs_bd, qs_u15, qs_t (c := (-9 : Int32) = -9) rfl, qs_bd, qs_u2, eB, qs_bd, qs_u2]
    have eY : f_X11_party (sm_readRound t) (sm_readTurns t) (sm_readApart t) (sm_people t) (sm_isRound t) (sm_byTurns t) (sm_apart t) (sm_length t) (sm_acts t) (sm_readWoman_v t) (sm_readMate_v t) (sm_readQuarrel_v t) (sm_readJoined_v t) (sm_readWorth_v t) (sm_woman_v t) (sm_mate_v t) (sm_quarrel_v t) (sm_joined_v t) (sm_worths_v t) (sm_seat_v t) (sm_dines_v t) (sm_text_v t) (sm_isKept_v t) = some (nI (pdn d), nI (pdn d), b2i (pdr d), b2i (pdt d), b2i (pda d), nI (pdn d), b2i (pdr d), b2i (pdt d), b2i (pda d), at_, -9, 0, woman', mate', quarrel', joined', worth', a', b', c', d', v1, e', v2, upd (upd (sm_isKept_v t) 0 0) 1 0) := by
      unfold f_X11_party
      rw [eM, z6, qs_bd, qs_u12, qs_t (c := (-9 : Int32) = -9) rfl, qs_g (hb2 _), qs_g (hb2 _), qs_g (hb2 _), e46', qs_bd, qs_u5, e115', qs_bd, qs_u2, qs_lt, qs_lt, c0, c1, n0]
    obtain ⟨x1, x2, x3, x4, x5, x6⟩ := z2
    obtain ⟨m1, m2, m3, m4, m5, m6⟩ := z3
    obtain ⟨kA, xA, _, _, _, _, hxA, _, _, hnA, _⟩ := hac
    refine ⟨_, _, _, _, _, _, _, _, _, _, _, _, _, _, _, _, _, _, _, _, _, _, _, _, _, _, _, _, _, _, _, _, _, _, _, _, _, _, _, _, _, _, _, _, _, _, _, eX, eY, h1, ⟨L, hL, eL, eM, hT⟩, h3, h4, d, sid (pdn d), (fun _ _ => 0), z1, ⟨rfl, rfl, rfl, rfl, x2, x3, x4, x5, z4, x6⟩, ⟨rfl, rfl, rfl, rfl, fun p hp => ?_, fun p hp => ?_, fun p hp i hi => ?_, fun p hp i hi => ?_, fun p q hp hq => ?_⟩, ST_sid, DN_0, rfl, DX_0 hB, fun c hc => ?_, fun p q hp hq => ?_, ?_, ?_, ?_, ?_⟩
    · show a' p = _
      rw [(h46 p (by omega)).1, m2 p hp, nar_b (hb2 _)]
    · show (∀ q, pdc d p q = true → b' p = nI q) ∧ ((∀ q, pdc d p q = false) → b' p = -9)
      rw [(h46 p (by omega)).2.1]; exact m3 p hp
    · show bt (c' p) i = _
      rw [(h46 p (by omega)).2.2.1]; exact m4 p hp i hi
    · show bt (d' p) i = _
      rw [(h46 p (by omega)).2.2.2.1]; exact m5 p hp i hi
    · show v1 (7 * p + q) = _
      rw [(h115 _ (by omega)).1]; exact m6 p q hp (by omega)
    · show e' (0 + c) = nI (sid (pdn d) c)
      rw [Nat.zero_add, (h46 c (by omega)).2.2.2.2]
      unfold sid; rw [if_pos hc]
    · show v2 (0 + (7 * p + q)) = nI 0
      rw [Nat.zero_add, (h115 _ (by omega)).2]; rfl
    · exact ⟨0, xA, (fun _ => sid (pdn d)), (fun _ _ _ => 0), (fun _ => false), by omega, hxA, rfl, rfl, hnA, rfl, rfl, fun j hj => absurd hj (Nat.not_lt_zero _), fun j hj => absurd hj (Nat.not_lt_zero _)⟩
    · refine Or.inl ⟨rfl, ?_⟩
      show upd (upd (sm_isKept_v t) 0 0) 1 0 0 = 0
      rw [pk_un (by decide), pk_us]
    · refine Or.inl ⟨rfl, ?_⟩
      show upd (upd (sm_isKept_v t) 0 0) 1 0 1 = 0
      rw [pk_us]
    · exact ⟨hla.1, hla.2.1, Or.inl rfl⟩
  · have hne : ¬ nI p = -9 := nI_n9 (by omega)
    unfold f_X10_party f_X11_party
    rw [eL, eM, z5, z6, qs_bd, qs_bd, qs_u15, qs_u12, qs_f hne, qs_f hne]
    exact ⟨_, _, _, _, _, _, _, _, _, _, _, _, _, _, _, _, _, _, _, _, _, _, _, _, _, _, _, _, _, _, _, _, _, _, _, _, _, _, _, _, _, _, _, _, _, _, _, rfl, rfl, hI⟩
/-! ===== at first ===== -/
theorem Inv00 : Inv (((fun _ => 0), 0), (0, 0, 0, 0), ((fun _ => 0), 1, 0, 0), ((fun _ => 0), 0, 0), ((fun _ => 0), (fun _ => 0), 0), ((fun _ => 0), 0, 0), ((fun _ => 0), 0, 0), ((fun _ => 0), (fun _ => 0), (fun _ => 0), 0), ((fun _ => 0), 1, (fun _ => 0), 1, 0), (0, 0, 0, 0, 0, 0, 0, 0, 0, (fun _ => 0)), (0, 0, 0, 0, 0, 0, 0, 0, 0, (fun _ => 0)), 0) ((fun _ => 0), (fun _ => 0), (fun _ => 0), (fun _ => 0), (fun _ => 0), 0, 0, 0, 0, (fun _ => 0), (fun _ => 0), (fun _ => 0), (fun _ => 0), (fun _ => 0), 0, 0, 0, 0, (fun _ => 0), (fun _ => 0), (fun _ => 0), 0, 0, 0, (fun _ => 0), 0, 0, (fun _ => 0), 0, (fun _ => 0), (fun _ => 0), 0, (fun _ => 0), (fun _ => 0), (fun _ => 0), 0, (fun _ => 0), (fun _ => 0), (fun _ => 0), (fun _ => 0), (fun _ => 0), (fun _ => 0)) := by
  refine ⟨rfl, ⟨0, by omega, rfl, rfl, fun j hj => absurd hj (Nat.not_lt_zero _)⟩, ⟨0, by omega, rfl, rfl, fun j hj => absurd hj (Nat.not_lt_zero _)⟩, ⟨by decide, rfl, by decide⟩, d00 false false false, sid 0, (fun _ _ => 0), wf00 _ _ _, ⟨rfl, rfl, rfl, rfl, fun i hi => ?_, Mt_0, Mt_0, Mt_0, ?_, fun p q hp hq => rfl⟩, ⟨rfl, rfl, rfl, rfl, fun p hp => absurd hp (Nat.not_lt_zero p), fun p hp => absurd hp (Nat.not_lt_zero p), fun p hp => absurd hp (Nat.not_lt_zero p), fun p hp => absurd hp (Nat.not_lt_zero p), fun p q hp => absurd hp (Nat.not_lt_zero p)⟩, ST_sid, DN_0, rfl, DX_0 (fun _ _ => rfl), fun c hc => absurd hc (Nat.not_lt_zero c), fun p q hp => absurd hp (Nat.not_lt_zero p), ?_, Or.inl ⟨rfl, rfl⟩, Or.inl ⟨rfl, rfl⟩, ⟨by decide, by decide, Or.inl rfl⟩⟩
  · show bt 0 i = (decide (i < 0) && false)
    rw [b_0]; simp
  · refine Mt_cong Mt_0 (fun p q _ _ => ?_)
    show false = pdb (d00 false false false) p q
    unfold pdb
    have : decide (p < pdn (d00 false false false)) = false := decide_eq_false (Nat.not_lt_zero p)
    rw [this]; simp
  · exact ⟨0, 0, (fun _ => sid 0), (fun _ _ _ => 0), (fun _ => false), by omega, by omega, rfl, rfl, rfl, rfl, rfl, fun j hj => absurd hj (Nat.not_lt_zero _), fun j hj => absurd hj (Nat.not_lt_zero _)⟩
