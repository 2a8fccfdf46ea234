/-! ===== the whole text read ===== -/
theorem clr_lp : ∀ (m k : Nat) (w : Nat → Int32), k ≤ 64 → 64 - k < m → (∀ i, i < k → w i = 0) → ∃ w', lf_X4_clear_47 m (nI k) w = some w' ∧ ∀ i, i < 64 → w' i = 0 := by
  intro m
  induction m with
  | zero => intro k w h1 h2; omega
  | succ m ih =>
    intro k w h1 h2 h3
    rw [lf_X4_clear_47, qs_lt]
    by_cases hk : 64 ≤ k
    · rw [qs_t (c := (64 : Int32) ≤ nI k) (nI_le (a := 64) hk (by omega))]
      exact ⟨w, rfl, fun i hi => h3 i (by omega)⟩
    · rw [qs_f (c := (64 : Int32) ≤ nI k) (nI_ge (b := 64) (by omega) (by omega))]
      simp (disch := omega) only [qs_cl, qg_in2, qs_lt, nI_1]
      exact ih (k + 1) _ (by omega) (by omega) (fun i hi => by
        by_cases g : i = k
        · rw [g, pk_us]
        · rw [pk_un g]; exact h3 i (by omega))
theorem clearX (w : Nat → Int32) : ∃ w', f_X4_clear w = some (0, 0, 0, 0, 0, 0, 0, 0, 0, w') ∧ ∀ i, i < 64 → w' i = 0 := by
  obtain ⟨w', e, h⟩ := clr_lp pw_FU 0 w (by omega) (by unfold pw_FU; omega) (fun i hi => absurd hi (Nat.not_lt_zero _))
  have e' : lf_X4_clear_47 pw_FU 0 w = some w' := e
  unfold f_X4_clear
  rw [e', qs_bd, qs_u1]
  exact ⟨w', rfl, h⟩
def d00 (r t a : Bool) : PD := (0, r, t, a, (fun _ => false), (fun _ _ => false), (fun _ _ => false), (fun _ _ => false), (fun _ _ => 0))
theorem wf00 (r t a : Bool) : PWf (d00 r t a) := by
  have h : PrS 0 (fun _ _ => false) := ⟨fun p q g => Bool.noConfusion g, fun _ _ => rfl⟩
  exact ⟨Nat.zero_le _, h, h, h, fun p q r g => Bool.noConfusion g, fun _ _ _ => rfl, fun _ _ => Nat.zero_le _⟩
theorem dx00 (r t a : Bool) {w : Nat → Int32} (h : ∀ i, i < 64 → w i = 0) : DX0 (d00 r t a) (nI (pdn (d00 r t a))) 0 0 0 0 w :=
  ⟨rfl, fun i hi => by rw [b_0]; show false = (decide (i < 0) && false); simp, Mt_0, Mt_0, Mt_0, fun p q hp hq => by rw [h _ (by omega)]; rfl⟩
theorem dm00 (r t a : Bool) (woman mate quarrel joined worth : Nat → Int32) : DM0 (d00 r t a) (nI (pdn (d00 r t a))) woman mate quarrel joined worth :=
  ⟨rfl, fun p hp => absurd hp (Nat.not_lt_zero p), fun p hp => absurd hp (Nat.not_lt_zero p), fun p hp => absurd hp (Nat.not_lt_zero p), fun p hp => absurd hp (Nat.not_lt_zero p), fun p q hp => absurd hp (Nat.not_lt_zero p)⟩
/-- what both say of a text -/
def RS (L : Nat) (sg tx : Nat → Int32) (ki fi se : Int32) (wv : Nat → Int32) (mro mtu map : Int32) (woman mate quarrel joined worth : Nat → Int32) : Prop :=
  (∃ d ki' fi' se' wo co qu to ba wv' at_ woman' mate' quarrel' joined' worth', PWf d ∧ DX0 d (nI (pdn d)) wo co qu to wv' ∧ DM0 d (nI (pdn d)) woman' mate' quarrel' joined' worth' ∧ Mt ba (pdb d) ∧ f_X5_faultOf ki fi se (nI L) sg wv = some (-9, 4, ki', fi', se', b2i (pdr d), b2i (pdt d), b2i (pda d), nI (pdn d), wo, co, qu, to, ba, wv') ∧ f_X11_readText mro mtu map (nI L) woman mate quarrel joined worth tx = some (-9, nI (pdn d), b2i (pdr d), b2i (pdt d), b2i (pda d), at_, -9, woman', mate', quarrel', joined', worth')) ∨
  (∃ p, p ≤ L ∧ (∃ o1 o2 o3 o4 o5 o6 o7 o8 o9 o10 o11 o12 o13 o14, f_X5_faultOf ki fi se (nI L) sg wv = some (nI p, o1, o2, o3, o4, o5, o6, o7, o8, o9, o10, o11, o12, o13, o14)) ∧ ∃ q1 q2 q3 q4 q5 q6 q7 q8 q9 q10 q11, f_X11_readText mro mtu map (nI L) woman mate quarrel joined worth tx = some (nI p, q1, q2, q3, q4, q5, q6, q7, q8, q9, q10, q11))
theorem foRC {L : Nat} {sg : Nat → Int32} {ki fi se : Int32} {wv w' : Nat → Int32} (hc : f_X4_clear wv = some (0, 0, 0, 0, 0, 0, 0, 0, 0, w')) {p : Nat} (h : RC L (lf_X5_faultOf_11 (nI L) sg pw_FU (nI 0) 0 ki fi se 0 0 0 0 0 0 0 0 w') p) : ∃ o1 o2 o3 o4 o5 o6 o7 o8 o9 o10 o11 o12 o13 o14, f_X5_faultOf ki fi se (nI L) sg wv = some (nI p, o1, o2, o3, o4, o5, o6, o7, o8, o9, o10, o11, o12, o13, o14) := by
  unfold f_X5_faultOf
  rw [hc, qs_bd, qs_u10]
  rcases h with ⟨o1, o2, o3, o4, o5, o6, o7, o8, o9, o10, o11, o12, o13, h⟩ | ⟨rfl, o1, o2, o3, o4, o5, o6, o7, o8, o9, o10, o11, o12, o13, h4, h⟩
  · have h' : lf_X5_faultOf_11 (nI L) sg pw_FU 0 0 ki fi se 0 0 0 0 0 0 0 0 w' = _ := h
    rw [h', qs_bl, qs_u14]
    exact ⟨_, _, _, _, _, _, _, _, _, _, _, _, _, _, rfl⟩
  · have h' : lf_X5_faultOf_11 (nI p) sg pw_FU 0 0 ki fi se 0 0 0 0 0 0 0 0 w' = _ := h
    rw [h', qs_br, qs_u13, qs_f h4]
    exact ⟨_, _, _, _, _, _, _, _, _, _, _, _, _, _, rfl⟩
theorem rtG {len : Int32} {tx woman mate quarrel joined worth : Nat → Int32} {mro mtu map : Int32} (hl : ¬ len = 0) (h77 : tx 0 = 77) {r3 o6 o7 o12 o13 o22 o23 : Int32} {b9 b19 : Bool} (h01 : r3 = 0 ∨ r3 = 1) (h1 : f_X11_either 114 108 len 1 (-9) tx = some (r3, o6, o7)) (h2 : f_X11_figure 3 len o6 o7 tx = some (b2i b9, o12, o13)) (h3 : f_X11_figure 3 len o12 o13 tx = some (b2i b19, o22, o23)) {y1 y2 y3 : Int32} {y4 y5 y6 y7 y8 : Nat → Int32} (h4 : lf_X11_readText_89 len tx pw_FU 0 o22 o23 woman mate quarrel joined worth = some (y1, y2, y3, y4, y5, y6, y7, y8)) : f_X11_readText mro mtu map len woman mate quarrel joined worth tx = some (y3, y1, r3, b2i b9, b2i b19, y2, y3, y4, y5, y6, y7, y8) := by
  have ez : tx (Int32.toNatClampNeg 0) = 77 := h77
  have hb : ∀ b : Bool, pw_cd (¬ b2i b = 1) (0 : Int32) 1 = b2i b := fun b => by cases b <;> decide
  have hb2 : ∀ b : Bool, b2i b = 0 ∨ b2i b = 1 := fun b => by cases b; exact Or.inl rfl; exact Or.inr rfl
  unfold f_X11_readText
  rw [qs_f hl, qs_t ez, h1, qs_bd, qs_u3, qs_g h01, h2, qs_bd, qs_u3, hb, qs_lt, qs_g (hb2 b9), h3, qs_bd, qs_u3, hb, qs_lt, qs_g (hb2 b19), h4, qs_bd, qs_u8]
theorem rt89 {len fa at_ : Int32} {tx woman mate quarrel joined worth : Nat → Int32} (h : fa ≠ -9) : lf_X11_readText_89 len tx pw_FU 0 at_ fa woman mate quarrel joined worth = some (0, at_, fa, woman, mate, quarrel, joined, worth) := by
  have e : pw_FU = 99999 + 1 := rfl
  rw [e, lf_X11_readText_89, qs_nt h]
theorem b3 : ∀ j, j < 10 → bt 3 j = decide (j < 2) := by decide +kernel
theorem fg3 {L : Nat} (hL : L ≤ 64) {tx : Nat → Int32} {k v : Nat} (hk : k < L) (hv : v < 256) (ht : tx k = nI v) : f_X11_figure 3 (nI L) (nI k) (-9) tx = if v = 48 ∨ v = 49 then some (b2i (decide (v = 49)), nI (k + 1), -9) else some (b2i false, nI k, nI k) := by
  rw [fgIn hL 3 hk hv ht]
  by_cases h : v = 48 ∨ v = 49
  · rw [if_pos h, if_pos ⟨by omega, by omega, by rw [b3 _ (by omega)]; exact decide_eq_true (by omega)⟩]
    rcases h with rfl | rfl <;> rfl
  · rw [if_neg h, if_neg (fun g => h (by
      have g3 := g.2.2
      rw [b3 _ (by omega), decide_eq_true_eq] at g3
      omega))]; rfl
theorem readSim {L : Nat} (hL : L ≤ 64) {sg tx : Nat → Int32} (hT : TX L sg tx) (ki fi se : Int32) (wv : Nat → Int32) (mro mtu map : Int32) (woman mate quarrel joined worth : Nat → Int32) : RS L sg tx ki fi se wv mro mtu map woman mate quarrel joined worth := by
  obtain ⟨w', hc, hw0⟩ := clearX wv
  have eFU : ∃ m, pw_FU = m + 80 ∧ 1000 < m := ⟨99920, rfl, by omega⟩
  obtain ⟨mF, hF, hF2⟩ := eFU
  by_cases h0 : L = 0
  · subst h0
    refine Or.inr ⟨0, by omega, foRC hc (by rw [hF]; exact RC_E (by omega) _ (by decide)), ?_⟩
    unfold f_X11_readText
    rw [qs_t (c := nI 0 = 0) rfl]
    exact ⟨_, _, _, _, _, _, _, _, _, _, _, rfl⟩
  · have hl : ¬ nI L = 0 := nI_ne0 (by omega) (by omega)
    obtain ⟨v0, hv0, a1, a2⟩ := hT 0 (by omega)
    by_cases h77 : v0 = 77
    · subst h77
      have s0 : ∀ m, lf_X5_faultOf_11 (nI L) sg (m + 1) (nI 0) 0 ki fi se 0 0 0 0 0 0 0 0 w' = lf_X5_faultOf_11 (nI L) sg m (nI 1) 1 ki fi se 0 0 0 0 0 0 0 0 w' := fun m => clS hL (by omega) a1 m (ac0 77 (by omega) ki fi se 0 0 0 0 0 0 0 0 w')
      by_cases h1 : L ≤ 1
      · have : L = 1 := by omega
        subst this
        refine Or.inr ⟨1, by omega, foRC hc (by rw [hF, s0]; exact RC_E (by omega) _ (by decide)), ?_⟩
        have q1 : f_X11_either 114 108 (nI 1) 1 (-9) tx = some (0, nI 1, nI 1) := eiEnd (L := 1) (by omega) 114 108 (by omega) (by omega) tx
        have q2 : f_X11_figure 3 (nI 1) (nI 1) (nI 1) tx = some (b2i false, nI 1, nI 1) := fgSkip _ _ _ _ tx (nI_n9 (by omega))
        exact ⟨_, _, _, _, _, _, _, _, _, _, _, rtG hl a2 (Or.inl rfl) q1 q2 q2 (rt89 (nI_n9 (by omega)))⟩
      · obtain ⟨v1, hv1, b1, b2⟩ := hT 1 (by omega)
        have c1 := ac1 v1 hv1 ki fi se 0 0 0 0 0 0 0 0 w'
        have q1 : f_X11_either 114 108 (nI L) 1 (-9) tx = _ := eiIn hL 114 108 (by omega) (by omega) (show 1 < L by omega) hv1 b2
        by_cases g1 : v1 = 114 ∨ v1 = 108
        · rw [if_pos g1] at q1
          have gb : (decide (v1 = 114) || decide (v1 = 108)) = true := by simpa using g1
          rw [gb] at c1
          have h01 : b2i (decide (v1 = 114)) = 0 ∨ b2i (decide (v1 = 114)) = 1 := by cases decide (v1 = 114); exact Or.inl rfl; exact Or.inr rfl
          have s1 : ∀ m, lf_X5_faultOf_11 (nI L) sg (m + 1) (nI 1) 1 ki fi se 0 0 0 0 0 0 0 0 w' = lf_X5_faultOf_11 (nI L) sg m (nI 2) 2 ki fi se (b2i (decide (v1 = 114))) 0 0 0 0 0 0 0 w' := fun m => clS hL (by omega) b1 m c1
          by_cases h2 : L ≤ 2
          · have : L = 2 := by omega
            subst this
            refine Or.inr ⟨2, by omega, foRC hc (by rw [hF, s0, s1]; exact RC_E (by omega) _ (by decide)), ?_⟩
            have q2 : f_X11_figure 3 (nI 2) (nI (1 + 1)) (-9) tx = some (b2i false, nI 2, nI 2) := fgEnd (L := 2) (by omega) 3 tx
            have q3 : f_X11_figure 3 (nI 2) (nI 2) (nI 2) tx = some (b2i false, nI 2, nI 2) := fgSkip _ _ _ _ tx (nI_n9 (by omega))
            exact ⟨_, _, _, _, _, _, _, _, _, _, _, rtG hl a2 h01 q1 q2 q3 (rt89 (nI_n9 (by omega)))⟩
          · obtain ⟨v2, hv2, d1, d2⟩ := hT 2 (by omega)
            have c2 := ac2 v2 hv2 ki fi se (b2i (decide (v1 = 114))) 0 0 0 0 0 0 0 w'
            have q2 : f_X11_figure 3 (nI L) (nI (1 + 1)) (-9) tx = _ := fg3 hL (show 2 < L by omega) hv2 d2
            by_cases g2 : v2 = 48 ∨ v2 = 49
            · rw [if_pos g2] at q2
              have gb2 : (decide (v2 = 48) || decide (v2 = 49)) = true := by simpa using g2
              rw [gb2] at c2
              have s2 : ∀ m, lf_X5_faultOf_11 (nI L) sg (m + 1) (nI 2) 2 ki fi se (b2i (decide (v1 = 114))) 0 0 0 0 0 0 0 w' = lf_X5_faultOf_11 (nI L) sg m (nI 3) 3 ki fi se (b2i (decide (v1 = 114))) (b2i (decide (v2 = 49))) 0 0 0 0 0 0 w' := fun m => clS hL (by omega) d1 m c2
              by_cases h3 : L ≤ 3
              · have : L = 3 := by omega
                subst this
                refine Or.inr ⟨3, by omega, foRC hc (by rw [hF, s0, s1, s2]; exact RC_E (by omega) _ (by decide)), ?_⟩
                have q3 : f_X11_figure 3 (nI 3) (nI (2 + 1)) (-9) tx = some (b2i false, nI 3, nI 3) := fgEnd (L := 3) (by omega) 3 tx
                exact ⟨_, _, _, _, _, _, _, _, _, _, _, rtG hl a2 h01 q1 q2 q3 (rt89 (nI_n9 (by omega)))⟩
              · obtain ⟨v3, hv3, f1, f2⟩ := hT 3 (by omega)
                have c3 := ac3 v3 hv3 ki fi se (b2i (decide (v1 = 114))) (b2i (decide (v2 = 49))) 0 0 0 0 0 0 w'
                have q3 : f_X11_figure 3 (nI L) (nI (2 + 1)) (-9) tx = _ := fg3 hL (show 3 < L by omega) hv3 f2
                by_cases g3 : v3 = 48 ∨ v3 = 49
                · rw [if_pos g3] at q3
                  have gb3 : (decide (v3 = 48) || decide (v3 = 49)) = true := by simpa using g3
                  rw [gb3] at c3
                  have s3 : ∀ m, lf_X5_faultOf_11 (nI L) sg (m + 1) (nI 3) 3 ki fi se (b2i (decide (v1 = 114))) (b2i (decide (v2 = 49))) 0 0 0 0 0 0 w' = lf_X5_faultOf_11 (nI L) sg m (nI 4) 4 ki fi se (b2i (decide (v1 = 114))) (b2i (decide (v2 = 49))) (b2i (decide (v3 = 49))) 0 0 0 0 0 w' := fun m => clS hL (by omega) f1 m c3
                  rcases prsL hL hT (b2i (decide (v1 = 114))) (b2i (decide (v2 = 49))) (b2i (decide (v3 = 49))) 100 4 (by omega) (by omega) (d00 (decide (v1 = 114)) (decide (v2 = 49)) (decide (v3 = 49))) ki fi se 0 0 0 0 w' woman mate quarrel joined worth (wf00 _ _ _) (dx00 _ _ _ hw0) (dm00 _ _ _ _ _ _ _ _) (mF + 76) pw_FU (by omega) (by rw [hF]; omega) with ⟨d, ki', fi', se', wo', co', qu', to', wv', woman', mate', quarrel', joined', worth', z1, z2, z3, z4, z5, z6, z7, z8⟩ | ⟨p, q1', q2', q3', q4', q5', q6', q7', p1, p2, p3⟩
                  · obtain ⟨ba, eb, hb⟩ := settleX z1 z5
                    have z2' : pdr d = decide (v1 = 114) := z2
                    have z3' : pdt d = decide (v2 = 49) := z3
                    have z4' : pda d = decide (v3 = 49) := z4
                    have hlf : lf_X5_faultOf_11 (nI L) sg pw_FU 0 0 ki fi se 0 0 0 0 0 0 0 0 w' = some (.inr (4, ki', fi', se', b2i (decide (v1 = 114)), b2i (decide (v2 = 49)), b2i (decide (v3 = 49)), nI (pdn d), wo', co', qu', to', wv')) := by
                      show lf_X5_faultOf_11 (nI L) sg pw_FU (nI 0) 0 ki fi se 0 0 0 0 0 0 0 0 w' = _
                      rw [hF, s0, s1, s2, s3]; exact z7
                    have hrt := rtG (mro := mro) (mtu := mtu) (map := map) hl a2 h01 q1 q2 q3 z8
                    refine Or.inl ⟨d, ki', fi', se', wo', co', qu', to', ba, wv', _, woman', mate', quarrel', joined', worth', z1, z5, z6, hb, ?_, by rw [z2', z3', z4']; exact hrt⟩
                    unfold f_X5_faultOf
                    rw [hc, qs_bd, qs_u10, hlf, qs_br, qs_u13, qs_t (c := (4 : Int32) = 4) rfl, ← z2', ← z3', ← z4', eb, qs_bd, qs_u1]
                  · refine Or.inr ⟨p, p1, foRC hc (by rw [hF, s0, s1, s2, s3]; exact p2), ?_⟩
                    exact ⟨_, _, _, _, _, _, _, _, _, _, _, rtG hl a2 h01 q1 q2 q3 p3⟩
                · rw [if_neg g3] at q3
                  have gb3 : (decide (v3 = 48) || decide (v3 = 49)) = false := by simpa using g3
                  rw [gb3] at c3
                  refine Or.inr ⟨3, by omega, foRC hc (by rw [hF, s0, s1, s2]; exact RC_F hL (by omega) f1 _ c3), ?_⟩
                  exact ⟨_, _, _, _, _, _, _, _, _, _, _, rtG hl a2 h01 q1 q2 q3 (rt89 (nI_n9 (by omega)))⟩
            · rw [if_neg g2] at q2
              have gb2 : (decide (v2 = 48) || decide (v2 = 49)) = false := by simpa using g2
              rw [gb2] at c2
              refine Or.inr ⟨2, by omega, foRC hc (by rw [hF, s0, s1]; exact RC_F hL (by omega) d1 _ c2), ?_⟩
              have q3 : f_X11_figure 3 (nI L) (nI (1 + 1)) (nI (1 + 1)) tx = some (b2i false, nI (1 + 1), nI (1 + 1)) := fgSkip _ _ _ _ tx (nI_n9 (by omega))
              exact ⟨_, _, _, _, _, _, _, _, _, _, _, rtG hl a2 h01 q1 q2 q3 (rt89 (nI_n9 (by omega)))⟩
        · rw [if_neg g1] at q1
          have gb : (decide (v1 = 114) || decide (v1 = 108)) = false := by simpa using g1
          rw [gb] at c1
          refine Or.inr ⟨1, by omega, foRC hc (by rw [hF, s0]; exact RC_F hL (by omega) b1 _ c1), ?_⟩
          have q2 : f_X11_figure 3 (nI L) (nI 1) (nI 1) tx = some (b2i false, nI 1, nI 1) := fgSkip _ _ _ _ tx (nI_n9 (by omega))
          exact ⟨_, _, _, _, _, _, _, _, _, _, _, rtG hl a2 (Or.inl rfl) q1 q2 q2 (rt89 (nI_n9 (by omega)))⟩
    · have c0 := ac0 v0 hv0 ki fi se 0 0 0 0 0 0 0 0 w'
      rw [decide_eq_false h77] at c0
      refine Or.inr ⟨0, by omega, foRC hc (by rw [hF]; exact RC_F hL (by omega) a1 _ c0), ?_⟩
      have ez : ¬ tx (Int32.toNatClampNeg 0) = 77 := fun g => h77 ((vIs hv0 (c := 77) (by omega)).mp (a2.symm.trans g))
      unfold f_X11_readText
      rw [qs_f hl, qs_f ez]
      exact ⟨_, _, _, _, _, _, _, _, _, _, _, rfl⟩
