/-! ===== a part is read ===== -/
theorem rpC {x pe len at_ fa : Int32} {wm mt qu jo wo tx : Nat → Int32} (h : x = 67) (h2 : ¬ 6 ≤ pe) : f_X11_readPart x pe len at_ fa wm mt qu jo wo tx = (pw_bd (f_X11_add 1 (pe + 1) pe wm mt qu jo wo) <| pw_u6 fun o150 o151 o152 o153 o154 o155 => pw_bd (f_X11_add 0 (o150 - 1) o150 o151 o152 o153 o154 o155) <| pw_u6 fun o159 o160 o161 o162 o163 o164 => some (o159, at_ + 1, fa, o160, o161, o162, o163, o164)) := by
  unfold f_X11_readPart
  rw [qs_jn, qs_nf h, qs_f h2, qs_lt]
theorem rpS {x pe len at_ fa : Int32} {wm mt qu jo wo tx : Nat → Int32} (h67 : ¬ x = 67) (h : x = 83) (h2 : ¬ 7 ≤ pe) : f_X11_readPart x pe len at_ fa wm mt qu jo wo tx = (pw_bd (f_X11_either 119 109 len (at_ + 1) fa tx) <| pw_u3 fun r130 o133 o134 => pw_cd (¬ o134 = (-9)) (some (pe, o133, o134, wm, mt, qu, jo, wo)) (pw_bd (f_X11_add r130 (-9) pe wm mt qu jo wo) <| pw_u6 fun o139 o140 o141 o142 o143 o144 => some (o139, o133, o134, o140, o141, o142, o143, o144))) := by
  unfold f_X11_readPart
  rw [qs_jn, qs_nt h67]
  dsimp only
  rw [qs_jn, qs_nf h, qs_f h2, qs_lt]
theorem rpQ {x pe len at_ fa r : Int32} {wm mt qu jo wo tx : Nat → Int32} (h : x = 81 ∨ x = 84) (hb : f_X11_begins 0 pe qu jo wo = some r) (hr : ¬ r = 0) : f_X11_readPart x pe len at_ fa wm mt qu jo wo tx = (pw_bd (f_X11_readPair (b2i (decide (x = 81))) pe len at_ fa qu jo wo tx) <| pw_u4 fun o78 o79 o80 o81 => some (pe, o78, o79, wm, mt, o80, o81, wo)) := by
  have h67 : ¬ x = 67 := by rcases h with rfl | rfl <;> decide
  have h83 : ¬ x = 83 := by rcases h with rfl | rfl <;> decide
  unfold f_X11_readPart
  rw [qs_jn, qs_nt h67]
  dsimp only
  rw [qs_jn, qs_nt h83]
  dsimp only
  rw [qs_jn]
  by_cases h81 : x = 81
  · rw [qs_t h81]
    dsimp only
    rw [hb, qs_bd, qs_u1, qs_f hr, qs_nf h81, qs_lt, decide_eq_true h81]; rfl
  · rw [qs_f h81, qs_jn, qs_nf (h.resolve_left h81)]
    dsimp only
    rw [hb, qs_bd, qs_u1, qs_f hr, qs_nt h81, qs_lt, decide_eq_false h81]; rfl
theorem rpW {x pe len at_ fa r : Int32} {wm mt qu jo wo tx : Nat → Int32} (h : x = 87) (hb : f_X11_begins 1 pe qu jo wo = some r) (hr : ¬ r = 0) : f_X11_readPart x pe len at_ fa wm mt qu jo wo tx = (pw_bd (f_X11_figure r len (at_ + 1) fa tx) <| pw_u3 fun r50 o53 o54 => pw_bd (f_X11_open r50 1 pe qu jo wo) <| pw_u1 fun r55 => pw_bd (f_X11_figure r55 len o53 o54 tx) <| pw_u3 fun r58 o61 o62 => pw_bd (f_X11_figure 1022 len o61 o62 tx) <| pw_u3 fun r63 o66 o67 => pw_cd (¬ o67 = (-9)) (some (pe, o66, o67, wm, mt, qu, jo, wo)) (pw_gd (¬ (((7 * r50) + r58) < 0 ∨ 49 ≤ Int32.toNatClampNeg ((7 * r50) + r58))) <| pw_lt ((upd wo (Int32.toNatClampNeg ((7 * r50) + r58)) r63)) fun f70 => some (pe, o66, o67, wm, mt, qu, jo, f70))) := by
  have h67 : ¬ x = 67 := by rw [h]; decide
  have h83 : ¬ x = 83 := by rw [h]; decide
  have h81 : ¬ x = 81 := by rw [h]; decide
  have h84 : ¬ x = 84 := by rw [h]; decide
  unfold f_X11_readPart
  rw [qs_jn, qs_nt h67]
  dsimp only
  rw [qs_jn, qs_nt h83]
  dsimp only
  rw [qs_jn, qs_f h81, qs_jn, qs_nt h84]
  dsimp only
  rw [qs_jn, qs_nf h, hb, qs_bd, qs_u1, qs_f hr, qs_lt, qs_bd, qs_u1]
theorem rpX {x pe len at_ : Int32} {wm mt qu jo wo tx : Nat → Int32} (hC : x = 67 → 6 ≤ pe) (hS : x = 83 → 7 ≤ pe) (hQ : x = 81 ∨ x = 84 → f_X11_begins 0 pe qu jo wo = some 0) (hW : x = 87 → f_X11_begins 1 pe qu jo wo = some 0) : f_X11_readPart x pe len at_ (-9) wm mt qu jo wo tx = some (pe, at_, at_, wm, mt, qu, jo, wo) := by
  unfold f_X11_readPart
  rw [qs_jn]
  have e1 : ∀ {α : Type} (a b : α), pw_cd (¬ x = 67) a (pw_cd (6 ≤ pe) a b) = a := fun a b => by
    by_cases q : x = 67
    · rw [qs_nf q, qs_t (hC q)]
    · rw [qs_nt q]
  rw [e1]
  dsimp only
  rw [qs_jn]
  have e2 : ∀ {α : Type} (a b : α), pw_cd (¬ x = 83) a (pw_cd (7 ≤ pe) a b) = a := fun a b => by
    by_cases q : x = 83
    · rw [qs_nf q, qs_t (hS q)]
    · rw [qs_nt q]
  rw [e2]
  dsimp only
  rw [qs_jn]
  by_cases h : x = 81 ∨ x = 84
  · have h87 : ¬ x = 87 := by rcases h with rfl | rfl <;> decide
    by_cases h81 : x = 81
    · rw [qs_t h81]
      dsimp only
      rw [hQ h, qs_bd, qs_u1, qs_t rfl, qs_jn, qs_nt h87]
      dsimp only
      rw [failM, qs_bd, qs_u1]
    · rw [qs_f h81, qs_jn, qs_nf (h.resolve_left h81)]
      dsimp only
      rw [hQ h, qs_bd, qs_u1, qs_t rfl, qs_jn, qs_nt h87]
      dsimp only
      rw [failM, qs_bd, qs_u1]
  · rw [qs_f (fun g => h (Or.inl g)), qs_jn, qs_nt (fun g => h (Or.inr g))]
    dsimp only
    rw [qs_jn]
    by_cases h87 : x = 87
    · rw [qs_nf h87, hW h87, qs_bd, qs_u1, qs_t rfl]
      dsimp only
      rw [failM, qs_bd, qs_u1]
    · rw [qs_nt h87]
      dsimp only
      rw [failM, qs_bd, qs_u1]
/-! the two that a part names -/
theorem twoSim {d : PD} (hw : PWf d) {L : Nat} (hL : L ≤ 64) {sg tx : Nat → Int32} (hT : TX L sg tx) {k : Nat} (hk : k < L) {pe wo : Int32} {co qu to : Int64} {wv : Nat → Int32} (hx : DX0 d pe wo co qu to wv) {pm : Int32} {woman mate quarrel joined worth : Nat → Int32} (hm : DM0 d pm woman mate quarrel joined worth) {ki : Int32} {w : Bool} (hki : decide (ki = 87) = w) {r : Int32} (hr : ∀ b, b < 32 → bt r b = (decide (b < pdn d) && frA w d b)) (hE : frE w d = true) :
    ∃ r5 o8 o9 r10 r13 o16 o17, f_X11_figure r (nI L) (nI (k + 1)) (-9) tx = some (r5, o8, o9) ∧ f_X11_open r5 (b2i w) (nI (pdn d)) quarrel joined worth = some r10 ∧ f_X11_figure r10 (nI L) o8 o9 tx = some (r13, o16, o17) ∧
    ((∃ i j, i < pdn d ∧ frB w d i j = true ∧ r5 = nI i ∧ r13 = nI j ∧ o16 = nI (k + 3) ∧ o17 = -9 ∧ k + 3 ≤ L ∧ sg (k + 1) = nI (48 + i) ∧ sg (k + 2) = nI (48 + j)) ∨
     (∃ p, p ≤ L ∧ o17 = nI p ∧ ∀ m fi se ro tu ap, RC L (lf_X5_faultOf_11 (nI L) sg (m + 3) (nI (k + 1)) 6 ki fi se ro tu ap (nI (pdn d)) wo co qu to wv) p)) := by
  have hn := hw.1
  have h0 : 0 < pdn d := by
    obtain ⟨i, hi, _⟩ := frE_iff.mp hE
    omega
  obtain ⟨z, ez, hz⟩ := openM hw hm h0 w
  have ez' : f_X11_open 0 (b2i w) (nI (pdn d)) quarrel joined worth = some z := ez
  by_cases he : L ≤ k + 1
  · have : k + 1 = L := by omega
    rw [this]
    refine ⟨_, _, _, _, _, _, _, fgEnd hL r tx, ez', fgSkip _ _ _ _ tx (nI_n9 (by omega)), Or.inr ⟨L, Nat.le_refl _, rfl, fun m fi se ro tu ap => RC_E hL _ (by decide)⟩⟩
  · obtain ⟨v, hv, e1, e2⟩ := hT (k + 1) (by omega)
    have hf := fgIn hL r (show k + 1 < L by omega) hv e2
    have h6 := fun fi se ro tu ap => ac6 hw hx v hv ki fi se ro tu ap
    rw [hki] at h6
    by_cases hc : 48 ≤ v ∧ v ≤ 57 ∧ bt r (v - 48) = true
    · rw [if_pos hc] at hf
      obtain ⟨c1, c2, c3⟩ := hc
      rw [hr _ (by omega)] at c3
      simp only [Bool.and_eq_true, decide_eq_true_eq] at c3
      have h6' : ∀ fi se ro tu ap, f_X5_accepts (nI v) 6 ki fi se ro tu ap (nI (pdn d)) wo co qu to wv = some (1, 7, ki, nI (v - 48), se, ro, tu, ap, nI (pdn d), wo, co, qu, to, wv) := fun fi se ro tu ap => by
        rw [h6, c3.2, decide_eq_true c1, decide_eq_true (show v < 48 + pdn d by omega), vM48 c1]; rfl
      obtain ⟨y, ey, hy⟩ := openM hw hm c3.1 w
      by_cases he2 : L ≤ k + 2
      · have e3 : k + 1 + 1 = L := by omega
        rw [e3] at hf
        refine ⟨_, _, _, _, _, _, _, hf, ey, fgEnd hL y tx, Or.inr ⟨L, Nat.le_refl _, rfl, fun m fi se ro tu ap => ?_⟩⟩
        rw [clS hL (show k + 1 < L by omega) e1 _ (h6' fi se ro tu ap), e3]
        exact RC_E hL _ (by decide)
      · obtain ⟨v2, hv2, f1, f2⟩ := hT (k + 2) (by omega)
        have hf2 := fgIn hL y (show k + 2 < L by omega) hv2 f2
        have h7 := fun se => ac7a hw hx hv2 c3.1 ki se
        rw [hki] at h7
        by_cases hc2 : 48 ≤ v2 ∧ v2 ≤ 57 ∧ bt y (v2 - 48) = true
        · rw [if_pos hc2] at hf2
          refine ⟨_, _, _, _, _, _, _, hf, ey, hf2, Or.inl ⟨v - 48, v2 - 48, c3.1, ?_, rfl, rfl, rfl, rfl, by omega, ?_, ?_⟩⟩
          · rw [← hy _ (by omega)]; exact hc2.2.2
          · rw [e1]; exact congrArg nI (by omega)
          · rw [f1]; exact congrArg nI (by omega)
        · rw [if_neg hc2] at hf2
          refine ⟨_, _, _, _, _, _, _, hf, ey, hf2, Or.inr ⟨k + 2, by omega, rfl, fun m fi se ro tu ap => ?_⟩⟩
          rw [clS hL (show k + 1 < L by omega) e1 _ (h6' fi se ro tu ap)]
          rcases h7 se with ⟨g1, g2⟩ | ⟨g1, g2, g3, g4⟩
          · exact RC_F hL (show k + 2 < L by omega) f1 _ (ac7 (Or.inl rfl) g2)
          · exact absurd ⟨g1, by omega, by rw [hy _ (by omega)]; exact g3⟩ hc2
    · rw [if_neg hc] at hf
      refine ⟨_, _, _, _, _, _, _, hf, ez', fgSkip _ _ _ _ tx (nI_n9 (by omega)), Or.inr ⟨k + 1, by omega, rfl, fun m fi se ro tu ap => ?_⟩⟩
      have hb : (decide (48 ≤ v) && decide (v < 48 + pdn d) && frA w d (v - 48)) = false := by
        rw [Bool.eq_false_iff]
        intro g
        simp only [Bool.and_eq_true, decide_eq_true_eq] at g
        refine hc ⟨g.1.1, by omega, ?_⟩
        rw [hr _ (by omega), g.2, decide_eq_true (show v - 48 < pdn d by omega)]; rfl
      have h6' := h6 fi se ro tu ap
      rw [hb] at h6'
      exact RC_F hL (show k + 1 < L by omega) e1 _ h6'
/-- what a part leads to -/
def PS (L k : Nat) (sg tx : Nat → Int32) (d : PD) (ki fi se ro tu ap wo : Int32) (co qu to : Int64) (wv : Nat → Int32) (woman mate quarrel joined worth : Nat → Int32) : Prop :=
  (∃ d' s ki' fi' se' wo' co' qu' to' wv' woman' mate' quarrel' joined' worth', 1 ≤ s ∧ k + s ≤ L ∧ PWf d' ∧ pdr d' = pdr d ∧ pdt d' = pdt d ∧ pda d' = pda d ∧ DX0 d' (nI (pdn d')) wo' co' qu' to' wv' ∧ DM0 d' (nI (pdn d')) woman' mate' quarrel' joined' worth' ∧ f_X11_readPart (tx k) (nI (pdn d)) (nI L) (nI k) (-9) woman mate quarrel joined worth tx = some (nI (pdn d'), nI (k + s), -9, woman', mate', quarrel', joined', worth') ∧ ∀ m, lf_X5_faultOf_11 (nI L) sg (m + s) (nI k) 4 ki fi se ro tu ap (nI (pdn d)) wo co qu to wv = lf_X5_faultOf_11 (nI L) sg m (nI (k + s)) 4 ki' fi' se' ro tu ap (nI (pdn d')) wo' co' qu' to' wv') ∨
  (∃ p q1 q2 q3 q4 q5 q6 q7, p ≤ L ∧ f_X11_readPart (tx k) (nI (pdn d)) (nI L) (nI k) (-9) woman mate quarrel joined worth tx = some (q1, q2, nI p, q3, q4, q5, q6, q7) ∧ ∀ m, RC L (lf_X5_faultOf_11 (nI L) sg (m + 5) (nI k) 4 ki fi se ro tu ap (nI (pdn d)) wo co qu to wv) p)
