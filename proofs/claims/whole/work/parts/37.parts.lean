/-! ===== the class takes a part's letter ===== -/
theorem apC {n : Nat} (hn : n < 6) (wo : Int32) (co qu to : Int64) (wv : Nat → Int32) : f_X5_acceptsPart (nI 67) 4 (nI n) wo co qu to wv = some (1, 4, nI 67, nI (n + 2), wo ||| ((1 : Int32) <<< (nI n &&& 31)), co ||| f_X3_bothWays (nI n) (nI (n + 1))) := by
  have a1 : f_X4_admit 1 (nI n) wo = _ := admitX true (n := n) wo
  have a0 : f_X4_admit 0 (nI (n + 1)) (wo ||| ((1 : Int32) <<< (nI n &&& 31))) = _ := admitX false (n := n + 1) (wo ||| ((1 : Int32) <<< (nI n &&& 31)))
  have e2 : nI n + 2 = nI (n + 2) := nI_add n 2
  rw [if_pos rfl] at a1
  rw [if_neg (by decide)] at a0
  unfold f_X5_acceptsPart f_X4_admitCouple
  rw [qs_t (c := nI 67 = 67) rfl, e2, qs_t (c := nI (n + 2) ≤ 7) (nI_le (b := 7) (by omega) (by omega)), qs_lt, qs_lt, nI_1, a1, qs_bd, qs_u2, a0, qs_bd, qs_u2, qs_bd, qs_u3]
theorem apC' {n : Nat} (hn : 6 ≤ n) (hn7 : n ≤ 7) (wo : Int32) (co qu to : Int64) (wv : Nat → Int32) : f_X5_acceptsPart (nI 67) 4 (nI n) wo co qu to wv = some (0, 4, nI 67, nI n, wo, co) := by
  have e2 : nI n + 2 = nI (n + 2) := nI_add n 2
  unfold f_X5_acceptsPart
  rw [qs_t (c := nI 67 = 67) rfl, e2, qs_f (c := nI (n + 2) ≤ 7) (nI_ge (a := 7) (by omega) (by omega))]
theorem apS {n : Nat} (hn7 : n ≤ 7) (wo : Int32) (co qu to : Int64) (wv : Nat → Int32) : f_X5_acceptsPart (nI 83) 4 (nI n) wo co qu to wv = some (b2i (decide (n < 7)), 5, nI 83, nI n, wo, co) := by
  unfold f_X5_acceptsPart
  rw [qs_f (c := nI 83 = 67) (by decide), qs_f (c := nI 83 = 81) (by decide), qs_t (c := nI 83 = 83) rfl]
  by_cases h : n < 7
  · rw [qs_f (c := (7 : Int32) ≤ nI n) (nI_ge (b := 7) (by omega) (by omega)), decide_eq_true h]; rfl
  · rw [qs_t (c := (7 : Int32) ≤ nI n) (nI_le (a := 7) (by omega) (by omega)), decide_eq_false h]; rfl
theorem apP {d : PD} (hw : PWf d) {pe wo : Int32} {co qu to : Int64} {wv : Nat → Int32} (h : DX0 d pe wo co qu to wv) {x : Int32} (hx : x = 81 ∨ x = 84 ∨ x = 87) : f_X5_acceptsPart x 4 (nI (pdn d)) wo co qu to wv = some (b2i (frE (decide (x = 87)) d), 6, x, nI (pdn d), wo, co) := by
  have hs := someX hw h x
  have h01 : b2i (frE (decide (x = 87)) d) = 0 ∨ b2i (frE (decide (x = 87)) d) = 1 := by cases frE (decide (x = 87)) d; exact Or.inl rfl; exact Or.inr rfl
  unfold f_X5_acceptsPart
  rw [hs]
  rcases hx with rfl | rfl | rfl
  · rw [qs_f (c := (81 : Int32) = 67) (by decide), qs_t (c := (81 : Int32) = 81) rfl, qs_bd, qs_u1, qs_g h01]
  · rw [qs_f (c := (84 : Int32) = 67) (by decide), qs_f (c := (84 : Int32) = 81) (by decide), qs_f (c := (84 : Int32) = 83) (by decide), qs_t (c := (84 : Int32) = 84) rfl, qs_bd, qs_u1, qs_g h01]
  · rw [qs_f (c := (87 : Int32) = 67) (by decide), qs_f (c := (87 : Int32) = 81) (by decide), qs_f (c := (87 : Int32) = 83) (by decide), qs_f (c := (87 : Int32) = 84) (by decide), qs_t (c := (87 : Int32) = 87) rfl, qs_bd, qs_u1, qs_g h01]
theorem apO {x : Int32} (h1 : ¬ x = 67) (h2 : ¬ x = 81) (h3 : ¬ x = 83) (h4 : ¬ x = 84) (h5 : ¬ x = 87) (pe wo : Int32) (co qu to : Int64) (wv : Nat → Int32) : f_X5_acceptsPart x 4 pe wo co qu to wv = some (0, 4, x, pe, wo, co) := by
  unfold f_X5_acceptsPart
  rw [qs_f h1, qs_f h2, qs_f h3, qs_f h4, qs_f h5]
/-! both, by the letter -/
theorem psC {d : PD} (hw : PWf d) {L : Nat} (hL : L ≤ 64) {sg tx : Nat → Int32} {k : Nat} (hk : k < L) {wo : Int32} {co qu to : Int64} {wv : Nat → Int32} (hx : DX0 d (nI (pdn d)) wo co qu to wv) {woman mate quarrel joined worth : Nat → Int32} (hm : DM0 d (nI (pdn d)) woman mate quarrel joined worth) (e1 : sg k = nI 67) (e2 : tx k = nI 67) (ki fi se ro tu ap : Int32) : PS L k sg tx d ki fi se ro tu ap wo co qu to wv woman mate quarrel joined worth := by
  have hn := hw.1
  by_cases h6 : pdn d < 6
  · obtain ⟨w1, a1, a2, a3⟩ := add1M true (nI (pdn d + 1)) (show pdn d < 7 by omega) woman mate quarrel joined worth
    obtain ⟨w2, b1, b2, b3⟩ := add1M false (nI (pdn d)) (show pdn d + 1 < 7 by omega) (upd woman (pdn d) (b2i true)) (upd mate (pdn d) (nI (pdn d + 1))) (upd quarrel (pdn d) 0) (upd joined (pdn d) 0) w1
    have a1' : f_X11_add 1 (nI (pdn d + 1)) (nI (pdn d)) woman mate quarrel joined worth = _ := a1
    have b1' : f_X11_add 0 (nI (pdn d)) (nI (pdn d + 1)) (upd woman (pdn d) (b2i true)) (upd mate (pdn d) (nI (pdn d + 1))) (upd quarrel (pdn d) 0) (upd joined (pdn d) 0) w1 = _ := b1
    refine Or.inl ⟨dCou d, 1, _, _, _, _, _, _, _, _, _, _, _, _, _, Nat.le_refl _, by omega, wfCou hw h6, rfl, rfl, rfl, dxCou h6 hx, dmCou hw hm a2 a3 b2 b3, ?_, fun m => clS hL hk e1 m (ac4 (Or.inr rfl) (apC h6 wo co qu to wv))⟩
    rw [e2, rpC (x := nI 67) rfl (nI_ge (b := 6) h6 (by omega)), nI_1, a1', qs_bd, qs_u6, nI_pred, b1', qs_bd, qs_u6, nI_1]
    rfl
  · have hrp := rpX (x := tx k) (pe := nI (pdn d)) (len := nI L) (at_ := nI k) (wm := woman) (mt := mate) (qu := quarrel) (jo := joined) (wo := worth) (tx := tx) (fun _ => nI_le (a := 6) (by omega) (by omega)) (fun g => absurd (e2.symm.trans g) (by decide)) (fun g => absurd (g.imp (e2.symm.trans ·) (e2.symm.trans ·)) (by decide)) (fun g => absurd (e2.symm.trans g) (by decide))
    exact Or.inr ⟨k, _, _, _, _, _, _, _, by omega, hrp, fun m => RC_F hL hk e1 _ (ac4 (Or.inl rfl) (apC' (by omega) hn wo co qu to wv))⟩
theorem psS {d : PD} (hw : PWf d) {L : Nat} (hL : L ≤ 64) {sg tx : Nat → Int32} (hT : TX L sg tx) {k : Nat} (hk : k < L) {wo : Int32} {co qu to : Int64} {wv : Nat → Int32} (hx : DX0 d (nI (pdn d)) wo co qu to wv) {woman mate quarrel joined worth : Nat → Int32} (hm : DM0 d (nI (pdn d)) woman mate quarrel joined worth) (e1 : sg k = nI 83) (e2 : tx k = nI 83) (ki fi se ro tu ap : Int32) : PS L k sg tx d ki fi se ro tu ap wo co qu to wv woman mate quarrel joined worth := by
  have hn := hw.1
  have hap := apS hn wo co qu to wv
  by_cases h7 : pdn d < 7
  · rw [decide_eq_true h7] at hap
    have hap' : f_X5_acceptsPart (nI 83) 4 (nI (pdn d)) wo co qu to wv = some (1, 5, nI 83, nI (pdn d), wo, co) := hap
    have hrp := rpS (x := nI 83) (pe := nI (pdn d)) (len := nI L) (at_ := nI k) (fa := -9) (wm := woman) (mt := mate) (qu := quarrel) (jo := joined) (wo := worth) (tx := tx) (by decide) rfl (nI_ge (b := 7) h7 (by omega))
    rw [nI_1] at hrp
    by_cases he : L ≤ k + 1
    · have e3 : k + 1 = L := by omega
      have hei : f_X11_either 119 109 (nI L) (nI (k + 1)) (-9) tx = some (0, nI L, nI L) := by rw [e3]; exact eiEnd hL 119 109 (by omega) (by omega) tx
      rw [hei, qs_bd, qs_u3, qs_nt (nI_n9 (by omega))] at hrp
      refine Or.inr ⟨L, _, _, _, _, _, _, _, Nat.le_refl _, by rw [e2]; exact hrp, fun m => ?_⟩
      rw [clS hL hk e1 _ (ac4 (Or.inr rfl) hap'), e3]
      exact RC_E hL _ (by decide)
    · obtain ⟨v, hv, f1, f2⟩ := hT (k + 1) (by omega)
      have hei : f_X11_either 119 109 (nI L) (nI (k + 1)) (-9) tx = _ := eiIn hL 119 109 (by omega) (by omega) (show k + 1 < L by omega) hv f2
      have h5 := ac5 v hv (nI 83) fi se ro tu ap wo (pdn d) co qu to wv
      by_cases hc : v = 119 ∨ v = 109
      · rw [if_pos hc] at hei
        have hb : (decide (v = 119) || decide (v = 109)) = true := by simpa using hc
        rw [hb] at h5
        obtain ⟨w1, a1, a2, a3⟩ := add1M (decide (v = 119)) (-9) h7 woman mate quarrel joined worth
        rw [hei, qs_bd, qs_u3, qs_nf rfl, a1, qs_bd, qs_u6] at hrp
        refine Or.inl ⟨dSin d (decide (v = 119)), 2, nI 83, fi, se, _, _, _, _, _, _, _, _, _, _, by omega, by omega, wfSin hw h7 _, rfl, rfl, rfl, dxSin h7 hx _, dmSin hw hm _ a2 a3, by rw [e2]; exact hrp, fun m => ?_⟩
        rw [clS hL hk e1 _ (ac4 (Or.inr rfl) hap')]
        exact clS hL (show k + 1 < L by omega) f1 m h5
      · rw [if_neg hc] at hei
        have hb : (decide (v = 119) || decide (v = 109)) = false := by simpa using hc
        rw [hb] at h5
        rw [hei, qs_bd, qs_u3, qs_nt (nI_n9 (by omega))] at hrp
        refine Or.inr ⟨k + 1, _, _, _, _, _, _, _, by omega, by rw [e2]; exact hrp, fun m => ?_⟩
        rw [clS hL hk e1 _ (ac4 (Or.inr rfl) hap')]
        exact RC_F hL (show k + 1 < L by omega) f1 _ h5
  · rw [decide_eq_false h7] at hap
    have hrp := rpX (x := tx k) (pe := nI (pdn d)) (len := nI L) (at_ := nI k) (wm := woman) (mt := mate) (qu := quarrel) (jo := joined) (wo := worth) (tx := tx) (fun g => absurd (e2.symm.trans g) (by decide)) (fun _ => nI_le (a := 7) (by omega) (by omega)) (fun g => absurd (g.imp (e2.symm.trans ·) (e2.symm.trans ·)) (by decide)) (fun g => absurd (e2.symm.trans g) (by decide))
    exact Or.inr ⟨k, _, _, _, _, _, _, _, by omega, hrp, fun m => RC_F hL hk e1 _ (ac4 (Or.inl rfl) hap)⟩
theorem pairF {x1 pe len : Int32} {qu jo wo tx : Nat → Int32} {k : Nat} {r r5 o8 o9 r10 r13 o16 o17 : Int32} (hb : f_X11_begins 0 pe qu jo wo = some r) (h1 : f_X11_figure r len (nI (k + 1)) (-9) tx = some (r5, o8, o9)) (h2 : f_X11_open r5 0 pe qu jo wo = some r10) (h3 : f_X11_figure r10 len o8 o9 tx = some (r13, o16, o17)) (h : o17 ≠ -9) : f_X11_readPair x1 pe len (nI k) (-9) qu jo wo tx = some (o16, o17, qu, jo) := by
  unfold f_X11_readPair
  rw [qs_lt, nI_1, hb, qs_bd, qs_u1, h1, qs_bd, qs_u3, h2, qs_bd, qs_u1, h3, qs_bd, qs_u3, qs_nt h]
theorem pairT (b : Bool) {pe len : Int32} {qu jo wo tx : Nat → Int32} {k i j : Nat} (hi : i < 7) (hj : j < 7) {r o8 o9 r10 o16 : Int32} (hb : f_X11_begins 0 pe qu jo wo = some r) (h1 : f_X11_figure r len (nI (k + 1)) (-9) tx = some (nI i, o8, o9)) (h2 : f_X11_open (nI i) 0 pe qu jo wo = some r10) (h3 : f_X11_figure r10 len o8 o9 tx = some (nI j, o16, -9)) : f_X11_readPair (b2i b) pe len (nI k) (-9) qu jo wo tx = some (o16, -9, (if b = true then upd (upd qu i (qu i ||| ((1 : Int32) <<< (nI j &&& 31)))) j (upd qu i (qu i ||| ((1 : Int32) <<< (nI j &&& 31))) j ||| ((1 : Int32) <<< (nI i &&& 31))) else qu), (if b = true then jo else upd (upd jo i (jo i ||| ((1 : Int32) <<< (nI j &&& 31)))) j (upd jo i (jo i ||| ((1 : Int32) <<< (nI j &&& 31))) j ||| ((1 : Int32) <<< (nI i &&& 31))))) := by
  unfold f_X11_readPair
  rw [qs_lt, nI_1, hb, qs_bd, qs_u1, h1, qs_bd, qs_u3, h2, qs_bd, qs_u1, h3, qs_bd, qs_u3, qs_nf rfl]
  cases b
  · have c : b2i false = 0 := rfl
    simp (disch := omega) only [qs_cl, qg_in2, qs_lt, qs_t c, rowZ]
    rfl
  · have c : ¬ b2i true = 0 := by decide
    simp (disch := omega) only [qs_cl, qg_in2, qs_lt, qs_f c, rowZ]
    rfl
theorem psP {d : PD} (hw : PWf d) {L : Nat} (hL : L ≤ 64) {sg tx : Nat → Int32} (hT : TX L sg tx) {k : Nat} (hk : k < L) {wo : Int32} {co qu to : Int64} {wv : Nat → Int32} (hx : DX0 d (nI (pdn d)) wo co qu to wv) {woman mate quarrel joined worth : Nat → Int32} (hm : DM0 d (nI (pdn d)) woman mate quarrel joined worth) {v : Nat} (hv : v = 81 ∨ v = 84) (e1 : sg k = nI v) (e2 : tx k = nI v) (ki fi se ro tu ap : Int32) : PS L k sg tx d ki fi se ro tu ap wo co qu to wv woman mate quarrel joined worth := by
  have hn := hw.1
  have hvx : nI v = 81 ∨ nI v = 84 := hv.imp (fun g => by rw [g]; rfl) (fun g => by rw [g]; rfl)
  have h87 : ¬ nI v = 87 := by rcases hvx with g | g <;> rw [g] <;> decide
  have hap := apP hw hx (x := nI v) (hvx.imp id Or.inl)
  rw [decide_eq_false h87] at hap
  obtain ⟨r, er, hr, hr0⟩ := begsM hw hm false
  have er' : f_X11_begins 0 (nI (pdn d)) quarrel joined worth = some r := er
  cases hE : frE false d
  · rw [hE] at hap
    have hrp := rpX (x := tx k) (pe := nI (pdn d)) (len := nI L) (at_ := nI k) (wm := woman) (mt := mate) (qu := quarrel) (jo := joined) (wo := worth) (tx := tx) (fun g => by rw [e2] at g; rcases hvx with q | q <;> rw [q] at g <;> exact absurd g (by decide)) (fun g => by rw [e2] at g; rcases hvx with q | q <;> rw [q] at g <;> exact absurd g (by decide)) (fun _ => by rw [er', hr0.mpr hE]) (fun g => absurd (e2.symm.trans g) h87)
    exact Or.inr ⟨k, _, _, _, _, _, _, _, by omega, hrp, fun m => RC_F hL hk e1 _ (ac4 (Or.inl rfl) hap)⟩
  · rw [hE] at hap
    have hap' : f_X5_acceptsPart (nI v) 4 (nI (pdn d)) wo co qu to wv = some (1, 6, nI v, nI (pdn d), wo, co) := hap
    have hr1 : ¬ r = 0 := fun g => by rw [hr0.mp g] at hE; exact absurd hE (by decide)
    have hrp := rpQ (x := nI v) (pe := nI (pdn d)) (len := nI L) (at_ := nI k) (fa := -9) (wm := woman) (mt := mate) (qu := quarrel) (jo := joined) (wo := worth) (tx := tx) hvx er' hr1
    obtain ⟨r5, o8, o9, r10, r13, o16, o17, t1, t2, t3, tc⟩ := twoSim hw hL hT hk hx hm (ki := nI v) (w := false) (decide_eq_false h87) hr hE
    rcases tc with ⟨i, j, i1, i2, rfl, rfl, rfl, rfl, i3, i4, i5⟩ | ⟨p, p1, rfl, p3⟩
    · obtain ⟨j1, j2⟩ := frB_lt i2
      have h6 : f_X5_accepts (nI (48 + i)) 6 (nI v) fi se ro tu ap (nI (pdn d)) wo co qu to wv = some (1, 7, nI v, nI i, se, ro, tu, ap, nI (pdn d), wo, co, qu, to, wv) := by
        have := ac6 hw hx (48 + i) (by omega) (nI v) fi se ro tu ap
        rw [decide_eq_false h87, vM48 (by omega), Nat.add_sub_cancel_left, decide_eq_true (show 48 ≤ 48 + i by omega), decide_eq_true (show 48 + i < 48 + pdn d by omega), frA_iff.mpr ⟨j, i2⟩] at this
        exact this
      have h7 := ac7a hw hx (v := 48 + j) (by omega) i1 (nI v) se
      rw [decide_eq_false h87, Nat.add_sub_cancel_left] at h7
      rcases h7 with ⟨g, _⟩ | ⟨_, _, _, h7⟩
      · exact absurd ⟨by omega, by omega, i2⟩ g
      · rcases hv with rfl | rfl
        · rw [if_pos (show nI 81 = 81 from rfl)] at h7
          have hp := pairT true (show i < 7 by omega) (show j < 7 by omega) er' t1 t2 t3
          rw [show b2i (decide (nI 81 = 81)) = b2i true from rfl, hp, qs_bd, qs_u4, if_pos rfl, if_pos rfl] at hrp
          refine Or.inl ⟨dQua d i j, 3, nI 81, nI i, nI j, _, _, _, _, _, _, _, _, _, _, by omega, i3, wfQua hw i1 j1 (Ne.symm j2), rfl, rfl, rfl, dxQua hx (by omega) (by omega), dmQua hn hm i1 j1 (Ne.symm j2), by rw [e2]; exact hrp, fun m => ?_⟩
          rw [clS hL hk e1 _ (ac4 (Or.inr rfl) hap'), clS hL (show k + 1 < L by omega) i4 _ h6]
          exact clS hL (show k + 2 < L by omega) i5 m (ac7 (Or.inr rfl) h7)
        · rw [if_neg (show ¬ nI 84 = 81 by decide), if_pos (show nI 84 = 84 from rfl)] at h7
          have hp := pairT false (show i < 7 by omega) (show j < 7 by omega) er' t1 t2 t3
          rw [show b2i (decide (nI 84 = 81)) = b2i false from rfl, hp, qs_bd, qs_u4, if_neg (by decide), if_neg (by decide)] at hrp
          refine Or.inl ⟨dTog d i j, 3, nI 84, nI i, nI j, _, _, _, _, _, _, _, _, _, _, by omega, i3, wfTog hw i1 j1 (Ne.symm j2), rfl, rfl, rfl, dxTog hx (by omega) (by omega), dmTog hn hm i1 j1 (Ne.symm j2), by rw [e2]; exact hrp, fun m => ?_⟩
          rw [clS hL hk e1 _ (ac4 (Or.inr rfl) hap'), clS hL (show k + 1 < L by omega) i4 _ h6]
          exact clS hL (show k + 2 < L by omega) i5 m (ac7 (Or.inr rfl) h7)
    · have hp := pairF (x1 := b2i (decide (nI v = 81))) er' t1 t2 t3 (nI_n9 (by omega))
      rw [hp, qs_bd, qs_u4] at hrp
      refine Or.inr ⟨p, _, _, _, _, _, _, _, p1, by rw [e2]; exact hrp, fun m => ?_⟩
      rw [clS hL hk e1 _ (ac4 (Or.inr rfl) hap')]
      exact p3 _ _ _ _ _ _
theorem b1022 : ∀ j, j < 10 → bt 1022 j = decide (1 ≤ j) := by decide +kernel
theorem psW {d : PD} (hw : PWf d) {L : Nat} (hL : L ≤ 64) {sg tx : Nat → Int32} (hT : TX L sg tx) {k : Nat} (hk : k < L) {wo : Int32} {co qu to : Int64} {wv : Nat → Int32} (hx : DX0 d (nI (pdn d)) wo co qu to wv) {woman mate quarrel joined worth : Nat → Int32} (hm : DM0 d (nI (pdn d)) woman mate quarrel joined worth) (e1 : sg k = nI 87) (e2 : tx k = nI 87) (ki fi se ro tu ap : Int32) : PS L k sg tx d ki fi se ro tu ap wo co qu to wv woman mate quarrel joined worth := by
  have hn := hw.1
  have hap := apP hw hx (x := nI 87) (Or.inr (Or.inr rfl))
  rw [decide_eq_true (show nI 87 = 87 from rfl)] at hap
  obtain ⟨r, er, hr, hr0⟩ := begsM hw hm true
  have er' : f_X11_begins 1 (nI (pdn d)) quarrel joined worth = some r := er
  cases hE : frE true d
  · rw [hE] at hap
    have hrp := rpX (x := tx k) (pe := nI (pdn d)) (len := nI L) (at_ := nI k) (wm := woman) (mt := mate) (qu := quarrel) (jo := joined) (wo := worth) (tx := tx) (fun g => absurd (e2.symm.trans g) (by decide)) (fun g => absurd (e2.symm.trans g) (by decide)) (fun g => absurd (g.imp (e2.symm.trans ·) (e2.symm.trans ·)) (by decide)) (fun _ => by rw [er', hr0.mpr hE])
    exact Or.inr ⟨k, _, _, _, _, _, _, _, by omega, hrp, fun m => RC_F hL hk e1 _ (ac4 (Or.inl rfl) hap)⟩
  · rw [hE] at hap
    have hap' : f_X5_acceptsPart (nI 87) 4 (nI (pdn d)) wo co qu to wv = some (1, 6, nI 87, nI (pdn d), wo, co) := hap
    have hr1 : ¬ r = 0 := fun g => by rw [hr0.mp g] at hE; exact absurd hE (by decide)
    have hrp := rpW (x := nI 87) (pe := nI (pdn d)) (len := nI L) (at_ := nI k) (fa := -9) (wm := woman) (mt := mate) (qu := quarrel) (jo := joined) (wo := worth) (tx := tx) rfl er' hr1
    obtain ⟨r5, o8, o9, r10, r13, o16, o17, t1, t2, t3, tc⟩ := twoSim hw hL hT hk hx hm (ki := nI 87) (w := true) (decide_eq_true rfl) hr hE
    have t2' : f_X11_open r5 1 (nI (pdn d)) quarrel joined worth = some r10 := t2
    rw [nI_1, t1, qs_bd, qs_u3, t2', qs_bd, qs_u1, t3, qs_bd, qs_u3] at hrp
    rcases tc with ⟨i, j, i1, i2, rfl, rfl, rfl, rfl, i3, i4, i5⟩ | ⟨p, p1, rfl, p3⟩
    · obtain ⟨j1, j2⟩ := frB_lt i2
      have h6 : f_X5_accepts (nI (48 + i)) 6 (nI 87) fi se ro tu ap (nI (pdn d)) wo co qu to wv = some (1, 7, nI 87, nI i, se, ro, tu, ap, nI (pdn d), wo, co, qu, to, wv) := by
        have := ac6 hw hx (48 + i) (by omega) (nI 87) fi se ro tu ap
        rw [decide_eq_true (show nI 87 = 87 from rfl), vM48 (by omega), Nat.add_sub_cancel_left, decide_eq_true (show 48 ≤ 48 + i by omega), decide_eq_true (show 48 + i < 48 + pdn d by omega), frA_iff.mpr ⟨j, i2⟩] at this
        exact this
      have h7 := ac7a hw hx (v := 48 + j) (by omega) i1 (nI 87) se
      rw [decide_eq_true (show nI 87 = 87 from rfl), Nat.add_sub_cancel_left] at h7
      rcases h7 with ⟨g, _⟩ | ⟨_, _, _, h7⟩
      · exact absurd ⟨by omega, by omega, i2⟩ g
      · rw [if_neg (show ¬ nI 87 = 81 by decide), if_neg (show ¬ nI 87 = 84 by decide)] at h7
        have hcl : ∀ m, lf_X5_faultOf_11 (nI L) sg (m + 3) (nI k) 4 ki fi se ro tu ap (nI (pdn d)) wo co qu to wv = lf_X5_faultOf_11 (nI L) sg m (nI (k + 3)) 8 (nI 87) (nI i) (nI j) ro tu ap (nI (pdn d)) wo co qu to wv := fun m => by
          rw [clS hL hk e1 _ (ac4 (Or.inr rfl) hap'), clS hL (show k + 1 < L by omega) i4 _ h6]
          exact clS hL (show k + 2 < L by omega) i5 m (ac7 (Or.inr rfl) h7)
        by_cases he : L ≤ k + 3
        · have e3 : k + 3 = L := by omega
          rw [e3, fgEnd hL, qs_bd, qs_u3, qs_nt (nI_n9 (by omega))] at hrp
          refine Or.inr ⟨L, _, _, _, _, _, _, _, Nat.le_refl _, by rw [e2]; exact hrp, fun m => ?_⟩
          rw [hcl (m + 2), e3]
          exact RC_E hL _ (by decide)
        · obtain ⟨v, hv, f1, f2⟩ := hT (k + 3) (by omega)
          have hf := fgIn hL 1022 (show k + 3 < L by omega) hv f2
          have h8 := ac8 v hv (nI 87) ro tu ap (nI (pdn d)) wo co qu to wv (show i < 8 by omega) (show j < 8 by omega)
          by_cases hc : 49 ≤ v ∧ v ≤ 57
          · rw [if_pos hc] at h8
            have hc2 : 48 ≤ v ∧ v ≤ 57 ∧ bt 1022 (v - 48) = true := ⟨by omega, hc.2, by rw [b1022 _ (by omega)]; exact decide_eq_true (by omega)⟩
            rw [if_pos hc2] at hf
            rw [hf, qs_bd, qs_u3, qs_nf rfl] at hrp
            simp (disch := omega) only [qs_7, qs_cl, qg_in2, qs_lt] at hrp
            refine Or.inl ⟨dWor d i j (v - 48), 4, nI 87, nI i, nI j, _, _, _, _, _, _, _, _, _, _, by omega, by omega, wfWor hw i1 j1 (Ne.symm j2) (by omega), rfl, rfl, rfl, dxWor hx (by omega) (by omega), dmWor hn hm i1 j1 _, by rw [e2]; exact hrp, fun m => ?_⟩
            rw [hcl (m + 1)]
            exact clS hL (show k + 3 < L by omega) f1 m h8
          · rw [if_neg hc] at h8
            have hc2 : ¬ (48 ≤ v ∧ v ≤ 57 ∧ bt 1022 (v - 48) = true) := fun g => hc ⟨by
              have := g.2.2
              rw [b1022 _ (by omega), decide_eq_true_eq] at this
              omega, g.2.1⟩
            rw [if_neg hc2] at hf
            rw [hf, qs_bd, qs_u3, qs_nt (nI_n9 (by omega))] at hrp
            refine Or.inr ⟨k + 3, _, _, _, _, _, _, _, by omega, by rw [e2]; exact hrp, fun m => ?_⟩
            rw [hcl (m + 2)]
            exact RC_F hL (show k + 3 < L by omega) f1 _ h8
    · rw [fgSkip _ _ _ _ tx (nI_n9 (show p < 2 ^ 31 by omega)), qs_bd, qs_u3, qs_nt (nI_n9 (show p < 2 ^ 31 by omega))] at hrp
      refine Or.inr ⟨p, _, _, _, _, _, _, _, p1, by rw [e2]; exact hrp, fun m => ?_⟩
      rw [clS hL hk e1 _ (ac4 (Or.inr rfl) hap')]
      exact p3 _ _ _ _ _ _
theorem partSim {d : PD} (hw : PWf d) {L : Nat} (hL : L ≤ 64) {sg tx : Nat → Int32} (hT : TX L sg tx) {k : Nat} (hk : k < L) {wo : Int32} {co qu to : Int64} {wv : Nat → Int32} (hx : DX0 d (nI (pdn d)) wo co qu to wv) {woman mate quarrel joined worth : Nat → Int32} (hm : DM0 d (nI (pdn d)) woman mate quarrel joined worth) (ki fi se ro tu ap : Int32) : PS L k sg tx d ki fi se ro tu ap wo co qu to wv woman mate quarrel joined worth := by
  obtain ⟨v, hv, e1, e2⟩ := hT k hk
  by_cases h1 : v = 67
  · subst h1; exact psC hw hL hk hx hm e1 e2 ki fi se ro tu ap
  by_cases h2 : v = 83
  · subst h2; exact psS hw hL hT hk hx hm e1 e2 ki fi se ro tu ap
  by_cases h3 : v = 81 ∨ v = 84
  · exact psP hw hL hT hk hx hm h3 e1 e2 ki fi se ro tu ap
  by_cases h4 : v = 87
  · subst h4; exact psW hw hL hT hk hx hm e1 e2 ki fi se ro tu ap
  have c1 : ¬ nI v = 67 := fun g => h1 ((vIs hv (c := 67) (by omega)).mp g)
  have c2 : ¬ nI v = 83 := fun g => h2 ((vIs hv (c := 83) (by omega)).mp g)
  have c3 : ¬ nI v = 81 := fun g => h3 (Or.inl ((vIs hv (c := 81) (by omega)).mp g))
  have c4 : ¬ nI v = 84 := fun g => h3 (Or.inr ((vIs hv (c := 84) (by omega)).mp g))
  have c5 : ¬ nI v = 87 := fun g => h4 ((vIs hv (c := 87) (by omega)).mp g)
  have hrp := rpX (x := tx k) (pe := nI (pdn d)) (len := nI L) (at_ := nI k) (wm := woman) (mt := mate) (qu := quarrel) (jo := joined) (wo := worth) (tx := tx) (fun g => absurd (e2.symm.trans g) c1) (fun g => absurd (e2.symm.trans g) c2) (fun g => (g.elim (fun g => absurd (e2.symm.trans g) c3) (fun g => absurd (e2.symm.trans g) c4))) (fun g => absurd (e2.symm.trans g) c5)
  exact Or.inr ⟨k, _, _, _, _, _, _, _, by omega, hrp, fun m => RC_F hL hk e1 _ (ac4 (Or.inl rfl) (apO c1 c3 c2 c4 c5 _ _ _ _ _ _))⟩
