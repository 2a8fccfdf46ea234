/-! ===== one is drawn ===== -/
theorem bl_lN {W i : Nat} (hi : i < 64) : bl (lN W) i = W.testBit i := by
  show (BitVec.ofNat 64 W).getLsbD i = _
  rw [BitVec.getLsbD_ofNat]; simp [hi]
theorem shr33 (v : Int64) : ∃ W, W < 2 ^ 31 ∧ (Int64.toUInt64 v >>> (Int64.toUInt64 (Int32.toInt64 33) &&& Int64.toUInt64 63)).toInt64 = lN W := by
  refine ⟨v.toBitVec.toNat / 2 ^ 33, ?_, ?_⟩
  · have := v.toBitVec.isLt; omega
  · refine l_ext (fun i hi => ?_)
    have e : bl ((Int64.toUInt64 v >>> (Int64.toUInt64 (Int32.toInt64 33) &&& Int64.toUInt64 63)).toInt64) i = bl v (33 + i) := l_ushr 33 (by omega) v i
    rw [e, bl_lN hi, Nat.testBit_div_two_pow, Nat.add_comm]
    rfl
theorem drawX {d : PD} (hw : PWf d) {v v' : Nat → Int32} {N N' W : Nat} {V seed : Int64} {listed size ro se sz : Int32} {to ba : Int64} {bf df bf2 df2 : Nat → Int32} {sz2 : Int32} {ρ : Nat → Nat} (h0 : 0 < (lawL d).length) (eL : f_X2_list listed size v N ro (nI (pdn d)) to ba = some (1, nI (lawL d).length, v', N')) (hL : LW d v' N') (hW : W < 2 ^ 31) (eV : seed * 6364136223846793005 + 1442695040888963407 = V) (eW : (Int64.toUInt64 V >>> (Int64.toUInt64 (Int32.toInt64 33) &&& Int64.toUInt64 63)).toInt64 = lN W) (eρ : (lawL d)[W % (lawL d).length]? = some ρ) (eX : f_X10_actTo (nI (pk ρ)) se sz bf df = some (nI (pk ρ), sz2, bf2, df2)) : f_X10_draw seed listed size v N se sz bf df ro (nI (pdn d)) to ba = some (nI (W % (lawL d).length), V, 1, nI (lawL d).length, v', N', nI (pk ρ), sz2, bf2, df2) := by
  have hll := lawL_len hw.1
  have hne : ¬ nI (lawL d).length = 0 := nI_ne0 h0 (by omega)
  unfold f_X10_draw
  rw [eL, qs_bd, qs_u4, qs_t (c := (1 : Int32) ≤ nI (lawL d).length) (nI_le (a := 1) h0 (by omega)), eV, qs_lt, qs_g hne, qs_lt, eW, lN_i, pk_rem hW h0 (by omega), seatOf hL eρ, qs_bd, qs_u1, eX, qs_bd, qs_u4]
theorem drawM {d : PD} (hw : PWf d) {W : Nat} {V seed : Int64} {ro tu ap acts next : Int32} {woman mate quarrel joined seat dines perm row p' p2 se2 r : Nat → Int32} {cn ac2 nx2 : Int32} (h0 : 0 < (lawL d).length) (eM : f_X11_lawful (nI (pdn d)) ro tu ap woman mate quarrel joined perm = some (nI (lawL d).length, p')) (hW : W < 2 ^ 31) (eV : seed * 6364136223846793005 + 1442695040888963407 = V) (eW : (Int64.toUInt64 V >>> (Int64.toUInt64 (Int32.toInt64 33) &&& Int64.toUInt64 63)).toInt64 = lN W) (eN : f_X11_layNth (nI (W % (lawL d).length)) (nI (pdn d)) ro tu ap woman mate quarrel joined p' = some (1, p2)) (eS : f_X11_sit (nI (pdn d)) acts next seat dines p2 row = some (cn, ac2, nx2, se2, r)) : f_X11_draw (nI (pdn d)) ro tu ap acts next seed woman mate quarrel joined seat dines perm row = some (nI (W % (lawL d).length), ac2, nx2, V, se2, p2, r) := by
  have hll := lawL_len hw.1
  have hne : ¬ nI (lawL d).length = 0 := nI_ne0 h0 (by omega)
  have hne2 : ¬ Int32.toInt64 (nI (lawL d).length) = 0 := fun g => by
    rw [nI_l (by omega)] at g
    exact absurd ((lN_eq (a := (lawL d).length) (b := 0) (by omega) (by omega)).mp g) (by omega)
  unfold f_X11_draw
  rw [eM, qs_bd, qs_u2, qs_nt hne, eV, qs_lt, qs_g hne2, qs_lt, eW, nI_l (by omega), pk_lRem (by omega) h0 (by omega), lN_i, eN, qs_bd, qs_u2, eS, qs_bd, qs_u5]
theorem Sim_draw_ok : Sim_draw Inv := by
  intro s t hI
  obtain ⟨h1, h2, h3, h4, d, σ, f, hw, hx, hm, hst, hdn, hse, hdx, hsm, hdm, hac, hs0, hs1, hla⟩ := id hI
  have hn := hw.1
  have ep : sx_guests_people s = nI (pdn d) := hx.2.2.2.1
  have em : sm_people t = nI (pdn d) := hm.1
  have hll := lawL_len hn
  obtain ⟨v', N', eL, hL⟩ := listX hw hx hla
  obtain ⟨p', eM⟩ := lawfulM hw hm (sm_perm_v t)
  rw [ep] at eL
  rw [ep, em, h1]
  rcases Nat.eq_zero_or_pos (lawL d).length with h0 | h0
  · unfold f_X10_draw f_X11_draw
    rw [eL, qs_bd, qs_u4, eM, qs_bd, qs_u2, h0, qs_f (c := (1 : Int32) ≤ nI 0) (by decide), qs_nf (c := nI 0 = 0) rfl]
    have hR := LW_RLaw hL
    rw [h0] at hR
    exact ⟨_, _, _, _, _, _, _, _, _, _, _, _, _, _, _, _, rfl, rfl, rfl, h2, h3, h4, d, σ, f, hw, hx, hm, hst, hdn, hse, hdx, hsm, hdm, hac, hs0, hs1, hR⟩
  · obtain ⟨V, eV⟩ : ∃ V, sm_seed t * 6364136223846793005 + 1442695040888963407 = V := ⟨_, rfl⟩
    obtain ⟨W, hW, eW⟩ := shr33 V
    have hml := Nat.mod_lt W h0
    obtain ⟨ρ, eρ, hr, hrl⟩ := L_at (d := d) hml
    rcases nthM hw hm (nI (W % (lawL d).length)) p' with ⟨p2, j, ρ', ej, g1, g2, g3⟩ | ⟨p2, g1, g2⟩
    · have hj := L_lt g1
      have := (nI_eq (by omega) (by omega)).mp ej
      rw [← this, eρ] at g1
      have er := Option.some.inj g1
      subst er
      obtain ⟨sz2, bf, df, ac2, nx2, se2, r, eX, eS, hac2, hsm2⟩ := act_sit hn hst hr hdn hac hsm hdm g2
      rw [← hse] at eX
      refine ⟨_, _, _, _, _, _, _, _, _, _, _, _, _, _, _, _, drawX hw h0 eL hL hW eV eW eρ eX, drawM hw h0 eM hW eV eW g3 eS, ?_⟩
      exact ⟨rfl, h2, h3, h4, d, ρ, f, hw, hx, hm, hr, hdn, rfl, hdx, hsm2, hdm, hac2, hs0, hs1, LW_RLaw hL⟩
    · rw [hasRank_in hn eρ] at g1
      exact absurd g1 (by decide)
