/-! ===== Int32 by its bits: bt x i ===== -/
def bt (x : Int32) (i : Nat) : Bool := x.toBitVec.getLsbD i
theorem b_ext {x y : Int32} (h : ∀ i, i < 32 → bt x i = bt y i) : x = y := Int32.toBitVec_inj.mp (BitVec.eq_of_getLsbD_eq (fun i hi => h i hi))
theorem b_or (x y : Int32) (i : Nat) : bt (x ||| y) i = (bt x i || bt y i) := by unfold bt; rw [Int32.toBitVec_or, BitVec.getLsbD_or]
theorem b_and (x y : Int32) (i : Nat) : bt (x &&& y) i = (bt x i && bt y i) := by unfold bt; rw [Int32.toBitVec_and, BitVec.getLsbD_and]
theorem b_xor (x y : Int32) (i : Nat) : bt (x ^^^ y) i = (bt x i ^^ bt y i) := by unfold bt; rw [Int32.toBitVec_xor, BitVec.getLsbD_xor]
theorem b_big {x : Int32} {i : Nat} (h : 32 ≤ i) : bt x i = false := BitVec.getLsbD_of_ge _ _ h
theorem b_255 (i : Nat) : bt 255 i = decide (i < 8) := by
  rcases Nat.lt_or_ge i 32 with h | h
  · exact (by decide +kernel : ∀ i, i < 32 → bt 255 i = decide (i < 8)) i h
  · rw [b_big h, decide_eq_false (by omega)]
theorem b_65535 (i : Nat) : bt 65535 i = decide (i < 16) := by
  rcases Nat.lt_or_ge i 32 with h | h
  · exact (by decide +kernel : ∀ i, i < 32 → bt 65535 i = decide (i < 16)) i h
  · rw [b_big h, decide_eq_false (by omega)]
theorem b_m1 : ∀ i, i < 32 → bt (-1) i = true := by decide +kernel
theorem b_0 (i : Nat) : bt 0 i = false := BitVec.getLsbD_zero
theorem s_l : ∀ n, n < 32 → ((nI n &&& 31).toBitVec.smod 32).toNat = n := by decide +kernel
theorem s_u : ∀ n, n < 32 → (((nI n).toUInt32 &&& Int32.toUInt32 31).toBitVec % 32).toNat = n := by decide +kernel
theorem b_shl (n : Nat) (hn : n < 32) (x : Int32) {i : Nat} (hi : i < 32) : bt (x <<< (nI n &&& 31)) i = (decide (n ≤ i) && bt x (i - n)) := by
  unfold bt
  rw [Int32.toBitVec_shiftLeft]
  show (x.toBitVec <<< ((nI n &&& 31).toBitVec.smod 32).toNat).getLsbD i = _
  rw [s_l n hn, BitVec.getLsbD_shiftLeft]
  rcases Nat.lt_or_ge i n with h | h
  · simp [h, Nat.not_le.mpr h]
  · simp [hi, h, Nat.not_lt.mpr h]
theorem b_ushr (n : Nat) (hn : n < 32) (x : Int32) (i : Nat) : bt ((x.toUInt32 >>> ((nI n).toUInt32 &&& Int32.toUInt32 31)).toInt32) i = bt x (n + i) := by
  show (x.toUInt32 >>> ((nI n).toUInt32 &&& Int32.toUInt32 31)).toBitVec.getLsbD i = x.toUInt32.toBitVec.getLsbD (n + i)
  rw [UInt32.toBitVec_shiftRight]
  show (x.toUInt32.toBitVec >>> (((nI n).toUInt32 &&& Int32.toUInt32 31).toBitVec % 32).toNat).getLsbD i = _
  rw [s_u n hn, BitVec.getLsbD_ushiftRight]
theorem b_sshr (n : Nat) (hn : n < 32) (x : Int32) {i : Nat} (hi : i < 32) : bt (x >>> (nI n &&& 31)) i = if n + i < 32 then bt x (n + i) else bt x 31 := by
  unfold bt
  rw [Int32.toBitVec_shiftRight]
  show (x.toBitVec.sshiftRight ((nI n &&& 31).toBitVec.smod 32).toNat).getLsbD i = _
  rw [s_l n hn, BitVec.getLsbD_sshiftRight, BitVec.msb_eq_getLsbD_last]
  simp [hi]
theorem b_shl8 (x : Int32) {i : Nat} (hi : i < 32) : bt (x <<< ((8 : Int32) &&& 31)) i = (decide (8 ≤ i) && bt x (i - 8)) := b_shl 8 (by omega) x hi
theorem b_shl16 (x : Int32) {i : Nat} (hi : i < 32) : bt (x <<< ((16 : Int32) &&& 31)) i = (decide (16 ≤ i) && bt x (i - 16)) := b_shl 16 (by omega) x hi
theorem b_shl24 (x : Int32) {i : Nat} (hi : i < 32) : bt (x <<< ((24 : Int32) &&& 31)) i = (decide (24 ≤ i) && bt x (i - 24)) := b_shl 24 (by omega) x hi
theorem b_sshr8 (x : Int32) {i : Nat} (hi : i < 32) : bt (x >>> ((8 : Int32) &&& 31)) i = if 8 + i < 32 then bt x (8 + i) else bt x 31 := b_sshr 8 (by omega) x hi
/-! ===== the words of the pure side, simplified ===== -/
theorem qs_lt {α β : Type} (e : α) (k : α → β) : pw_lt e k = k e := rfl
theorem qs_jn {α β : Type} (K : α) (B : α → β) : pw_jn K B = B K := rfl
theorem qs_bd {α β : Type} (x : α) (k : α → Option β) : pw_bd (some x) k = k x := rfl
theorem qs_bl {α γ β : Type} (x : α) (k1 : α → Option β) (k2 : γ → Option β) : pw_bs (some (Sum.inl x)) k1 k2 = k1 x := rfl
theorem qs_br {α γ β : Type} (x : γ) (k1 : α → Option β) (k2 : γ → Option β) : pw_bs (some (Sum.inr x)) k1 k2 = k2 x := rfl
theorem qs_g {α : Type} {c : Prop} [Decidable c] (h : c) (o : Option α) : pw_gd c o = o := if_pos h
theorem qs_t {α : Type} {c : Prop} [Decidable c] (h : c) (a b : α) : pw_cd c a b = a := if_pos h
theorem qs_f {α : Type} {c : Prop} [Decidable c] (h : ¬ c) (a b : α) : pw_cd c a b = b := if_neg h
theorem qs_T {α : Type} [Decidable True] (a b : α) : pw_cd True a b = a := if_pos trivial
theorem qs_N {α : Type} [Decidable False] (a b : α) : pw_cd False a b = b := if_neg (fun h => h)
theorem qs_nz : ((1 : Int32) = 0) = False := by decide
theorem qs_n9 : ((-9 : Int32) = -9) = True := by decide
theorem qs_u1 {A1 ρ : Type} (k : A1 → ρ) (a1 : A1) : pw_u1 k a1 = k a1 := rfl
theorem qs_u2 {A1 A2 ρ : Type} (k : A1 → A2 → ρ) (a1 : A1) (a2 : A2) : pw_u2 k (a1, a2) = k a1 a2 := rfl
theorem qs_u3 {A1 A2 A3 ρ : Type} (k : A1 → A2 → A3 → ρ) (a1 : A1) (a2 : A2) (a3 : A3) : pw_u3 k (a1, a2, a3) = k a1 a2 a3 := rfl
theorem qs_u4 {A1 A2 A3 A4 ρ : Type} (k : A1 → A2 → A3 → A4 → ρ) (a1 : A1) (a2 : A2) (a3 : A3) (a4 : A4) : pw_u4 k (a1, a2, a3, a4) = k a1 a2 a3 a4 := rfl
theorem qs_u5 {A1 A2 A3 A4 A5 ρ : Type} (k : A1 → A2 → A3 → A4 → A5 → ρ) (a1 : A1) (a2 : A2) (a3 : A3) (a4 : A4) (a5 : A5) : pw_u5 k (a1, a2, a3, a4, a5) = k a1 a2 a3 a4 a5 := rfl
theorem qs_u6 {A1 A2 A3 A4 A5 A6 ρ : Type} (k : A1 → A2 → A3 → A4 → A5 → A6 → ρ) (a1 : A1) (a2 : A2) (a3 : A3) (a4 : A4) (a5 : A5) (a6 : A6) : pw_u6 k (a1, a2, a3, a4, a5, a6) = k a1 a2 a3 a4 a5 a6 := rfl
theorem qs_u7 {A1 A2 A3 A4 A5 A6 A7 ρ : Type} (k : A1 → A2 → A3 → A4 → A5 → A6 → A7 → ρ) (a1 : A1) (a2 : A2) (a3 : A3) (a4 : A4) (a5 : A5) (a6 : A6) (a7 : A7) : pw_u7 k (a1, a2, a3, a4, a5, a6, a7) = k a1 a2 a3 a4 a5 a6 a7 := rfl
theorem qs_u8 {A1 A2 A3 A4 A5 A6 A7 A8 ρ : Type} (k : A1 → A2 → A3 → A4 → A5 → A6 → A7 → A8 → ρ) (a1 : A1) (a2 : A2) (a3 : A3) (a4 : A4) (a5 : A5) (a6 : A6) (a7 : A7) (a8 : A8) : pw_u8 k (a1, a2, a3, a4, a5, a6, a7, a8) = k a1 a2 a3 a4 a5 a6 a7 a8 := rfl
theorem qs_u9 {A1 A2 A3 A4 A5 A6 A7 A8 A9 ρ : Type} (k : A1 → A2 → A3 → A4 → A5 → A6 → A7 → A8 → A9 → ρ) (a1 : A1) (a2 : A2) (a3 : A3) (a4 : A4) (a5 : A5) (a6 : A6) (a7 : A7) (a8 : A8) (a9 : A9) : pw_u9 k (a1, a2, a3, a4, a5, a6, a7, a8, a9) = k a1 a2 a3 a4 a5 a6 a7 a8 a9 := rfl
theorem qs_u10 {A1 A2 A3 A4 A5 A6 A7 A8 A9 A10 ρ : Type} (k : A1 → A2 → A3 → A4 → A5 → A6 → A7 → A8 → A9 → A10 → ρ) (a1 : A1) (a2 : A2) (a3 : A3) (a4 : A4) (a5 : A5) (a6 : A6) (a7 : A7) (a8 : A8) (a9 : A9) (a10 : A10) : pw_u10 k (a1, a2, a3, a4, a5, a6, a7, a8, a9, a10) = k a1 a2 a3 a4 a5 a6 a7 a8 a9 a10 := rfl
theorem qs_u11 {A1 A2 A3 A4 A5 A6 A7 A8 A9 A10 A11 ρ : Type} (k : A1 → A2 → A3 → A4 → A5 → A6 → A7 → A8 → A9 → A10 → A11 → ρ) (a1 : A1) (a2 : A2) (a3 : A3) (a4 : A4) (a5 : A5) (a6 : A6) (a7 : A7) (a8 : A8) (a9 : A9) (a10 : A10) (a11 : A11) : pw_u11 k (a1, a2, a3, a4, a5, a6, a7, a8, a9, a10, a11) = k a1 a2 a3 a4 a5 a6 a7 a8 a9 a10 a11 := rfl
theorem qs_u12 {A1 A2 A3 A4 A5 A6 A7 A8 A9 A10 A11 A12 ρ : Type} (k : A1 → A2 → A3 → A4 → A5 → A6 → A7 → A8 → A9 → A10 → A11 → A12 → ρ) (a1 : A1) (a2 : A2) (a3 : A3) (a4 : A4) (a5 : A5) (a6 : A6) (a7 : A7) (a8 : A8) (a9 : A9) (a10 : A10) (a11 : A11) (a12 : A12) : pw_u12 k (a1, a2, a3, a4, a5, a6, a7, a8, a9, a10, a11, a12) = k a1 a2 a3 a4 a5 a6 a7 a8 a9 a10 a11 a12 := rfl
theorem qs_u13 {A1 A2 A3 A4 A5 A6 A7 A8 A9 A10 A11 A12 A13 ρ : Type} (k : A1 → A2 → A3 → A4 → A5 → A6 → A7 → A8 → A9 → A10 → A11 → A12 → A13 → ρ) (a1 : A1) (a2 : A2) (a3 : A3) (a4 : A4) (a5 : A5) (a6 : A6) (a7 : A7) (a8 : A8) (a9 : A9) (a10 : A10) (a11 : A11) (a12 : A12) (a13 : A13) : pw_u13 k (a1, a2, a3, a4, a5, a6, a7, a8, a9, a10, a11, a12, a13) = k a1 a2 a3 a4 a5 a6 a7 a8 a9 a10 a11 a12 a13 := rfl
theorem qs_u14 {A1 A2 A3 A4 A5 A6 A7 A8 A9 A10 A11 A12 A13 A14 ρ : Type} (k : A1 → A2 → A3 → A4 → A5 → A6 → A7 → A8 → A9 → A10 → A11 → A12 → A13 → A14 → ρ) (a1 : A1) (a2 : A2) (a3 : A3) (a4 : A4) (a5 : A5) (a6 : A6) (a7 : A7) (a8 : A8) (a9 : A9) (a10 : A10) (a11 : A11) (a12 : A12) (a13 : A13) (a14 : A14) : pw_u14 k (a1, a2, a3, a4, a5, a6, a7, a8, a9, a10, a11, a12, a13, a14) = k a1 a2 a3 a4 a5 a6 a7 a8 a9 a10 a11 a12 a13 a14 := rfl
theorem qs_u15 {A1 A2 A3 A4 A5 A6 A7 A8 A9 A10 A11 A12 A13 A14 A15 ρ : Type} (k : A1 → A2 → A3 → A4 → A5 → A6 → A7 → A8 → A9 → A10 → A11 → A12 → A13 → A14 → A15 → ρ) (a1 : A1) (a2 : A2) (a3 : A3) (a4 : A4) (a5 : A5) (a6 : A6) (a7 : A7) (a8 : A8) (a9 : A9) (a10 : A10) (a11 : A11) (a12 : A12) (a13 : A13) (a14 : A14) (a15 : A15) : pw_u15 k (a1, a2, a3, a4, a5, a6, a7, a8, a9, a10, a11, a12, a13, a14, a15) = k a1 a2 a3 a4 a5 a6 a7 a8 a9 a10 a11 a12 a13 a14 a15 := rfl
theorem qs_u16 {A1 A2 A3 A4 A5 A6 A7 A8 A9 A10 A11 A12 A13 A14 A15 A16 ρ : Type} (k : A1 → A2 → A3 → A4 → A5 → A6 → A7 → A8 → A9 → A10 → A11 → A12 → A13 → A14 → A15 → A16 → ρ) (a1 : A1) (a2 : A2) (a3 : A3) (a4 : A4) (a5 : A5) (a6 : A6) (a7 : A7) (a8 : A8) (a9 : A9) (a10 : A10) (a11 : A11) (a12 : A12) (a13 : A13) (a14 : A14) (a15 : A15) (a16 : A16) : pw_u16 k (a1, a2, a3, a4, a5, a6, a7, a8, a9, a10, a11, a12, a13, a14, a15, a16) = k a1 a2 a3 a4 a5 a6 a7 a8 a9 a10 a11 a12 a13 a14 a15 a16 := rfl
theorem qs_u17 {A1 A2 A3 A4 A5 A6 A7 A8 A9 A10 A11 A12 A13 A14 A15 A16 A17 ρ : Type} (k : A1 → A2 → A3 → A4 → A5 → A6 → A7 → A8 → A9 → A10 → A11 → A12 → A13 → A14 → A15 → A16 → A17 → ρ) (a1 : A1) (a2 : A2) (a3 : A3) (a4 : A4) (a5 : A5) (a6 : A6) (a7 : A7) (a8 : A8) (a9 : A9) (a10 : A10) (a11 : A11) (a12 : A12) (a13 : A13) (a14 : A14) (a15 : A15) (a16 : A16) (a17 : A17) : pw_u17 k (a1, a2, a3, a4, a5, a6, a7, a8, a9, a10, a11, a12, a13, a14, a15, a16, a17) = k a1 a2 a3 a4 a5 a6 a7 a8 a9 a10 a11 a12 a13 a14 a15 a16 a17 := rfl
theorem qs_u18 {A1 A2 A3 A4 A5 A6 A7 A8 A9 A10 A11 A12 A13 A14 A15 A16 A17 A18 ρ : Type} (k : A1 → A2 → A3 → A4 → A5 → A6 → A7 → A8 → A9 → A10 → A11 → A12 → A13 → A14 → A15 → A16 → A17 → A18 → ρ) (a1 : A1) (a2 : A2) (a3 : A3) (a4 : A4) (a5 : A5) (a6 : A6) (a7 : A7) (a8 : A8) (a9 : A9) (a10 : A10) (a11 : A11) (a12 : A12) (a13 : A13) (a14 : A14) (a15 : A15) (a16 : A16) (a17 : A17) (a18 : A18) : pw_u18 k (a1, a2, a3, a4, a5, a6, a7, a8, a9, a10, a11, a12, a13, a14, a15, a16, a17, a18) = k a1 a2 a3 a4 a5 a6 a7 a8 a9 a10 a11 a12 a13 a14 a15 a16 a17 a18 := rfl
theorem qs_u19 {A1 A2 A3 A4 A5 A6 A7 A8 A9 A10 A11 A12 A13 A14 A15 A16 A17 A18 A19 ρ : Type} (k : A1 → A2 → A3 → A4 → A5 → A6 → A7 → A8 → A9 → A10 → A11 → A12 → A13 → A14 → A15 → A16 → A17 → A18 → A19 → ρ) (a1 : A1) (a2 : A2) (a3 : A3) (a4 : A4) (a5 : A5) (a6 : A6) (a7 : A7) (a8 : A8) (a9 : A9) (a10 : A10) (a11 : A11) (a12 : A12) (a13 : A13) (a14 : A14) (a15 : A15) (a16 : A16) (a17 : A17) (a18 : A18) (a19 : A19) : pw_u19 k (a1, a2, a3, a4, a5, a6, a7, a8, a9, a10, a11, a12, a13, a14, a15, a16, a17, a18, a19) = k a1 a2 a3 a4 a5 a6 a7 a8 a9 a10 a11 a12 a13 a14 a15 a16 a17 a18 a19 := rfl
theorem qs_u20 {A1 A2 A3 A4 A5 A6 A7 A8 A9 A10 A11 A12 A13 A14 A15 A16 A17 A18 A19 A20 ρ : Type} (k : A1 → A2 → A3 → A4 → A5 → A6 → A7 → A8 → A9 → A10 → A11 → A12 → A13 → A14 → A15 → A16 → A17 → A18 → A19 → A20 → ρ) (a1 : A1) (a2 : A2) (a3 : A3) (a4 : A4) (a5 : A5) (a6 : A6) (a7 : A7) (a8 : A8) (a9 : A9) (a10 : A10) (a11 : A11) (a12 : A12) (a13 : A13) (a14 : A14) (a15 : A15) (a16 : A16) (a17 : A17) (a18 : A18) (a19 : A19) (a20 : A20) : pw_u20 k (a1, a2, a3, a4, a5, a6, a7, a8, a9, a10, a11, a12, a13, a14, a15, a16, a17, a18, a19, a20) = k a1 a2 a3 a4 a5 a6 a7 a8 a9 a10 a11 a12 a13 a14 a15 a16 a17 a18 a19 a20 := rfl
theorem qs_u21 {A1 A2 A3 A4 A5 A6 A7 A8 A9 A10 A11 A12 A13 A14 A15 A16 A17 A18 A19 A20 A21 ρ : Type} (k : A1 → A2 → A3 → A4 → A5 → A6 → A7 → A8 → A9 → A10 → A11 → A12 → A13 → A14 → A15 → A16 → A17 → A18 → A19 → A20 → A21 → ρ) (a1 : A1) (a2 : A2) (a3 : A3) (a4 : A4) (a5 : A5) (a6 : A6) (a7 : A7) (a8 : A8) (a9 : A9) (a10 : A10) (a11 : A11) (a12 : A12) (a13 : A13) (a14 : A14) (a15 : A15) (a16 : A16) (a17 : A17) (a18 : A18) (a19 : A19) (a20 : A20) (a21 : A21) : pw_u21 k (a1, a2, a3, a4, a5, a6, a7, a8, a9, a10, a11, a12, a13, a14, a15, a16, a17, a18, a19, a20, a21) = k a1 a2 a3 a4 a5 a6 a7 a8 a9 a10 a11 a12 a13 a14 a15 a16 a17 a18 a19 a20 a21 := rfl
theorem qs_u22 {A1 A2 A3 A4 A5 A6 A7 A8 A9 A10 A11 A12 A13 A14 A15 A16 A17 A18 A19 A20 A21 A22 ρ : Type} (k : A1 → A2 → A3 → A4 → A5 → A6 → A7 → A8 → A9 → A10 → A11 → A12 → A13 → A14 → A15 → A16 → A17 → A18 → A19 → A20 → A21 → A22 → ρ) (a1 : A1) (a2 : A2) (a3 : A3) (a4 : A4) (a5 : A5) (a6 : A6) (a7 : A7) (a8 : A8) (a9 : A9) (a10 : A10) (a11 : A11) (a12 : A12) (a13 : A13) (a14 : A14) (a15 : A15) (a16 : A16) (a17 : A17) (a18 : A18) (a19 : A19) (a20 : A20) (a21 : A21) (a22 : A22) : pw_u22 k (a1, a2, a3, a4, a5, a6, a7, a8, a9, a10, a11, a12, a13, a14, a15, a16, a17, a18, a19, a20, a21, a22) = k a1 a2 a3 a4 a5 a6 a7 a8 a9 a10 a11 a12 a13 a14 a15 a16 a17 a18 a19 a20 a21 a22 := rfl
theorem qs_u23 {A1 A2 A3 A4 A5 A6 A7 A8 A9 A10 A11 A12 A13 A14 A15 A16 A17 A18 A19 A20 A21 A22 A23 ρ : Type} (k : A1 → A2 → A3 → A4 → A5 → A6 → A7 → A8 → A9 → A10 → A11 → A12 → A13 → A14 → A15 → A16 → A17 → A18 → A19 → A20 → A21 → A22 → A23 → ρ) (a1 : A1) (a2 : A2) (a3 : A3) (a4 : A4) (a5 : A5) (a6 : A6) (a7 : A7) (a8 : A8) (a9 : A9) (a10 : A10) (a11 : A11) (a12 : A12) (a13 : A13) (a14 : A14) (a15 : A15) (a16 : A16) (a17 : A17) (a18 : A18) (a19 : A19) (a20 : A20) (a21 : A21) (a22 : A22) (a23 : A23) : pw_u23 k (a1, a2, a3, a4, a5, a6, a7, a8, a9, a10, a11, a12, a13, a14, a15, a16, a17, a18, a19, a20, a21, a22, a23) = k a1 a2 a3 a4 a5 a6 a7 a8 a9 a10 a11 a12 a13 a14 a15 a16 a17 a18 a19 a20 a21 a22 a23 := rfl
theorem qs_u24 {A1 A2 A3 A4 A5 A6 A7 A8 A9 A10 A11 A12 A13 A14 A15 A16 A17 A18 A19 A20 A21 A22 A23 A24 ρ : Type} (k : A1 → A2 → A3 → A4 → A5 → A6 → A7 → A8 → A9 → A10 → A11 → A12 → A13 → A14 → A15 → A16 → A17 → A18 → A19 → A20 → A21 → A22 → A23 → A24 → ρ) (a1 : A1) (a2 : A2) (a3 : A3) (a4 : A4) (a5 : A5) (a6 : A6) (a7 : A7) (a8 : A8) (a9 : A9) (a10 : A10) (a11 : A11) (a12 : A12) (a13 : A13) (a14 : A14) (a15 : A15) (a16 : A16) (a17 : A17) (a18 : A18) (a19 : A19) (a20 : A20) (a21 : A21) (a22 : A22) (a23 : A23) (a24 : A24) : pw_u24 k (a1, a2, a3, a4, a5, a6, a7, a8, a9, a10, a11, a12, a13, a14, a15, a16, a17, a18, a19, a20, a21, a22, a23, a24) = k a1 a2 a3 a4 a5 a6 a7 a8 a9 a10 a11 a12 a13 a14 a15 a16 a17 a18 a19 a20 a21 a22 a23 a24 := rfl
theorem qs_u25 {A1 A2 A3 A4 A5 A6 A7 A8 A9 A10 A11 A12 A13 A14 A15 A16 A17 A18 A19 A20 A21 A22 A23 A24 A25 ρ : Type} (k : A1 → A2 → A3 → A4 → A5 → A6 → A7 → A8 → A9 → A10 → A11 → A12 → A13 → A14 → A15 → A16 → A17 → A18 → A19 → A20 → A21 → A22 → A23 → A24 → A25 → ρ) (a1 : A1) (a2 : A2) (a3 : A3) (a4 : A4) (a5 : A5) (a6 : A6) (a7 : A7) (a8 : A8) (a9 : A9) (a10 : A10) (a11 : A11) (a12 : A12) (a13 : A13) (a14 : A14) (a15 : A15) (a16 : A16) (a17 : A17) (a18 : A18) (a19 : A19) (a20 : A20) (a21 : A21) (a22 : A22) (a23 : A23) (a24 : A24) (a25 : A25) : pw_u25 k (a1, a2, a3, a4, a5, a6, a7, a8, a9, a10, a11, a12, a13, a14, a15, a16, a17, a18, a19, a20, a21, a22, a23, a24, a25) = k a1 a2 a3 a4 a5 a6 a7 a8 a9 a10 a11 a12 a13 a14 a15 a16 a17 a18 a19 a20 a21 a22 a23 a24 a25 := rfl
theorem qs_u26 {A1 A2 A3 A4 A5 A6 A7 A8 A9 A10 A11 A12 A13 A14 A15 A16 A17 A18 A19 A20 A21 A22 A23 A24 A25 A26 ρ : Type} (k : A1 → A2 → A3 → A4 → A5 → A6 → A7 → A8 → A9 → A10 → A11 → A12 → A13 → A14 → A15 → A16 → A17 → A18 → A19 → A20 → A21 → A22 → A23 → A24 → A25 → A26 → ρ) (a1 : A1) (a2 : A2) (a3 : A3) (a4 : A4) (a5 : A5) (a6 : A6) (a7 : A7) (a8 : A8) (a9 : A9) (a10 : A10) (a11 : A11) (a12 : A12) (a13 : A13) (a14 : A14) (a15 : A15) (a16 : A16) (a17 : A17) (a18 : A18) (a19 : A19) (a20 : A20) (a21 : A21) (a22 : A22) (a23 : A23) (a24 : A24) (a25 : A25) (a26 : A26) : pw_u26 k (a1, a2, a3, a4, a5, a6, a7, a8, a9, a10, a11, a12, a13, a14, a15, a16, a17, a18, a19, a20, a21, a22, a23, a24, a25, a26) = k a1 a2 a3 a4 a5 a6 a7 a8 a9 a10 a11 a12 a13 a14 a15 a16 a17 a18 a19 a20 a21 a22 a23 a24 a25 a26 := rfl
theorem qs_u27 {A1 A2 A3 A4 A5 A6 A7 A8 A9 A10 A11 A12 A13 A14 A15 A16 A17 A18 A19 A20 A21 A22 A23 A24 A25 A26 A27 ρ : Type} (k : A1 → A2 → A3 → A4 → A5 → A6 → A7 → A8 → A9 → A10 → A11 → A12 → A13 → A14 → A15 → A16 → A17 → A18 → A19 → A20 → A21 → A22 → A23 → A24 → A25 → A26 → A27 → ρ) (a1 : A1) (a2 : A2) (a3 : A3) (a4 : A4) (a5 : A5) (a6 : A6) (a7 : A7) (a8 : A8) (a9 : A9) (a10 : A10) (a11 : A11) (a12 : A12) (a13 : A13) (a14 : A14) (a15 : A15) (a16 : A16) (a17 : A17) (a18 : A18) (a19 : A19) (a20 : A20) (a21 : A21) (a22 : A22) (a23 : A23) (a24 : A24) (a25 : A25) (a26 : A26) (a27 : A27) : pw_u27 k (a1, a2, a3, a4, a5, a6, a7, a8, a9, a10, a11, a12, a13, a14, a15, a16, a17, a18, a19, a20, a21, a22, a23, a24, a25, a26, a27) = k a1 a2 a3 a4 a5 a6 a7 a8 a9 a10 a11 a12 a13 a14 a15 a16 a17 a18 a19 a20 a21 a22 a23 a24 a25 a26 a27 := rfl
theorem qs_u28 {A1 A2 A3 A4 A5 A6 A7 A8 A9 A10 A11 A12 A13 A14 A15 A16 A17 A18 A19 A20 A21 A22 A23 A24 A25 A26 A27 A28 ρ : Type} (k : A1 → A2 → A3 → A4 → A5 → A6 → A7 → A8 → A9 → A10 → A11 → A12 → A13 → A14 → A15 → A16 → A17 → A18 → A19 → A20 → A21 → A22 → A23 → A24 → A25 → A26 → A27 → A28 → ρ) (a1 : A1) (a2 : A2) (a3 : A3) (a4 : A4) (a5 : A5) (a6 : A6) (a7 : A7) (a8 : A8) (a9 : A9) (a10 : A10) (a11 : A11) (a12 : A12) (a13 : A13) (a14 : A14) (a15 : A15) (a16 : A16) (a17 : A17) (a18 : A18) (a19 : A19) (a20 : A20) (a21 : A21) (a22 : A22) (a23 : A23) (a24 : A24) (a25 : A25) (a26 : A26) (a27 : A27) (a28 : A28) : pw_u28 k (a1, a2, a3, a4, a5, a6, a7, a8, a9, a10, a11, a12, a13, a14, a15, a16, a17, a18, a19, a20, a21, a22, a23, a24, a25, a26, a27, a28) = k a1 a2 a3 a4 a5 a6 a7 a8 a9 a10 a11 a12 a13 a14 a15 a16 a17 a18 a19 a20 a21 a22 a23 a24 a25 a26 a27 a28 := rfl
theorem qs_u29 {A1 A2 A3 A4 A5 A6 A7 A8 A9 A10 A11 A12 A13 A14 A15 A16 A17 A18 A19 A20 A21 A22 A23 A24 A25 A26 A27 A28 A29 ρ : Type} (k : A1 → A2 → A3 → A4 → A5 → A6 → A7 → A8 → A9 → A10 → A11 → A12 → A13 → A14 → A15 → A16 → A17 → A18 → A19 → A20 → A21 → A22 → A23 → A24 → A25 → A26 → A27 → A28 → A29 → ρ) (a1 : A1) (a2 : A2) (a3 : A3) (a4 : A4) (a5 : A5) (a6 : A6) (a7 : A7) (a8 : A8) (a9 : A9) (a10 : A10) (a11 : A11) (a12 : A12) (a13 : A13) (a14 : A14) (a15 : A15) (a16 : A16) (a17 : A17) (a18 : A18) (a19 : A19) (a20 : A20) (a21 : A21) (a22 : A22) (a23 : A23) (a24 : A24) (a25 : A25) (a26 : A26) (a27 : A27) (a28 : A28) (a29 : A29) : pw_u29 k (a1, a2, a3, a4, a5, a6, a7, a8, a9, a10, a11, a12, a13, a14, a15, a16, a17, a18, a19, a20, a21, a22, a23, a24, a25, a26, a27, a28, a29) = k a1 a2 a3 a4 a5 a6 a7 a8 a9 a10 a11 a12 a13 a14 a15 a16 a17 a18 a19 a20 a21 a22 a23 a24 a25 a26 a27 a28 a29 := rfl
theorem qs_u30 {A1 A2 A3 A4 A5 A6 A7 A8 A9 A10 A11 A12 A13 A14 A15 A16 A17 A18 A19 A20 A21 A22 A23 A24 A25 A26 A27 A28 A29 A30 ρ : Type} (k : A1 → A2 → A3 → A4 → A5 → A6 → A7 → A8 → A9 → A10 → A11 → A12 → A13 → A14 → A15 → A16 → A17 → A18 → A19 → A20 → A21 → A22 → A23 → A24 → A25 → A26 → A27 → A28 → A29 → A30 → ρ) (a1 : A1) (a2 : A2) (a3 : A3) (a4 : A4) (a5 : A5) (a6 : A6) (a7 : A7) (a8 : A8) (a9 : A9) (a10 : A10) (a11 : A11) (a12 : A12) (a13 : A13) (a14 : A14) (a15 : A15) (a16 : A16) (a17 : A17) (a18 : A18) (a19 : A19) (a20 : A20) (a21 : A21) (a22 : A22) (a23 : A23) (a24 : A24) (a25 : A25) (a26 : A26) (a27 : A27) (a28 : A28) (a29 : A29) (a30 : A30) : pw_u30 k (a1, a2, a3, a4, a5, a6, a7, a8, a9, a10, a11, a12, a13, a14, a15, a16, a17, a18, a19, a20, a21, a22, a23, a24, a25, a26, a27, a28, a29, a30) = k a1 a2 a3 a4 a5 a6 a7 a8 a9 a10 a11 a12 a13 a14 a15 a16 a17 a18 a19 a20 a21 a22 a23 a24 a25 a26 a27 a28 a29 a30 := rfl
/-! ===== numbers ===== -/
theorem qs_cl {k : Nat} (h : k < 2147483648) : Int32.toNatClampNeg (nI k) = k := nI_clamp h
theorem qs_in {k N : Nat} (h : k < N) (hN : N < 2147483648) : ¬ (nI k < 0 ∨ N ≤ Int32.toNatClampNeg (nI k)) := nI_in h hN
theorem qg_in {α : Type} {k N : Nat} (h : k < N) (hN : N < 2147483648) (o : Option α) : pw_gd (¬ (nI k < 0 ∨ N ≤ Int32.toNatClampNeg (nI k))) o = o := qs_g (qs_in h hN) o
theorem qg_in2 {α : Type} {k N : Nat} [Decidable (¬ (nI k < 0 ∨ N ≤ k))] (h : k < N) (hN : N < 2147483648) (o : Option α) : pw_gd (¬ (nI k < 0 ∨ N ≤ k)) o = o := qs_g (fun g => g.elim (nI_pos (by omega)) (fun g => by omega)) o
theorem qs_bit {x i : Nat} (hi : i < 32) : bt (nI x) i = x.testBit i := by
  show (BitVec.ofNat 32 x).getLsbD i = _
  rw [BitVec.getLsbD_ofNat]
  simp [hi]
theorem qs_b7 : ∀ i, i < 32 → bt 7 i = decide (i < 3) := by decide +kernel
/-! ===== Int64 by its bits ===== -/
def bl (x : Int64) (i : Nat) : Bool := x.toBitVec.getLsbD i
theorem l_ext {x y : Int64} (h : ∀ i, i < 64 → bl x i = bl y i) : x = y := Int64.toBitVec_inj.mp (BitVec.eq_of_getLsbD_eq (fun i hi => h i hi))
theorem l_or (x y : Int64) (i : Nat) : bl (x ||| y) i = (bl x i || bl y i) := by unfold bl; rw [Int64.toBitVec_or, BitVec.getLsbD_or]
theorem l_and (x y : Int64) (i : Nat) : bl (x &&& y) i = (bl x i && bl y i) := by unfold bl; rw [Int64.toBitVec_and, BitVec.getLsbD_and]
theorem l_xor (x y : Int64) (i : Nat) : bl (x ^^^ y) i = (bl x i ^^ bl y i) := by unfold bl; rw [Int64.toBitVec_xor, BitVec.getLsbD_xor]
theorem l_m1 : ∀ i, i < 64 → bl (-1) i = true := by decide +kernel
theorem l_0 (i : Nat) : bl 0 i = false := BitVec.getLsbD_zero
theorem l_big {x : Int64} {i : Nat} (h : 64 ≤ i) : bl x i = false := BitVec.getLsbD_of_ge _ _ h
theorem l_1shl : ∀ k, k < 64 → ∀ i, i < 64 → bl ((1 : Int64) <<< (Int32.toInt64 (nI k) &&& 63)) i = decide (i = k) := by decide +kernel
theorem l_su : ∀ n, n < 64 → ((Int64.toUInt64 (Int32.toInt64 (nI n)) &&& Int64.toUInt64 63).toBitVec % 64).toNat = n := by decide +kernel
theorem l_ushr (n : Nat) (hn : n < 64) (x : Int64) (i : Nat) : bl ((Int64.toUInt64 x >>> (Int64.toUInt64 (Int32.toInt64 (nI n)) &&& Int64.toUInt64 63)).toInt64) i = bl x (n + i) := by
  show (Int64.toUInt64 x >>> (Int64.toUInt64 (Int32.toInt64 (nI n)) &&& Int64.toUInt64 63)).toBitVec.getLsbD i = (Int64.toUInt64 x).toBitVec.getLsbD (n + i)
  rw [UInt64.toBitVec_shiftRight]
  show ((Int64.toUInt64 x).toBitVec >>> ((Int64.toUInt64 (Int32.toInt64 (nI n)) &&& Int64.toUInt64 63).toBitVec % 64).toNat).getLsbD i = _
  rw [l_su n hn, BitVec.getLsbD_ushiftRight]
theorem l_toI (y : Int64) {i : Nat} (hi : i < 32) : bt (Int64.toInt32 y) i = bl y i := by
  show (y.toBitVec.signExtend 32).getLsbD i = y.toBitVec.getLsbD i
  rw [BitVec.getLsbD_signExtend]
  simp [hi]
  omega
theorem l_cmp0 (x : Int64) : lg_cmp x 0 = 0 ↔ x = 0 := by
  unfold lg_cmp
  by_cases h1 : x > 0
  · rw [if_pos h1]
    constructor
    · intro h; exact absurd h (by decide)
    · intro h; rw [h] at h1; exact absurd h1 (by decide)
  · rw [if_neg h1]
    by_cases h2 : x = 0
    · rw [if_pos h2]; simp [h2]
    · rw [if_neg h2]; simp [h2]
/-! ===== who stands to whom: an Int64 as 8 rows of 8 bits ===== -/
def Mt (x : Int64) (f : Nat → Nat → Bool) : Prop := ∀ p q, p < 8 → q < 8 → bl x (8 * p + q) = f p q
theorem Mt_ext {x y : Int64} {f : Nat → Nat → Bool} (h1 : Mt x f) (h2 : Mt y f) : x = y := l_ext (fun i hi => by
  have e : i = 8 * (i / 8) + i % 8 := by omega
  rw [e, h1 _ _ (by omega) (by omega), h2 _ _ (by omega) (by omega)])
theorem Mt_0 : Mt 0 (fun _ _ => false) := fun _ _ _ _ => l_0 _
theorem Mt_or {x y : Int64} {f g : Nat → Nat → Bool} (h1 : Mt x f) (h2 : Mt y g) : Mt (x ||| y) (fun p q => f p q || g p q) := fun p q hp hq => by rw [l_or, h1 p q hp hq, h2 p q hp hq]
theorem Mt_and {x y : Int64} {f g : Nat → Nat → Bool} (h1 : Mt x f) (h2 : Mt y g) : Mt (x &&& y) (fun p q => f p q && g p q) := fun p q hp hq => by rw [l_and, h1 p q hp hq, h2 p q hp hq]
theorem Mt_not {x : Int64} {f : Nat → Nat → Bool} (h1 : Mt x f) : Mt (x ^^^ (-1)) (fun p q => !f p q) := fun p q hp hq => by rw [l_xor, h1 p q hp hq, l_m1 _ (by omega)]; simp
theorem Mt_cong {x : Int64} {f g : Nat → Nat → Bool} (h1 : Mt x f) (h : ∀ p q, p < 8 → q < 8 → f p q = g p q) : Mt x g := fun p q hp hq => by rw [h1 p q hp hq, h p q hp hq]
theorem Mt_zero {x : Int64} {f : Nat → Nat → Bool} (h : Mt x f) : x = 0 ↔ ∀ p q, p < 8 → q < 8 → f p q = false := by
  constructor
  · intro e p q hp hq; rw [← h p q hp hq, e, l_0]
  · intro e; exact Mt_ext h (fun p q hp hq => by rw [l_0, e p q hp hq])
theorem qs_8 {p q : Nat} : (8 : Int32) * nI p + nI q = nI (8 * p + q) := by
  show nI 8 * nI p + nI q = _
  rw [pk_mul, nI_add]
theorem Mt_both {p q : Nat} (hp : p < 8) (hq : q < 8) : Mt (f_X3_bothWays (nI p) (nI q)) (fun a b => (decide (a = p) && decide (b = q)) || (decide (a = q) && decide (b = p))) := by
  intro a b ha hb
  unfold f_X3_bothWays
  rw [qs_8, qs_8, l_or, l_1shl _ (by omega) _ (by omega), l_1shl _ (by omega) _ (by omega)]
  have e1 : decide (8 * a + b = 8 * p + q) = (decide (a = p) && decide (b = q)) := by
    rw [Bool.eq_iff_iff]; simp; omega
  have e2 : decide (8 * a + b = 8 * q + p) = (decide (a = q) && decide (b = p)) := by
    rw [Bool.eq_iff_iff]; simp; omega
  rw [e1, e2]
theorem Mt_row {x : Int64} {f : Nat → Nat → Bool} (h : Mt x f) {p : Nat} (hp : p < 8) {i : Nat} (hi : i < 32) : bt (f_X3_rowOf x (nI p)) i = (decide (i < 8) && f p i) := by
  unfold f_X3_rowOf
  have e : (8 : Int32) * nI p = nI (8 * p) := by show nI 8 * nI p = _; rw [pk_mul]
  rw [b_and, b_255, e, l_toI _ hi, l_ushr _ (by omega)]
  by_cases h8 : i < 8
  · rw [h p i hp h8]; simp [h8]
  · simp [h8]
/-! ===== a seating as one number: seven figures of three bits ===== -/
def pk (σ : Nat → Nat) : Nat := (((((σ 0 * 8 + σ 1) * 8 + σ 2) * 8 + σ 3) * 8 + σ 4) * 8 + σ 5) * 8 + σ 6
def Dg (σ : Nat → Nat) : Prop := ∀ c, σ c < 8
def upN (σ : Nat → Nat) (c p : Nat) : Nat → Nat := fun d => if d = c then p else σ d
theorem co_7 {P : Nat → Prop} (h0 : P 0) (h1 : P 1) (h2 : P 2) (h3 : P 3) (h4 : P 4) (h5 : P 5) (h6 : P 6) {i : Nat} (hi : i < 7) : P i := by
  rcases (show i = 0 ∨ i = 1 ∨ i = 2 ∨ i = 3 ∨ i = 4 ∨ i = 5 ∨ i = 6 by omega) with rfl | rfl | rfl | rfl | rfl | rfl | rfl <;> assumption
theorem pk_lt2 {σ : Nat → Nat} (h : Dg σ) : pk σ < 2097152 := by
  have := h 0; have := h 1; have := h 2; have := h 3; have := h 4; have := h 5; have := h 6
  unfold pk; omega
theorem qs_sh : ∀ c, c < 7 → ((18 : Int32) - 3 * nI c) &&& 31 = nI (18 - 3 * c) &&& 31 := by decide +kernel
theorem qs_shr {n k : Nat} (h : n < 2147483648) (hk : k < 32) : nI n >>> (nI k &&& 31) = nI (n / 2 ^ k) := pk_shrN h _ k (s_l k hk)
theorem qs_and7 {n : Nat} (h : n < 4294967296) : nI n &&& 7 = nI (n % 8) := pk_andN h 3 (by decide)
theorem on_raw {x c : Nat} (hx : x < 2097152) (hc : c < 7) : f_X7_personOn (nI x) (nI c) = nI (x / 2 ^ (18 - 3 * c) % 8) := by
  unfold f_X7_personOn
  have hd : x / 2 ^ (18 - 3 * c) ≤ x := Nat.div_le_self _ _
  rw [qs_sh c hc, qs_shr (by omega) (by omega), qs_and7 (by omega)]
theorem on_pk {σ : Nat → Nat} (h : Dg σ) {c : Nat} (hc : c < 7) : f_X7_personOn (nI (pk σ)) (nI c) = nI (σ c) := by
  rw [on_raw (pk_lt2 h) hc]
  have g0 := h 0; have g1 := h 1; have g2 := h 2; have g3 := h 3; have g4 := h 4; have g5 := h 5; have g6 := h 6
  revert hc c
  intro c hc
  refine co_7 (P := fun c => nI (pk σ / 2 ^ (18 - 3 * c) % 8) = nI (σ c)) ?_ ?_ ?_ ?_ ?_ ?_ ?_ hc <;> (refine congrArg nI ?_; simp only [Nat.reduceMul, Nat.reduceSub, Nat.reducePow]; unfold pk; omega)
theorem wi_raw {x sh p : Nat} (hx : x < 2097152) (hs : sh ≤ 18) (hp : p < 8) : (nI x &&& (((7 : Int32) <<< (nI sh &&& 31)) ^^^ (-1))) ||| (nI p <<< (nI sh &&& 31)) = nI (2 ^ (sh + 3) * (x / 2 ^ (sh + 3)) + (2 ^ sh * p + x % 2 ^ sh)) := by
  have hm : x % 2 ^ sh < 2 ^ sh := Nat.mod_lt _ (Nat.two_pow_pos _)
  have hl : 2 ^ sh * p + x % 2 ^ sh < 2 ^ (sh + 3) := by
    have : 2 ^ sh * p + x % 2 ^ sh < 2 ^ sh * (p + 1) := by rw [Nat.mul_add]; omega
    have h2 : 2 ^ sh * (p + 1) ≤ 2 ^ sh * 8 := Nat.mul_le_mul_left _ (by omega)
    have h3 : 2 ^ (sh + 3) = 2 ^ sh * 8 := by rw [Nat.pow_add]
    omega
  apply b_ext
  intro i hi
  rw [b_or, b_and, b_xor, b_m1 i hi, b_shl sh (by omega) 7 hi, b_shl sh (by omega) (nI p) hi, qs_bit hi, qs_bit hi, Nat.testBit_two_pow_mul_add _ hl, Nat.testBit_two_pow_mul_add _ hm, Nat.testBit_mod_two_pow, Nat.testBit_div_two_pow]
  by_cases h1 : i < sh
  · have : ¬ sh ≤ i := by omega
    have h4 : i < sh + 3 := by omega
    simp [h1, this, h4]
  · have h1' : sh ≤ i := by omega
    rw [qs_b7 (i - sh) (by omega), qs_bit (by omega : i - sh < 32)]
    by_cases h2 : i < sh + 3
    · have h5 : i - sh < 3 := by omega
      simp [h1, h1', h2, h5]
    · have h5 : ¬ i - sh < 3 := by omega
      have h6 : p.testBit (i - sh) = false := Nat.testBit_lt_two_pow (Nat.lt_of_lt_of_le (show p < 2 ^ 3 by omega) (Nat.pow_le_pow_right (by omega) (by omega)))
      have h7 : i - (sh + 3) + (sh + 3) = i := by omega
      simp [h1, h1', h2, h5, h6, h7]
theorem wi_pk {σ : Nat → Nat} (h : Dg σ) {c p : Nat} (hc : c < 7) (hp : p < 8) : f_X7_with (nI (pk σ)) (nI c) (nI p) = nI (pk (upN σ c p)) := by
  unfold f_X7_with
  rw [qs_lt]
  have e7 : nI p &&& 7 = nI p := by rw [qs_and7 (by omega), Nat.mod_eq_of_lt hp]
  rw [qs_sh c hc, e7, wi_raw (pk_lt2 h) (by omega) hp]
  have g0 := h 0; have g1 := h 1; have g2 := h 2; have g3 := h 3; have g4 := h 4; have g5 := h 5; have g6 := h 6
  refine co_7 (P := fun c => nI (2 ^ (18 - 3 * c + 3) * (pk σ / 2 ^ (18 - 3 * c + 3)) + (2 ^ (18 - 3 * c) * p + pk σ % 2 ^ (18 - 3 * c))) = nI (pk (upN σ c p))) ?_ ?_ ?_ ?_ ?_ ?_ ?_ hc <;> (refine congrArg nI ?_; simp only [Nat.reduceMul, Nat.reduceSub, Nat.reduceAdd, Nat.reducePow]; simp [pk, upN]; omega)
theorem Dg_up {σ : Nat → Nat} (h : Dg σ) {c p : Nat} (hp : p < 8) : Dg (upN σ c p) := fun d => by unfold upN; split <;> first | exact hp | exact h d
theorem pk_inj {σ τ : Nat → Nat} (h1 : Dg σ) (h2 : Dg τ) (e : pk σ = pk τ) {c : Nat} (hc : c < 7) : σ c = τ c := by
  have a0 := h1 0; have a1 := h1 1; have a2 := h1 2; have a3 := h1 3; have a4 := h1 4; have a5 := h1 5; have a6 := h1 6
  have b0 := h2 0; have b1 := h2 1; have b2 := h2 2; have b3 := h2 3; have b4 := h2 4; have b5 := h2 5; have b6 := h2 6
  unfold pk at e
  refine co_7 (P := fun c => σ c = τ c) ?_ ?_ ?_ ?_ ?_ ?_ ?_ hc <;> omega
/-- the number of a seating is by the order of its first figure that differs -/
theorem pk_lex {σ τ : Nat → Nat} (h1 : Dg σ) (h2 : Dg τ) {k : Nat} (hk : k < 7) (he : ∀ c, c < k → σ c = τ c) (hl : σ k < τ k) : pk σ < pk τ := by
  have a0 := h1 0; have a1 := h1 1; have a2 := h1 2; have a3 := h1 3; have a4 := h1 4; have a5 := h1 5; have a6 := h1 6
  have b0 := h2 0; have b1 := h2 1; have b2 := h2 2; have b3 := h2 3; have b4 := h2 4; have b5 := h2 5; have b6 := h2 6
  unfold pk
  rcases (show k = 0 ∨ k = 1 ∨ k = 2 ∨ k = 3 ∨ k = 4 ∨ k = 5 ∨ k = 6 by omega) with rfl | rfl | rfl | rfl | rfl | rfl | rfl
  · omega
  · have := he 0 (by omega); omega
  · have := he 0 (by omega); have := he 1 (by omega); omega
  · have := he 0 (by omega); have := he 1 (by omega); have := he 2 (by omega); omega
  · have := he 0 (by omega); have := he 1 (by omega); have := he 2 (by omega); have := he 3 (by omega); omega
  · have := he 0 (by omega); have := he 1 (by omega); have := he 2 (by omega); have := he 3 (by omega); have := he 4 (by omega); omega
  · have := he 0 (by omega); have := he 1 (by omega); have := he 2 (by omega); have := he 3 (by omega); have := he 4 (by omega); have := he 5 (by omega); omega
