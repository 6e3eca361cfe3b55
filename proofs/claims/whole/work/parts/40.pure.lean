def bt (x : Int32) (i : Nat) : Bool := x.toBitVec.getLsbD i
theorem b_ext {x y : Int32} (h : ∀ i, i < 32 → bt x i = bt y i) : x = y := Int32.toBitVec_inj.mp (BitVec.eq_of_getLsbD_eq (fun i hi => h i hi))
theorem b_and (x y : Int32) (i : Nat) : bt (x &&& y) i = (bt x i && bt y i) := by unfold bt; rw [Int32.toBitVec_and, BitVec.getLsbD_and]
theorem b_or (x y : Int32) (i : Nat) : bt (x ||| y) i = (bt x i || bt y i) := by unfold bt; rw [Int32.toBitVec_or, BitVec.getLsbD_or]
theorem b_big {x : Int32} {i : Nat} (h : 32 ≤ i) : bt x i = false := BitVec.getLsbD_of_ge _ _ h
theorem b_255 (i : Nat) : bt 255 i = decide (i < 8) := by
  rcases Nat.lt_or_ge i 32 with h | h
  · exact (by decide +kernel : ∀ i, i < 32 → bt 255 i = decide (i < 8)) i h
  · rw [b_big h, decide_eq_false (by omega)]
theorem s_l : ∀ n, n < 32 → ((nI n &&& 31).toBitVec.smod 32).toNat = n := by decide +kernel
theorem s_u : ∀ n, n < 32 → (((nI n).toUInt32 &&& Int32.toUInt32 31).toBitVec % 32).toNat = n := by decide +kernel
theorem b_ushr (n : Nat) (hn : n < 32) (x : Int32) (i : Nat) : bt ((x.toUInt32 >>> ((nI n).toUInt32 &&& Int32.toUInt32 31)).toInt32) i = bt x (n + i) := by
  show (x.toUInt32 >>> ((nI n).toUInt32 &&& Int32.toUInt32 31)).toBitVec.getLsbD i = x.toUInt32.toBitVec.getLsbD (n + i)
  rw [UInt32.toBitVec_shiftRight]
  show (x.toUInt32.toBitVec >>> (((nI n).toUInt32 &&& Int32.toUInt32 31).toBitVec % 32).toNat).getLsbD i = _
  rw [s_u n hn, BitVec.getLsbD_ushiftRight]
theorem b_sshr (n : Nat) (hn : n < 32) (x : Int32) {i : Nat} (hi : i < 32) : bt (x >>> (nI n &&& 31)) i = if n + i < 32 then bt x (n + i) else bt x 31 := by
  unfold bt
  rw [Int32.toBitVec_shiftRight]
  show (x.toBitVec.sshiftRight ((nI n &&& 31).toBitVec.smod 32).toNat).getLsbD i = _
  rw [s_l n hn, BitVec.getLsbD_sshiftRight, BitVec.msb_eq_getLsbD_last]
  simp [hi]
/-! the reference -/
theorem w_byte {x : Int32} {k : Nat} (hk : k ≤ 24) : (x >>> (iI ((k : Nat) : Int) &&& 31)) &&& iI (255 : Int) = wB x ((k : Nat) : Int) := by
  have e : iI ((k : Nat) : Int) = nI k := (iI_nI k).symm
  unfold wB
  rw [e]
  refine b_ext (fun i hi => ?_)
  rw [b_and, b_and, b_ushr k (by omega), b_sshr k (by omega) x hi]
  by_cases h : i < 8
  · rw [if_pos (by omega)]
  · have h2 : bt (iI (255 : Int)) i = false := by
      rw [show iI (255 : Int) = (255 : Int32) from rfl, b_255, decide_eq_false h]
    rw [h2, Bool.and_false, Bool.and_false]
theorem fd_eq (w : Int64) {j : Nat} (hj : j < 8) : ((w >>> ((iI (8 * ((j : Nat) : Int))).toInt64 &&& 63)) &&& (255 : Int64)).toInt32 = fdb w (8 * ((j : Nat) : Int)) := by
  have e1 : ∀ j, j < 8 → (((iI (8 * ((j : Nat) : Int))).toInt64 &&& 63).toBitVec.smod 64).toNat = 8 * j := by decide +kernel
  have e2 : ∀ j, j < 8 → (((iI (8 * ((j : Nat) : Int))).toInt64.toUInt64 &&& Int64.toUInt64 63).toBitVec % 64).toNat = 8 * j := by decide +kernel
  have e3 : ∀ i, i < 64 → (255 : Int64).toBitVec.getLsbD i = decide (i < 8) := by decide +kernel
  refine b_ext (fun i hi => ?_)
  unfold fdb
  rw [b_and, show iI (255 : Int) = (255 : Int32) from rfl, b_255]
  unfold bt
  rw [Int64.toBitVec_toInt32, Int64.toBitVec_toInt32, BitVec.getLsbD_signExtend, BitVec.getLsbD_signExtend, if_pos (show i < 64 by omega), if_pos (show i < 64 by omega), Int64.toBitVec_and, BitVec.getLsbD_and, e3 i (by omega)]
  by_cases h : i < 8
  · have s1 : (w >>> ((iI (8 * ((j : Nat) : Int))).toInt64 &&& 63)).toBitVec.getLsbD i = w.toBitVec.getLsbD (8 * j + i) := by
      rw [Int64.toBitVec_shiftRight]
      show (w.toBitVec.sshiftRight (((iI (8 * ((j : Nat) : Int))).toInt64 &&& 63).toBitVec.smod 64).toNat).getLsbD i = _
      rw [e1 j hj, BitVec.getLsbD_sshiftRight]
      simp [show i < 64 by omega, show 8 * j + i < 64 by omega]
    have s2 : ((w.toUInt64 >>> ((iI (8 * ((j : Nat) : Int))).toInt64.toUInt64 &&& Int64.toUInt64 63)).toInt64).toBitVec.getLsbD i = w.toBitVec.getLsbD (8 * j + i) := by
      show (w.toUInt64 >>> ((iI (8 * ((j : Nat) : Int))).toInt64.toUInt64 &&& Int64.toUInt64 63)).toBitVec.getLsbD i = w.toUInt64.toBitVec.getLsbD (8 * j + i)
      rw [UInt64.toBitVec_shiftRight]
      show (w.toUInt64.toBitVec >>> (((iI (8 * ((j : Nat) : Int))).toInt64.toUInt64 &&& Int64.toUInt64 63).toBitVec % 64).toNat).getLsbD i = _
      rw [e2 j hj, BitVec.getLsbD_ushiftRight]
    rw [s1, s2]
    simp [h]
  · simp [h]
theorem ixF_out {z : Int} {a b c d e f : Int32} (h : z < 0 ∨ 4 < z) : ixF z a b c d e f = f := by
  unfold ixF
  rw [if_neg (by omega), if_neg (by omega), if_neg (by omega), if_neg (by omega), if_neg (by omega)]
theorem bt_no {z i : Int} {g1 g2 g3 g4 g5 : Nat → Int32} {k1 k2 k3 k4 k5 : Nat} (h : i < 0 ∨ szF z k1 k2 k3 k4 k5 ≤ i) : ixF z (rAt g1 k1 i) (rAt g2 k2 i) (rAt g3 k3 i) (rAt g4 k4 i) (rAt g5 k5 i) (iI (-1 : Int)) = iI (-1 : Int) := by
  unfold ixF szF rAt at *
  repeat' split
  all_goals first | rfl | (exfalso; split at h <;> first | omega | (split at h <;> first | omega | (split at h <;> first | omega | (split at h <;> first | omega | (split at h <;> omega)))))
theorem bt_z {z i : Int} {k1 k2 k3 k4 k5 : Nat} (h0 : 0 ≤ i) (h : i < szF z k1 k2 k3 k4 k5) : 0 ≤ z ∧ z ≤ 4 := by
  unfold szF at h
  split at h
  · omega
  · split at h
    · omega
    · split at h
      · omega
      · split at h
        · omega
        · split at h <;> omega
theorem szF_rng {z : Int} {k1 k2 k3 k4 k5 : Nat} (h1 : k1 ≤ 300) (h2 : k2 ≤ 300) (h3 : k3 ≤ 900) (h4 : k4 ≤ 300) (h5 : k5 ≤ 300) : -1 ≤ szF z k1 k2 k3 k4 k5 ∧ szF z k1 k2 k3 k4 k5 ≤ 900 := by
  unfold szF
  repeat' split
  all_goals omega
theorem apL_sl0 {f g : Nat → Int32} {k : Nat} : upd (apL f 0 (sl g 0 k)) k (g k) = apL f 0 (sl g 0 (k + 1)) := by
  rw [apL_one]
  have := apL_sl (f := f) (g := g) (n := 0) (st := 0) (k := k)
  rw [Nat.zero_add] at this
  exact this
theorem apL_up {f : Nat → Int32} {n k : Nat} {T : List Int32} {x : Int32} (h : k = n + T.length) : upd (apL f n T) k x = apL f n (T ++ [x]) := by rw [apL_one, apL_at h]
/-- the reference's search: nothing below four counts -/
def bsM (r : Nat → Nat) (q : Nat) : Int := if 4 ≤ mxR r q then ((lsQ r q : Nat) : Int) else -1
theorem msM_f {r : Nat → Nat} {q : Nat} (h : max 3 (mxR r q) < r q) : max 3 (mxR r (q + 1)) = r q ∧ bsM r (q + 1) = ((q : Nat) : Int) := by
  have h1 : mxR r q < r q := by omega
  unfold bsM
  rw [mxR_f h1, lsQ_f h1, if_pos (by omega)]
  exact ⟨by omega, rfl⟩
theorem msM_t {r : Nat → Nat} {q : Nat} (h : r q ≤ max 3 (mxR r q)) : max 3 (mxR r (q + 1)) = max 3 (mxR r q) ∧ bsM r (q + 1) = bsM r q := by
  rcases Nat.lt_or_ge (mxR r q) (r q) with h1 | h1
  · unfold bsM
    rw [mxR_f h1, if_neg (by omega), if_neg (by omega)]
    exact ⟨by omega, rfl⟩
  · unfold bsM
    rw [mxR_t h1, lsQ_t h1]
    exact ⟨rfl, rfl⟩
theorem bsM_rng (r : Nat → Nat) (q : Nat) : -1 ≤ bsM r q ∧ bsM r q ≤ q := by
  have := lsQ_le r q
  unfold bsM
  split <;> omega
theorem uZ_uZ (P : Nat → Int) (k : Nat) (a b : Int) : uZ (uZ P k a) k b = uZ P k b := by
  funext j
  unfold uZ
  split <;> rfl
theorem adB_y {P L S : Nat → Int} {cnt p : Nat} (h : 0 < cnt ∧ S (cnt - 1) = -1 ∧ L (cnt - 1) < 40) : adB P L S cnt p = (P, uZ L (cnt - 1) (L (cnt - 1) + 1), S, cnt) := by unfold adB; rw [if_pos h]
theorem adB_n {P L S : Nat → Int} {cnt p : Nat} (h : ¬ (0 < cnt ∧ S (cnt - 1) = -1 ∧ L (cnt - 1) < 40)) : adB P L S cnt p = (uZ P cnt ((p : Nat) : Int), uZ L cnt 1, uZ S cnt (-1), cnt + 1) := by unfold adB; rw [if_neg h]
theorem b_and255 {v : Nat} (h : v < 256) : iI ((v : Nat) : Int) &&& iI (255 : Int) = iI ((v : Nat) : Int) := by
  rw [← iI_nI, show iI (255 : Int) = nI 255 from (iI_nI 255).symm]
  have := pk_andN (n := v) (m := nI 255) (by omega) 8 (by decide)
  rw [this, Nat.mod_eq_of_lt (by omega)]
theorem b_rem128 {v : Nat} (h : v < 2147483648) : (iI ((v : Nat) : Int)) - (iI ((v : Nat) : Int)) / (iI (128 : Int)) * (iI (128 : Int)) = iI ((v % 128 : Nat) : Int) := by
  rw [← iI_nI, ← iI_nI, show iI (128 : Int) = nI 128 from (iI_nI 128).symm]
  exact pk_rem (by omega) (by decide) (by decide)
theorem b_div128 {v : Nat} (h : v < 2147483648) : (iI ((v : Nat) : Int)) / (iI (128 : Int)) = iI ((v / 128 : Nat) : Int) := by
  rw [← iI_nI, ← iI_nI, show iI (128 : Int) = nI 128 from (iI_nI 128).symm]
  exact pk_div (by omega) (by decide) (by decide)
theorem fd_eqk (w : Int64) {k : Nat} (hk : 1 ≤ k ∧ k ≤ 8) : ((w >>> ((iI (8 * (((k : Nat) : Int) - 1))).toInt64 &&& 63)) &&& (255 : Int64)).toInt32 = fdb w (8 * (((k : Nat) : Int) - 1)) := by
  obtain ⟨j, rfl⟩ : ∃ j, k = j + 1 := ⟨k - 1, by omega⟩
  rw [show (((j + 1 : Nat) : Nat) : Int) - 1 = ((j : Nat) : Int) by omega]
  exact fd_eq w (by omega)
theorem w_b24 {w : Int32} : ((w) >>> ((iI (24 : Int)) &&& 31)) &&& (iI (255 : Int)) = wB w 24 := w_byte (k := 24) (by decide)
theorem w_b16 {w : Int32} : ((w) >>> ((iI (16 : Int)) &&& 31)) &&& (iI (255 : Int)) = wB w 16 := w_byte (k := 16) (by decide)
theorem w_b8 {w : Int32} : ((w) >>> ((iI (8 : Int)) &&& 31)) &&& (iI (255 : Int)) = wB w 8 := w_byte (k := 8) (by decide)
theorem w_b0 {w : Int32} : ((w) >>> ((iI (0 : Int)) &&& 31)) &&& (iI (255 : Int)) = wB w 0 := w_byte (k := 0) (by decide)
theorem pw_k {k w : Nat} (hk : 1 ≤ k ∧ k ≤ 4) (h : w < 128 ^ (5 - k)) (h2 : 127 < w) : k < 4 := by
  rcases Nat.lt_or_ge k 4 with q | q
  · exact q
  · obtain rfl : k = 4 := by omega
    have : w < 128 ^ 1 := h
    omega
theorem pw_div {k w : Nat} (hk : 1 ≤ k ∧ k ≤ 4) (h4 : k < 4) (h : w < 128 ^ (5 - k)) : w / 128 < 128 ^ (5 - (k + 1)) := by
  rw [show 5 - k = (5 - (k + 1)) + 1 by omega, Nat.pow_succ] at h
  exact Nat.div_lt_of_lt_mul (by rw [Nat.mul_comm]; exact h)
