/-! the reference's reading of the patch -/
def nnL (F : Nat → Nat) (k3 ma n acc b a : Nat) (l9 : Int) : Prop :=
  (l9 = 0 ∧ (127 < b → rvF F k3 (4 - n) n acc a = rv F k3 ma) ∧ (b ≤ 127 → rv F k3 ma = ((if b = 0 ∧ 1 < n then -1 else ((acc : Nat) : Int)), a))) ∨ (l9 = 1 ∧ b = 0 ∧ (rv F k3 ma).1 = -1)
def nnP (F : Nat → Nat) (k3 ma : Nat) (r : Int32) (a : Nat) (lk : Int) : Prop := a ≤ k3 ∧ ((¬ (rv F k3 ma).1 = -1 ∧ r = iI (rv F k3 ma).1 ∧ a = (rv F k3 ma).2 ∧ lk = 0) ∨ ((rv F k3 ma).1 = -1 ∧ lk = 1))
theorem nn_y {F : Nat → Nat} {k3 ma n acc b a : Nat} {l9 : Int} (hn : n < 4) (hb : 127 < b) (ha : a < k3) (hL : nnL F k3 ma n acc b a l9) : nnL F k3 ma (n + 1) (acc + F a % 128 * 128 ^ n) (F a) (a + 1) l9 := by
  rcases hL with ⟨h0, h1, h2⟩ | ⟨h0, h1, h2⟩
  · have hR := h1 hb
    refine Or.inl ⟨h0, fun h => ?_, fun h => ?_⟩
    · rw [← rvF_go hn ha (by omega)]
      exact hR
    · rw [← hR]
      by_cases hz : F a = 0 ∧ 0 < n
      · rw [rvF_z hn ha hz.1 hz.2, if_pos ⟨hz.1, by omega⟩]
      · rw [rvF_v hn ha (by omega) hz, if_neg (by omega)]
  · omega
theorem nn_n {F : Nat → Nat} {k3 ma n acc b a acc' : Nat} {l9 : Int} (hn : n < 4) (hb : 127 < b) (ha : ¬ a < k3) (hL : nnL F k3 ma n acc b a l9) : nnL F k3 ma (n + 1) acc' 0 a 1 := by
  rcases hL with ⟨h0, h1, h2⟩ | ⟨h0, h1, h2⟩
  · refine Or.inr ⟨rfl, rfl, ?_⟩
    rw [← h1 hb, rvF_out hn ha]
  · omega
theorem nn_end {F : Nat → Nat} {k3 ma n acc b a : Nat} {l9 lk : Int} (hn : n ≤ 4) (ha : a ≤ k3) (hL : nnL F k3 ma n acc b a l9) (hex : ¬ 127 < b ∨ ¬ n < 4 ∨ ¬ l9 = 0) (hlk : lk = if 127 < b ∨ (b = 0 ∧ 1 < n) then 1 else l9) : nnP F k3 ma (iI ((acc : Nat) : Int)) a lk := by
  refine ⟨ha, ?_⟩
  rcases hL with ⟨h0, h1, h2⟩ | ⟨h0, h1, h2⟩
  · by_cases hb : 127 < b
    · have hR := h1 hb
      rw [show 4 - n = 0 by omega] at hR
      refine Or.inr ⟨by rw [← hR]; rfl, ?_⟩
      rw [hlk, if_pos (Or.inl hb)]
    · have hR := h2 (by omega)
      by_cases hz : b = 0 ∧ 1 < n
      · rw [if_pos hz] at hR
        refine Or.inr ⟨by rw [hR], ?_⟩
        rw [hlk, if_pos (Or.inr hz)]
      · rw [if_neg hz] at hR
        refine Or.inl ⟨?_, by rw [hR], by rw [hR], ?_⟩
        · rw [hR]
          show ¬ ((acc : Nat) : Int) = -1
          omega
        · rw [hlk, if_neg (by omega), h0]
  · refine Or.inr ⟨h2, ?_⟩
    rw [hlk]
    split <;> omega
/-- four bytes -/
def ncP (F : Nat → Nat) (k3 ma : Nat) (lk : Int) (k : Nat) (r : Int32) (a : Nat) (l9 : Int) : Prop := a ≤ k3 ∧ ((ma + k ≤ k3 ∧ a = ma + k ∧ l9 = lk ∧ r = rdW F ma k) ∨ (k3 < ma + k ∧ a = k3 ∧ l9 = 1))
theorem nc_y {F : Nat → Nat} {k3 ma : Nat} {lk : Int} {k a : Nat} {s : Int32} {l9 : Int} (hB : ∀ j, j < k3 → F j < 256) (ha : a < k3) (h : ncP F k3 ma lk k s a l9) : ncP F k3 ma lk (k + 1) ((s <<< (iI (8 : Int) &&& 31)) ||| iI ((F a : Nat) : Int)) (a + 1) l9 := by
  obtain ⟨h0, ⟨h1, h2, h3, h4⟩ | ⟨h1, h2, h3⟩⟩ := h
  · refine ⟨by omega, Or.inl ⟨by omega, by omega, h3, ?_⟩⟩
    rw [rdW, h4, ← h2, b_and255 (hB a ha)]
  · omega
theorem nc_n {F : Nat → Nat} {k3 ma : Nat} {lk : Int} {k a : Nat} {s s' : Int32} {l9 : Int} (ha : ¬ a < k3) (h : ncP F k3 ma lk k s a l9) : ncP F k3 ma lk (k + 1) s' a 1 := by
  obtain ⟨h0, ⟨h1, h2, h3, h4⟩ | ⟨h1, h2, h3⟩⟩ := h
  · exact ⟨h0, Or.inr ⟨by omega, by omega, rfl⟩⟩
  · exact ⟨h0, Or.inr ⟨by omega, by omega, rfl⟩⟩
theorem b_div2' {z : Int} (h : 0 ≤ z ∧ z < 2147483648) : (iI z) / (iI (2 : Int)) = iI ((z.toNat / 2 : Nat) : Int) := by
  obtain ⟨n, rfl⟩ := Int.eq_ofNat_of_zero_le h.1
  rw [show iI (2 : Int) = nI 2 from (iI_nI 2).symm]
  have := pk_div (a := n) (d := 2) (by omega) (by decide) (by decide)
  rw [iI_nI n] at this
  rw [← iI_nI]
  exact this
theorem b_rem2' {z : Int} (h : 0 ≤ z ∧ z < 2147483648) : (iI z) - (iI z) / (iI (2 : Int)) * (iI (2 : Int)) = iI ((z.toNat % 2 : Nat) : Int) := by
  obtain ⟨n, rfl⟩ := Int.eq_ofNat_of_zero_le h.1
  rw [show iI (2 : Int) = nI 2 from (iI_nI 2).symm]
  have := pk_rem (a := n) (d := 2) (by omega) (by decide) (by decide)
  rw [iI_nI n] at this
  rw [← iI_nI]
  exact this
