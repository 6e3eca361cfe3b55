/-! the reference's reading of the patch -/
def nnL (F : Nat → Nat) (k3 ma n acc b a : Nat) (l9 : Int) : Prop :=
  (l9 = 0 ∧ (127 < b → rvF F k3 (4 - n) n acc a = rv F k3 ma) ∧ (b ≤ 127 → rv F k3 ma = ((if b = 0 ∧ 1 < n then -1 else ((acc : Nat) : Int)), a))) ∨ (l9 = 1 ∧ b = 0 ∧ (rv F k3 ma).1 = -1)
def nnP (F : Nat → Nat) (k3 ma : Nat) (r : Int32) (a : Nat) (lk : Int) : Prop := a ≤ k3 ∧ ((¬ (rv F k3 ma).1 = -1 ∧ r = iI (rv F k3 ma).1 ∧ a = (rv F k3 ma).2 ∧ lk = 0) ∨ ((rv F k3 ma).1 = -1 ∧ lk = 1))
theorem nn_y {F : Nat → Nat} {k3 ma n acc b a : Nat} {l9 : Int} (hn : n < 4) (hb : 127 < b) (ha : a < k3) (hL : nnL F k3 ma n acc b a l9) : nnL F k3 ma (n + 1) (acc + F a % 128 * 128 ^ n) (F a) (a + 1) l9 := by
  rcases hL with ⟨h0, h1, h2⟩ | ⟨h0, h1, h2⟩
  · have hR := h1 hb
    refine Or.inl ⟨h0, fun h => ?_, fun h => ?_⟩
    · rw [← rvF_go hn ha (by omega)]
      exact hR
    · rw [← hR]
      by_cases hz : F a = 0 ∧ 0 < n
      · rw [rvF_z hn ha hz.1 hz.2, if_pos ⟨hz.1, by omega⟩]
      · rw [rvF_v hn ha (by omega) hz, if_neg (by omega)]
  · omega
theorem nn_n {F : Nat → Nat} {k3 ma n acc b a acc' : Nat} {l9 : Int} (hn : n < 4) (hb : 127 < b) (ha : ¬ a < k3) (hL : nnL F k3 ma n acc b a l9) : nnL F k3 ma (n + 1) acc' 0 a 1 := by
  rcases hL with ⟨h0, h1, h2⟩ | ⟨h0, h1, h2⟩
  · refine Or.inr ⟨rfl, rfl, ?_⟩
    rw [← h1 hb, rvF_out hn ha]
  · omega
theorem nn_end {F : Nat → Nat} {k3 ma n acc b a : Nat} {l9 lk : Int} (hn : n ≤ 4) (ha : a ≤ k3) (hL : nnL F k3 ma n acc b a l9) (hex : ¬ 127 < b ∨ ¬ n < 4 ∨ ¬ l9 = 0) (hlk : lk = if 127 < b ∨ (b = 0 ∧ 1 < n) then 1 else l9) : nnP F k3 ma (iI ((acc : Nat) : Int)) a lk := by
  refine ⟨ha, ?_⟩
  rcases hL with ⟨h0, h1, h2⟩ | ⟨h0, h1, h2⟩
  · by_cases hb : 127 < b
    · have hR := h1 hb
      rw [show 4 - n = 0 by omega] at hR
      refine Or.inr ⟨by rw [← hR]; rfl, ?_⟩
      rw [hlk, if_pos (Or.inl hb)]
    · have hR := h2 (by omega)
      by_cases hz : b = 0 ∧ 1 < n
      · rw [if_pos hz] at hR
        refine Or.inr ⟨by rw [hR], ?_⟩
        rw [hlk, if_pos (Or.inr hz)]
      · rw [if_neg hz] at hR
        refine Or.inl ⟨?_, by rw [hR], by rw [hR], ?_⟩
        · rw [hR]
          show ¬ ((acc : Nat) : Int) = -1
          omega
        · rw [hlk, if_neg (by omega), h0]
  · refine Or.inr ⟨h2, ?_⟩
    rw [hlk]
    split <;> omega
/-- four bytes -/
def ncP (F : Nat → Nat) (k3 ma : Nat) (lk : Int) (k : Nat) (r : Int32) (a : Nat) (l9 : Int) : Prop := a ≤ k3 ∧ ((ma + k ≤ k3 ∧ a = ma + k ∧ l9 = lk ∧ r = rdW F ma k) ∨ (k3 < ma + k ∧ a = k3 ∧ l9 = 1))
theorem nc_y {F : Nat → Nat} {k3 ma : Nat} {lk : Int} {k a : Nat} {s : Int32} {l9 : Int} (hB : ∀ j, j < k3 → F j < 256) (ha : a < k3) (h : ncP F k3 ma lk k s a l9) : ncP F k3 ma lk (k + 1) ((s <<< (iI (8 : Int) &&& 31)) ||| iI ((F a : Nat) : Int)) (a + 1) l9 := by
  obtain ⟨h0, ⟨h1, h2, h3, h4⟩ | ⟨h1, h2, h3⟩⟩ := h
  · refine ⟨by omega, Or.inl ⟨by omega, by omega, h3, ?_⟩⟩
    rw [rdW, h4, ← h2, b_and255 (hB a ha)]
  · omega
theorem nc_n {F : Nat → Nat} {k3 ma : Nat} {lk : Int} {k a : Nat} {s s' : Int32} {l9 : Int} (ha : ¬ a < k3) (h : ncP F k3 ma lk k s a l9) : ncP F k3 ma lk (k + 1) s' a 1 := by
  obtain ⟨h0, ⟨h1, h2, h3, h4⟩ | ⟨h1, h2, h3⟩⟩ := h
  · exact ⟨h0, Or.inr ⟨by omega, by omega, rfl⟩⟩
  · exact ⟨h0, Or.inr ⟨by omega, by omega, rfl⟩⟩
theorem b_div2' {z : Int} (h : 0 ≤ z ∧ z < 2147483648) : (iI z) / (iI (2 : Int)) = iI ((z.toNat / 2 : Nat) : Int) := by
  obtain ⟨n, rfl⟩ := Int.eq_ofNat_of_zero_le h.1
  rw [show iI (2 : Int) = nI 2 from (iI_nI 2).symm]
  have := pk_div (a := n) (d := 2) (by omega) (by decide) (by decide)
  rw [iI_nI n] at this
  rw [← iI_nI]
  exact this
theorem b_rem2' {z : Int} (h : 0 ≤ z ∧ z < 2147483648) : (iI z) - (iI z) / (iI (2 : Int)) * (iI (2 : Int)) = iI ((z.toNat % 2 : Nat) : Int) := by
  obtain ⟨n, rfl⟩ := Int.eq_ofNat_of_zero_le h.1
  rw [show iI (2 : Int) = nI 2 from (iI_nI 2).symm]
  have := pk_rem (a := n) (d := 2) (by omega) (by decide) (by decide)
  rw [iI_nI n] at this
  rw [← iI_nI]
  exact this
theorem nnP_l {F : Nat → Nat} {k3 ma a : Nat} {r : Int32} {lk : Int} (h : nnP F k3 ma r a lk) : lk = 0 ∨ lk = 1 := h.2.elim (fun q => Or.inl q.2.2.2) (fun q => Or.inr q.2)
theorem nnP_good {F : Nat → Nat} {k3 ma a : Nat} {r : Int32} {lk : Int} (h : nnP F k3 ma r a lk) (h0 : lk = 0) : ¬ (rv F k3 ma).1 = -1 ∧ r = iI (rv F k3 ma).1 ∧ a = (rv F k3 ma).2 := by
  rcases h.2 with q | q
  · exact ⟨q.1, q.2.1, q.2.2.1⟩
  · omega
theorem nnP_bad {F : Nat → Nat} {k3 ma a : Nat} {r : Int32} {lk : Int} (h : nnP F k3 ma r a lk) (h0 : ¬ lk = 0) : (rv F k3 ma).1 = -1 := by
  rcases h.2 with q | q
  · exact absurd q.2.2.2 h0
  · exact q.1
theorem ncP_l {F : Nat → Nat} {k3 ma a : Nat} {r : Int32} {lk l9 : Int} (h : ncP F k3 ma lk 4 r a l9) : a ≤ k3 ∧ (l9 = lk ∨ l9 = 1) := ⟨h.1, h.2.elim (fun q => Or.inl q.2.2.1) (fun q => Or.inr q.2.2)⟩
theorem ap_m1 {F : Nat → Nat} {k3 : Nat} {g1 : Nat → Int32} {k1 : Nat} (h : (rv F k3 0).1 = -1 ∨ (rv F k3 (rv F k3 0).2).1 = -1 ∨ k3 - (rv F k3 (rv F k3 0).2).2 < 8) : apRun F k3 g1 k1 = (-1, []) := by
  have hh : (hdF F k3 g1 k1 0 0).1 = -1 := by
    unfold hdF
    by_cases h1 : (rv F k3 0).1 = -1
    · rw [if_pos h1]
    · rw [if_neg h1, if_pos (by omega)]
  unfold apRun
  rw [if_pos (by rw [hh]; decide), hh]
theorem ap_bad1 {F : Nat → Nat} {k3 : Nat} {g1 : Nat → Int32} {k1 a1 : Nat} {r1 : Int32} {l1 : Int} (h1 : nnP F k3 0 r1 a1 l1) (h0 : ¬ l1 = 0) : apRun F k3 g1 k1 = (-1, []) := ap_m1 (Or.inl (nnP_bad h1 h0))
theorem ap_bad {F : Nat → Nat} {k3 : Nat} {g1 : Nat → Int32} {k1 a1 a2 a3 a4 : Nat} {r1 r2 r3 r4 : Int32} {l1 l2 l3 l4 : Int} (h1 : nnP F k3 0 r1 a1 l1) (h0 : l1 = 0) (h2 : nnP F k3 a1 r2 a2 l2) (h3 : ncP F k3 a2 l2 4 r3 a3 l3) (h4 : ncP F k3 a3 l3 4 r4 a4 l4) (hl : ¬ l4 = 0) : apRun F k3 g1 k1 = (-1, []) := by
  obtain ⟨e1, e2, e3⟩ := nnP_good h1 h0
  refine ap_m1 (Or.inr ?_)
  rw [← e3]
  by_cases q : l2 = 0
  · obtain ⟨f1, f2, f3⟩ := nnP_good h2 q
    rw [← f3]
    obtain ⟨-, ⟨g1, g2, g3, g4⟩ | ⟨g1, g2, g3⟩⟩ := h3
    · obtain ⟨-, ⟨i1, i2, i3, i4⟩ | ⟨i1, i2, i3⟩⟩ := h4
      · omega
      · omega
    · omega
  · exact Or.inl (nnP_bad h2 q)
theorem ap_good {F : Nat → Nat} {k3 : Nat} {a1 a2 a3 a4 : Nat} {r1 r2 r3 r4 : Int32} {l1 l2 l3 l4 : Int} (h1 : nnP F k3 0 r1 a1 l1) (h0 : l1 = 0) (h2 : nnP F k3 a1 r2 a2 l2) (h3 : ncP F k3 a2 l2 4 r3 a3 l3) (h4 : ncP F k3 a3 l3 4 r4 a4 l4) (hl : l4 = 0) :
    ¬ (rv F k3 0).1 = -1 ∧ r1 = iI (rv F k3 0).1 ∧ ¬ (rv F k3 (rv F k3 0).2).1 = -1 ∧ r2 = iI (rv F k3 (rv F k3 0).2).1 ∧ (rv F k3 (rv F k3 0).2).2 + 8 ≤ k3 ∧ r3 = rdW F (rv F k3 (rv F k3 0).2).2 4 ∧ r4 = rdW F ((rv F k3 (rv F k3 0).2).2 + 4) 4 ∧ a4 = (rv F k3 (rv F k3 0).2).2 + 8 := by
  obtain ⟨e1, e2, e3⟩ := nnP_good h1 h0
  obtain ⟨-, ⟨i1, i2, i3, i4⟩ | ⟨i1, i2, i3⟩⟩ := h4
  · obtain ⟨-, ⟨g1, g2, g3, g4⟩ | ⟨g1, g2, g3⟩⟩ := h3
    · obtain ⟨f1, f2, f3⟩ := nnP_good h2 (by omega)
      rw [e3] at f1 f2 f3
      rw [f3] at g2 g4
      rw [g2] at i4
      exact ⟨e1, e2, f1, f2, by omega, g4, i4, by omega⟩
    · omega
  · omega
theorem ap_h {F : Nat → Nat} {k3 : Nat} {g1 : Nat → Int32} {k1 a : Nat} {t d : Int} {c : Int32} (hH : hdF F k3 g1 k1 0 0 = (t, a, d, c)) (ht : ¬ t = 0) : apRun F k3 g1 k1 = (t, []) := by
  unfold apRun
  rw [hH]
  exact if_pos ht
theorem ap_al {F : Nat → Nat} {k3 : Nat} {g1 : Nat → Int32} {k1 a : Nat} {d : Int} {c : Int32} {x : ApR} (hH : hdF F k3 g1 k1 0 0 = (0, a, d, c)) (hA : alF F k3 g1 k1 d 900 a 0 [] = x) (hx : ¬ x.1 = 0) : apRun F k3 g1 k1 = (x.1, []) := by
  unfold apRun
  rw [hH]
  dsimp only
  rw [if_neg (by decide), hA, if_pos hx]
theorem ap_jd {F : Nat → Nat} {k3 : Nat} {g1 : Nat → Int32} {k1 a a' b' : Nat} {d t : Int} {c : Int32} {T : List Int32} (hH : hdF F k3 g1 k1 0 0 = (0, a, d, c)) (hA : alF F k3 g1 k1 d 900 a 0 [] = (0, a', b', T)) (hj : jdF d c T = t) (ht : ¬ t = 0) : apRun F k3 g1 k1 = (t, []) := by
  unfold apRun
  rw [hH]
  dsimp only
  rw [if_neg (by decide), hA]
  dsimp only
  rw [if_neg (by decide), hj, if_pos ht]
theorem ap_ok {F : Nat → Nat} {k3 : Nat} {g1 : Nat → Int32} {k1 a a' b' : Nat} {d : Int} {c : Int32} {T : List Int32} (hH : hdF F k3 g1 k1 0 0 = (0, a, d, c)) (hA : alF F k3 g1 k1 d 900 a 0 [] = (0, a', b', T)) (hj : jdF d c T = 0) : apRun F k3 g1 k1 = ((T.length : Int), T) := by
  unfold apRun
  rw [hH]
  dsimp only
  rw [if_neg (by decide), hA]
  dsimp only
  rw [if_neg (by decide), hj, if_neg (by decide)]
theorem ap_nx {F : Nat → Nat} {k3 : Nat} {g1 : Nat → Int32} {k1 a t a9 b9 : Nat} {d z : Int} {c : Int32} {T9 : List Int32} (hH : hdF F k3 g1 k1 0 0 = (0, a, d, c)) (hR : alF F k3 g1 k1 d (900 - t) a9 b9 T9 = alF F k3 g1 k1 d 900 a 0 []) (ht : t < 900) (ha : a9 < k3) (hN : (nxF F k3 g1 k1 d a9 b9 T9).1 = z) (hz : ¬ z = 0) : apRun F k3 g1 k1 = (z, []) := by
  have h1 : alF F k3 g1 k1 d 900 a 0 [] = nxF F k3 g1 k1 d a9 b9 T9 := by
    rw [← hR]
    exact alF_no ht ha (by rw [hN]; exact hz)
  have := ap_al hH h1 (by rw [hN]; exact hz)
  rw [hN] at this
  exact this
theorem al_go {F : Nat → Nat} {k3 : Nat} {g1 : Nat → Int32} {k1 t a9 b9 a' b' : Nat} {d : Int} {T9 T' : List Int32} {x : ApR} (hR : alF F k3 g1 k1 d (900 - t) a9 b9 T9 = x) (ht : t < 900) (ha : a9 < k3) (hN : nxF F k3 g1 k1 d a9 b9 T9 = (0, a', b', T')) : alF F k3 g1 k1 d (900 - (t + 1)) a' b' T' = x := by
  have h := alF_go (F := F) (f1 := g1) (n1 := k1) (ds := d) (bh := b9) (T := T9) ht ha (by rw [hN])
  rw [hN] at h
  rw [← hR, h]
theorem rvF_adv {F : Nat → Nat} {n : Nat} : ∀ (t k acc a : Nat), ¬ (rvF F n t k acc a).1 = -1 → a < (rvF F n t k acc a).2 := by
  intro t
  induction t with
  | zero => intro k acc a h; exact absurd rfl h
  | succ t ih =>
    intro k acc a h
    unfold rvF at h ⊢
    split
    next q =>
      rw [if_pos q] at h
      split
      · exact Nat.lt_succ_self _
      next q2 =>
        rw [if_neg q2] at h
        have := ih _ _ _ h
        omega
    next q =>
      rw [if_neg q] at h
      exact absurd rfl h
theorem apT {f g : Nat → Int32} {T : List Int32} {st j : Nat} : upd (apL f 0 (T ++ sl g st j)) (T.length + j) (g (st + j)) = apL f 0 (T ++ sl g st (j + 1)) := by
  rw [apL_up (by rw [List.length_append, sl_len]; omega), sl_succ, List.append_assoc]
