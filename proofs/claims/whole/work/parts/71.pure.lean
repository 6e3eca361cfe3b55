theorem cpy_in {f g : Nat → Int32} {sp dp n : Int} {j : Nat} (h0 : 0 ≤ dp ∧ 0 ≤ n) (h : dp ≤ (j : Int) ∧ (j : Int) < dp + n) : va_cpy f g sp.toNat dp.toNat n.toNat j = f (sp.toNat + (j - dp.toNat)) := by
  unfold va_cpy
  rw [if_pos (by omega)]
theorem cpy_out {f g : Nat → Int32} {sp dp n : Int} {j : Nat} (h0 : 0 ≤ dp ∧ 0 ≤ n) (h : ¬ (dp ≤ (j : Int) ∧ (j : Int) < dp + n)) : va_cpy f g sp.toNat dp.toNat n.toNat j = g j := by
  unfold va_cpy
  rw [if_neg (by omega)]
theorem rel_as {P L S : Nat → Int} {cnt nb ng k : Nat} (hW : LW P L S cnt nb ng) {x : PlS} {y : PlM} (hR : RelP P L S cnt nb x y) (hk : k < cnt) (h1 : ¬ S k = -1) (h2 : y.2.1 k = -1) (h3 : y.1 k = 0) : RelP P L S cnt nb (asF P L S cnt k x) (asM P L S k y) ∧ nz (asM P L S k y).1 cnt + (asM P L S k y).2.2.1 = nz y.1 cnt + y.2.2.1 + 1 := by
  obtain ⟨A, T, B, d, m, h, w⟩ := x
  obtain ⟨A', T', d', m', h', w'⟩ := y
  obtain ⟨r1, r2, r3, r4, r5, r6, r7, r8, r9⟩ := hR
  dsimp only at r1 r2 r3 r4 r5 r6 r7 r8 r9 h2 h3
  have hw := hW.1 k hk
  refine ⟨⟨?_, r2, ?_, ?_, r5, ?_, r7, r8, ?_⟩, ?_⟩
  · intro i hi
    refine ⟨?_, (r1 i hi).2⟩
    show uZ A k 1 i = uZ A' k 1 i
    unfold uZ
    rw [(r1 i hi).1]
  · show w + _ = w' + _
    rw [r3]
  · intro i hi
    show (uZ A' k 1 i = 0 ∨ uZ A' k 1 i = 1) ∧ (¬ uZ A' k 1 i = 0 → ¬ S i = -1)
    by_cases e : i = k
    · subst e
      rw [uZ_s]
      exact ⟨Or.inr rfl, fun _ => h1⟩
    · rw [uZ_n e]
      exact r4 i hi
  · intro i hi
    show chB P L S k (-1) cnt B i = (cB P L S (uZ A' k 1) T' i cnt : Int)
    have e := cB_k (P := P) (L := L) (S := S) (A := A') (T := T') (A' := uZ A' k 1) (T' := T') (i := i) (k := k) ⟨h1, h2, h3⟩ (fun q => by rw [uZ_s] at q; exact absurd q.2 (by decide)) (fun q hq => ⟨rfl, uZ_n hq⟩) cnt
    have b := r6 i hi
    unfold chB
    by_cases c : i ≠ k ∧ (P i < S k + L k ∧ S k < P i + L i)
    · rw [if_pos ⟨hk, c⟩] at e
      rw [if_pos ⟨hi, c⟩]
      omega
    · rw [if_neg (fun q => c q.2)] at e
      rw [if_neg (fun q => c q.2)]
      omega
  · intro i hi hA j hj1 hj2
    show va_cpy m h (S k).toNat (P k).toNat (L k).toNat j = va_cpy m' h' (S k).toNat (P k).toNat (L k).toNat j
    by_cases c : P k ≤ (j : Int) ∧ (j : Int) < P k + L k
    · rw [cpy_in (by omega) c, cpy_in (by omega) c]
      exact r7 _ (by omega)
    · rw [cpy_out (by omega) c, cpy_out (by omega) c]
      have e : i ≠ k := fun e => c (by subst e; exact ⟨hj1, hj2⟩)
      have hA' : ¬ uZ A' k 1 i = 0 := hA
      rw [uZ_n e] at hA'
      exact r9 i hi hA' j hj1 hj2
  · show nz (uZ A' k 1) cnt + d' = nz A' cnt + d' + 1
    rw [nz_up h3 cnt, if_pos hk]
    omega
theorem rel_cy {P L S : Nat → Int} {cnt nb ng k : Nat} {fg : Nat → Int32} (hW : LW P L S cnt nb ng) {x : PlS} {y : PlM} (hR : RelP P L S cnt nb x y) (hk : k < cnt) (h2 : y.2.1 k = -1) : RelP P L S cnt nb (cyF P L S cnt fg k x) (cyM P L S fg k y) ∧ nz (cyM P L S fg k y).1 cnt + (cyM P L S fg k y).2.2.1 = nz y.1 cnt + y.2.2.1 + 1 := by
  obtain ⟨A, T, B, d, m, h, w⟩ := x
  obtain ⟨A', T', d', m', h', w'⟩ := y
  obtain ⟨r1, r2, r3, r4, r5, r6, r7, r8, r9⟩ := hR
  dsimp only at r1 r2 r3 r4 r5 r6 r7 r8 r9 h2
  subst r2
  have hw := hW.1 k hk
  have ak := (r1 k hk).1
  have tk := (r1 k hk).2
  have a01 := r4 k hk
  have hin : ∀ j : Nat, P k ≤ (j : Int) → (j : Int) < P k + L k → cyH P L S fg k A T m h j = wrH P L S A' fg k m' h' j := by
    intro j hj1 hj2
    unfold cyH wrH
    by_cases c : A' k = 0
    · by_cases c2 : S k = -1
      · rw [if_neg (by omega), if_pos c2, if_pos c, if_pos c2, cpy_in (by omega) ⟨hj1, hj2⟩, cpy_in (by omega) ⟨hj1, hj2⟩]
      · rw [if_pos ⟨c2, by omega, by omega⟩, if_pos c, if_neg c2, cpy_in (by omega) ⟨hj1, hj2⟩, cpy_in (by omega) ⟨hj1, hj2⟩]
        exact r7 _ (by omega)
    · rw [if_neg (by omega), if_neg (a01.2 c), if_neg c]
      exact r9 k hk c j hj1 hj2
  have hout : ∀ j : Nat, ¬ (P k ≤ (j : Int) ∧ (j : Int) < P k + L k) → cyH P L S fg k A T m h j = h j ∧ wrH P L S A' fg k m' h' j = h' j := by
    intro j c
    constructor
    · unfold cyH
      split
      · exact cpy_out (by omega) c
      · split
        · exact cpy_out (by omega) c
        · rfl
    · unfold wrH
      split
      · split
        · exact cpy_out (by omega) c
        · exact cpy_out (by omega) c
      · rfl
  have hmem : ∀ j : Nat, (m j = m' j ∨ (P k ≤ (j : Int) ∧ (j : Int) < P k + L k)) → va_cpy (cyH P L S fg k A T m h) m (P k).toNat (P k).toNat (L k).toNat j = va_cpy (wrH P L S A' fg k m' h') m' (P k).toNat (P k).toNat (L k).toNat j := by
    intro j hj
    by_cases c : P k ≤ (j : Int) ∧ (j : Int) < P k + L k
    · rw [cpy_in (by omega) c, cpy_in (by omega) c, show (P k).toNat + (j - (P k).toNat) = j by omega]
      exact hin j c.1 c.2
    · rw [cpy_out (by omega) c, cpy_out (by omega) c]
      rcases hj with q | q
      · exact q
      · exact absurd q c
  have hnl := nl_up (T := T') (k := k) (v := ((d : Nat) : Int)) h2 (by omega) cnt
  rw [if_pos hk] at hnl
  refine ⟨⟨?_, rfl, r3, r4, ?_, ?_, ?_, ?_, ?_⟩, ?_⟩
  · intro i hi
    refine ⟨(r1 i hi).1, ?_⟩
    show uZ T k ((d : Nat) : Int) i = uZ T' k ((d : Nat) : Int) i
    unfold uZ
    rw [(r1 i hi).2]
  · show nl (uZ T' k ((d : Nat) : Int)) cnt = d + 1
    omega
  · intro i hi
    show cyB P L S cnt k A T B i = (cB P L S A' (uZ T' k ((d : Nat) : Int)) i cnt : Int)
    have b := r6 i hi
    unfold cyB
    by_cases c0 : ¬ S k = -1 ∧ T k = -1 ∧ A k = 0
    · rw [if_pos c0]
      have e := cB_k (P := P) (L := L) (S := S) (A := A') (T := T') (A' := A') (T' := uZ T' k ((d : Nat) : Int)) (i := i) (k := k) ⟨c0.1, h2, by omega⟩ (fun q => by rw [uZ_s] at q; omega) (fun q hq => ⟨uZ_n hq, rfl⟩) cnt
      unfold chB
      by_cases c : i ≠ k ∧ (P i < S k + L k ∧ S k < P i + L i)
      · rw [if_pos ⟨hk, c⟩] at e
        rw [if_pos ⟨hi, c⟩]
        omega
      · rw [if_neg (fun q => c q.2)] at e
        rw [if_neg (fun q => c q.2)]
        omega
    · rw [if_neg c0, b, cB_same (A := A') (T := T') (A' := A') (T' := uZ T' k ((d : Nat) : Int)) cnt]
      intro q hq
      by_cases e : q = k
      · subst e
        rw [uZ_s]
        constructor
        · intro g
          exact absurd ⟨g.1, by omega, by omega⟩ c0
        · intro g
          omega
      · rw [uZ_n e]
  · intro j hj
    exact hmem j (Or.inl (r7 j hj))
  · intro i hi hT j hj1 hj2
    by_cases e : i = k
    · subst e
      exact hmem j (Or.inr ⟨hj1, hj2⟩)
    · have hT' : ¬ uZ T' k ((d : Nat) : Int) i = -1 := hT
      rw [uZ_n e] at hT'
      exact hmem j (Or.inl (r8 i hi hT' j hj1 hj2))
  · intro i hi hA j hj1 hj2
    show cyH P L S fg k A T m h j = wrH P L S A' fg k m' h' j
    by_cases c : P k ≤ (j : Int) ∧ (j : Int) < P k + L k
    · exact hin j c.1 c.2
    · rw [(hout j c).1, (hout j c).2]
      exact r9 i hi hA j hj1 hj2
  · show nz A' cnt + (d + 1) = nz A' cnt + d + 1
    omega
theorem rel_step {P L S : Nat → Int} {cnt nb ng : Nat} {fg : Nat → Int32} (hW : LW P L S cnt nb ng) {x : PlS} {y : PlM} (hR : RelP P L S cnt nb x y) (hd : y.2.2.1 < cnt) : RelP P L S cnt nb (stF P L S cnt fg x) (stM P L S cnt fg y) ∧ nz (stM P L S cnt fg y).1 cnt + (stM P L S cnt fg y).2.2.1 = nz y.1 cnt + y.2.2.1 + 1 := by
  have h01 : ∀ i, i < cnt → y.1 i = 0 ∨ y.1 i = 1 := fun i hi => (hR.2.2.2.1 i hi).1
  have hnf : nfF x.2.1 x.2.2.1 cnt 0 = nfG (fun k => frB P L S y.1 y.2.1 k cnt) y.2.1 cnt 0 := by
    refine nf_eq (cnt := cnt) (fun i hi => ?_) cnt 0 (Nat.zero_add _)
    rw [(hR.1 i hi).2, hR.2.2.2.2.2.1 i hi]
    exact and_congr_right (fun _ => free_iff h01)
  have hfe : fbF L S x.1 x.2.1 cnt = fbF L S y.1 y.2.1 cnt := fb_eq cnt hR.1
  unfold stF stM
  rw [hnf, hfe]
  by_cases c : nfG (fun k => frB P L S y.1 y.2.1 k cnt) y.2.1 cnt 0 = -1
  · have hfb := some_left (P := P) (L := L) (S := S) h01 (by rw [hR.2.2.2.2.1]; exact hd) c
    have hr := fbF_rng (L := L) (S := S) (A := y.1) (T := y.2.1) cnt
    obtain ⟨f1, f2, f3⟩ := fbF_at cnt hfb
    rw [if_pos c, if_neg hfb, if_pos c]
    exact rel_as hW hR (by omega) f1 f2 f3
  · have hr := nfG_rng (ok := fun k => frB P L S y.1 y.2.1 k cnt) (T := y.2.1) cnt 0
    have ha := nfG_at (ok := fun k => frB P L S y.1 y.2.1 k cnt) (T := y.2.1) cnt 0 c
    rw [if_neg c, if_neg c]
    exact rel_cy hW hR (by omega) ha.1
theorem rel_run {P L S : Nat → Int} {cnt nb ng : Nat} {fg : Nat → Int32} (hW : LW P L S cnt nb ng) : ∀ (t : Nat) (x : PlS) (y : PlM), RelP P L S cnt nb x y → 2 * cnt ≤ nz y.1 cnt + y.2.2.1 + t → RelP P L S cnt nb (rnF P L S cnt fg t x) (rnM P L S cnt fg t y) ∧ (rnM P L S cnt fg t y).2.2.1 = cnt := by
  intro t
  induction t with
  | zero =>
    intro x y hR ht
    have a := nz_le y.1 cnt
    have b := nl_le y.2.1 cnt
    have c := hR.2.2.2.2.1
    refine ⟨hR, ?_⟩
    show y.2.2.1 = cnt
    omega
  | succ t ih =>
    intro x y hR ht
    have b := nl_le y.2.1 cnt
    have c := hR.2.2.2.2.1
    unfold rnF rnM
    rw [hR.2.1]
    by_cases hd : y.2.2.1 < cnt
    · rw [if_pos hd, if_pos hd]
      obtain ⟨h1, h2⟩ := rel_step (fg := fg) hW hR hd
      exact ih _ _ h1 (by omega)
    · rw [if_neg hd, if_neg hd]
      exact ⟨hR, by omega⟩
theorem rn_01 {P L S : Nat → Int} {cnt : Nat} {fg : Nat → Int32} : ∀ (t : Nat) (x : PlS), (∀ i, i < 300 → x.1 i = 0 ∨ x.1 i = 1) → ∀ i, i < 300 → (rnF P L S cnt fg t x).1 i = 0 ∨ (rnF P L S cnt fg t x).1 i = 1 := by
  intro t
  induction t with
  | zero => intro x h; exact h
  | succ t ih =>
    intro x h
    unfold rnF
    split
    · refine ih _ ?_
      unfold stF
      split
      · split
        · exact h
        · intro i hi
          exact uZ_01 (h i hi)
      · exact h
    · exact h
/-- in place on both sides: the bytes aside, the order, the memory -/
theorem ip_eq {P L S : Nat → Int} {cnt nb ng : Nat} {fg fb fm fh g5 g6 : Nat → Int32} {A0 T0 B0 Q4 Q5 : Nat → Int} (hW : LW P L S cnt nb ng) (hnb : nb ≤ 300) (hng : ng ≤ 300) {A9 T9 B9 : Nat → Int} {d9 w9 : Nat} {m9 h9 : Nat → Int32} {A8 T8 : Nat → Int} {d8 w8 : Nat} {m8 h8 : Nat → Int32}
    (hx : ((A9, T9, B9, d9, m9, h9, w9) : PlS) = rnF P L S cnt fg 600 (pfx 300 0 A0, pfx 300 (-1) T0, cbF P L S cnt (pfx 300 0 B0) cnt, 0, apL fm 0 (sl fb 0 nb), fh, 0)) (hy : ((A8, T8, d8, m8, h8, w8) : PlM) = rnM P L S cnt fg 600 (pfx cnt 0 Q4, pfx cnt (-1) Q5, 0, miF fb nb g5 300, g6, 0)) :
    w9 = w8 ∧ (∀ i, i < cnt → A9 i = A8 i ∧ T9 i = T8 i) ∧ rl m9 ng = rl m8 ng ∧ (∀ i, i < 300 → A9 i = 0 ∨ A9 i = 1) ∧ (∀ i, i < cnt → A8 i = 0 ∨ A8 i = 1) := by
  have hc := hW.2.2.2.2
  have z1 : nz (pfx cnt 0 Q4) cnt = 0 := nz_0 (fun i hi => by simp [pfx, hi])
  have z2 : nl (pfx cnt (-1) Q5) cnt = 0 := nl_0 (fun i hi => by simp [pfx, hi])
  have hR0 : RelP P L S cnt nb (pfx 300 0 A0, pfx 300 (-1) T0, cbF P L S cnt (pfx 300 0 B0) cnt, 0, apL fm 0 (sl fb 0 nb), fh, 0) (pfx cnt 0 Q4, pfx cnt (-1) Q5, 0, miF fb nb g5 300, g6, 0) := by
    refine ⟨?_, rfl, rfl, ?_, z2, ?_, ?_, ?_, ?_⟩
    · intro i hi
      have h3 : i < 300 := by omega
      exact ⟨by simp [pfx, hi, h3], by simp [pfx, hi, h3]⟩
    · intro i hi
      have e : pfx cnt 0 Q4 i = 0 := by simp [pfx, hi]
      exact ⟨Or.inl e, fun q => absurd e q⟩
    · intro i hi
      exact cbF_cB hi (by simp [pfx, show i < 300 by omega]) (fun q hq => ⟨by simp [pfx, hq], by simp [pfx, hq]⟩) cnt (Nat.le_refl _)
    · intro j hj
      show apL fm 0 (sl fb 0 nb) j = miF fb nb g5 300 j
      rw [ap_in hj]
      unfold miF
      rw [if_pos (by omega), if_pos hj]
    · intro i hi hT
      exact absurd (show pfx cnt (-1) Q5 i = -1 by simp [pfx, hi]) hT
    · intro i hi hA
      exact absurd (show pfx cnt 0 Q4 i = 0 by simp [pfx, hi]) hA
  obtain ⟨h1, h2⟩ := rel_run (fg := fg) hW 600 _ _ hR0 (by dsimp only; omega)
  have h01 := rn_01 (P := P) (L := L) (S := S) (cnt := cnt) (fg := fg) 600 (pfx 300 0 A0, pfx 300 (-1) T0, cbF P L S cnt (pfx 300 0 B0) cnt, 0, apL fm 0 (sl fb 0 nb), fh, 0) (fun i hi => Or.inl (by simp [pfx, hi]))
  rw [← hx] at h1 h01
  rw [← hy] at h1 h2
  obtain ⟨r1, r2, r3, r4, r5, r6, r7, r8, r9⟩ := h1
  dsimp only at r1 r2 r3 r4 r5 r6 r7 r8 r9 h2 h01
  refine ⟨r3, r1, rl_of (fun j hj => ?_), h01, fun i hi => (r4 i hi).1⟩
  obtain ⟨i, hi, hj1, hj2⟩ := LW_cover hW hj
  refine r8 i hi (fun hT => ?_) j hj1 hj2
  have hall : ∀ n, nl T8 n = n → ∀ q, q < n → ¬ T8 q = -1 := by
    intro n
    induction n with
    | zero => intro _ q hq; omega
    | succ n ih =>
      intro hn q hq
      have a := nl_le T8 n
      unfold nl at hn
      split at hn
      · omega
      next e =>
        rcases Nat.lt_or_ge q n with g | g
        · exact ih (by omega) q g
        · obtain rfl : q = n := by omega
          exact e
  exact hall cnt (by omega) i hi hT
