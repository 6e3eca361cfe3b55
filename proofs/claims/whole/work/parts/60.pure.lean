theorem apRun_w (F : Nat → Nat) (n3 : Nat) (f1 : Nat → Int32) (n1 : Nat) : (-8 ≤ (apRun F n3 f1 n1).1 ∧ (apRun F n3 f1 n1).1 ≤ 300) ∧ ((apRun F n3 f1 n1).1 < 0 → (apRun F n3 f1 n1).2 = []) := by
  have h1 := hdF_w (F := F) (n3 := n3) (f1 := f1) (n1 := n1) (ds := 0) (dc := 0)
  by_cases a1 : (hdF F n3 f1 n1 0 0).1 = 0
  · have h2 := h1.2 a1
    have h3 := alF_w (F := F) (n3 := n3) (f1 := f1) (n1 := n1) (ds := (hdF F n3 f1 n1 0 0).2.2.1) 900 (hdF F n3 f1 n1 0 0).2.1 0 [] h2.1 (Nat.zero_le _) (by simpa using h2.2.1)
    have h4 := jdF_w (hdF F n3 f1 n1 0 0).2.2.1 (hdF F n3 f1 n1 0 0).2.2.2 (alF F n3 f1 n1 (hdF F n3 f1 n1 0 0).2.2.1 900 (hdF F n3 f1 n1 0 0).2.1 0 []).2.2.2
    have h5 := h3.1
    have h6 := h3.2.2.2
    unfold apRun
    rw [if_neg (fun h => h a1)]
    split
    · exact ⟨by dsimp only; omega, fun _ => rfl⟩
    · split
      · exact ⟨by dsimp only; omega, fun _ => rfl⟩
      · refine ⟨by dsimp only; omega, fun h => ?_⟩
        dsimp only at h
        omega
  · unfold apRun
    rw [if_pos a1]
    exact ⟨by dsimp only; omega, fun _ => rfl⟩
/-! in place, as the reference does it -/
def okB (P L S A T : Nat → Int) (k j : Nat) : Bool := decide (j = k ∨ ¬ T j = -1 ∨ S j = -1 ∨ A j = 1 ∨ ¬ (P k < S j + L j ∧ S j < P k + L k))
def frB (P L S A T : Nat → Int) (k : Nat) : Nat → Bool
  | 0 => true
  | i + 1 => frB P L S A T k i && okB P L S A T k i
theorem frB_y {P L S A T : Nat → Int} {k i : Nat} (h : frB P L S A T k i = true) (h2 : i = k ∨ ¬ T i = -1 ∨ S i = -1 ∨ A i = 1 ∨ ¬ (P k < S i + L i ∧ S i < P k + L k)) : frB P L S A T k (i + 1) = true := by
  rw [frB, h]
  exact decide_eq_true h2
theorem frB_n {P L S A T : Nat → Int} {k i : Nat} (h2 : ¬ (i = k ∨ ¬ T i = -1 ∨ S i = -1 ∨ A i = 1 ∨ ¬ (P k < S i + L i ∧ S i < P k + L k))) : ¬ frB P L S A T k (i + 1) = true := by
  rw [frB, okB, decide_eq_false h2, Bool.and_false]
  decide
theorem frB_mono {P L S A T : Nat → Int} {k i : Nat} (h : ¬ frB P L S A T k i = true) : ∀ n, i ≤ n → ¬ frB P L S A T k n = true := by
  intro n
  induction n with
  | zero => intro h1; obtain rfl : i = 0 := by omega
            exact h
  | succ n ih =>
    intro h1 h2
    rcases Nat.lt_or_ge n i with q | q
    · obtain rfl : i = n + 1 := by omega
      exact h h2
    · rw [frB, Bool.and_eq_true] at h2
      exact ih q h2.1
theorem frB_all {P L S A T : Nat → Int} {k : Nat} : ∀ n, frB P L S A T k n = true ↔ ∀ j, j < n → (j = k ∨ ¬ T j = -1 ∨ S j = -1 ∨ A j = 1 ∨ ¬ (P k < S j + L j ∧ S j < P k + L k)) := by
  intro n
  induction n with
  | zero => exact ⟨fun _ j h => absurd h (Nat.not_lt_zero _), fun _ => rfl⟩
  | succ n ih =>
    rw [frB, Bool.and_eq_true, ih]
    constructor
    · intro h j hj
      rcases Nat.lt_or_ge j n with q | q
      · exact h.1 j q
      · obtain rfl : j = n := by omega
        exact of_decide_eq_true h.2
    · intro h
      exact ⟨fun j hj => h j (by omega), decide_eq_true (h n (by omega))⟩
def nfG (ok : Nat → Bool) (T : Nat → Int) : Nat → Nat → Int
  | 0, _ => -1
  | n + 1, i => if T i = -1 ∧ ok i = true then ((i : Nat) : Int) else nfG ok T n (i + 1)
theorem nfG_y {ok : Nat → Bool} {T : Nat → Int} {cnt i : Nat} (hi : i < cnt) (h : T i = -1 ∧ ok i = true) : nfG ok T (cnt - i) i = ((i : Nat) : Int) := by
  rw [show cnt - i = (cnt - (i + 1)) + 1 by omega, nfG, if_pos h]
theorem nfG_n {ok : Nat → Bool} {T : Nat → Int} {cnt i : Nat} (hi : i < cnt) (h : ¬ (T i = -1 ∧ ok i = true)) : nfG ok T (cnt - i) i = nfG ok T (cnt - (i + 1)) (i + 1) := by
  rw [show cnt - i = (cnt - (i + 1)) + 1 by omega, nfG, if_neg h]
theorem nfG_rng {ok : Nat → Bool} {T : Nat → Int} : ∀ (n i : Nat), -1 ≤ nfG ok T n i ∧ nfG ok T n i < (i + n : Nat) := by
  intro n
  induction n with
  | zero => intro i; simp only [nfG]; omega
  | succ n ih =>
    intro i
    unfold nfG
    split
    · omega
    · have := ih (i + 1)
      omega
theorem nfG_at {ok : Nat → Bool} {T : Nat → Int} : ∀ (n i : Nat), ¬ nfG ok T n i = -1 → T (nfG ok T n i).toNat = -1 ∧ ok (nfG ok T n i).toNat = true := by
  intro n
  induction n with
  | zero => intro i h; exact absurd rfl h
  | succ n ih =>
    intro i
    unfold nfG
    split
    next q => intro _; exact q
    next q => exact ih (i + 1)
theorem nfG_no {ok : Nat → Bool} {T : Nat → Int} : ∀ (n i : Nat), nfG ok T n i = -1 → ∀ j, i ≤ j → j < i + n → ¬ (T j = -1 ∧ ok j = true) := by
  intro n
  induction n with
  | zero => intro i _ j h1 h2; omega
  | succ n ih =>
    intro i h j h1 h2
    unfold nfG at h
    split at h
    · omega
    next q =>
      rcases Nat.lt_or_ge i j with c | c
      · exact ih (i + 1) h j (by omega) (by omega)
      · obtain rfl : j = i := by omega
        exact q
theorem fbF_no {L S A T : Nat → Int} : ∀ k : Nat, fbF L S A T k = -1 → ∀ j, j < k → ¬ (¬ S j = -1 ∧ T j = -1 ∧ A j = 0) := by
  intro k
  induction k with
  | zero => intro _ j h; omega
  | succ k ih =>
    intro h j hj hc
    unfold fbF at h
    split at h
    · omega
    next q =>
      rcases Nat.lt_or_ge j k with c | c
      · exact ih h j c hc
      · obtain rfl : j = k := by omega
        exact q ⟨hc, Or.inl h⟩
theorem fbF_at {L S A T : Nat → Int} : ∀ k : Nat, ¬ fbF L S A T k = -1 → ¬ S (fbF L S A T k).toNat = -1 ∧ T (fbF L S A T k).toNat = -1 ∧ A (fbF L S A T k).toNat = 0 := by
  intro k
  induction k with
  | zero => intro h; exact absurd rfl h
  | succ k ih =>
    unfold fbF
    split
    next q => intro _; exact q.1
    next q => exact ih
/-- how many are done, how many aside -/
def nl (T : Nat → Int) : Nat → Nat
  | 0 => 0
  | k + 1 => nl T k + (if T k = -1 then 0 else 1)
def nz (A : Nat → Int) : Nat → Nat
  | 0 => 0
  | k + 1 => nz A k + (if A k = 0 then 0 else 1)
theorem nl_le (T : Nat → Int) : ∀ n, nl T n ≤ n := by
  intro n
  induction n with
  | zero => exact Nat.le_refl _
  | succ n ih => unfold nl; split <;> omega
theorem nz_le (A : Nat → Int) : ∀ n, nz A n ≤ n := by
  intro n
  induction n with
  | zero => exact Nat.le_refl _
  | succ n ih => unfold nz; split <;> omega
theorem nl_left {T : Nat → Int} : ∀ n, nl T n < n → ∃ k, k < n ∧ T k = -1 := by
  intro n
  induction n with
  | zero => intro h; omega
  | succ n ih =>
    intro h
    by_cases q : T n = -1
    · exact ⟨n, Nat.lt_succ_self _, q⟩
    · unfold nl at h
      rw [if_neg q] at h
      obtain ⟨k, h1, h2⟩ := ih (by omega)
      exact ⟨k, by omega, h2⟩
theorem nl_up {T : Nat → Int} {k : Nat} {v : Int} (h : T k = -1) (hv : ¬ v = -1) : ∀ n, nl (uZ T k v) n = nl T n + (if k < n then 1 else 0) := by
  intro n
  induction n with
  | zero => simp [nl]
  | succ n ih =>
    unfold nl
    rw [ih]
    by_cases e : n = k
    · subst e
      rw [uZ_s, if_neg hv, if_pos h, if_neg (Nat.lt_irrefl _), if_pos (Nat.lt_succ_self _)]
    · rw [uZ_n e]
      by_cases q : k < n
      · rw [if_pos q, if_pos (show k < n + 1 by omega)]
        omega
      · rw [if_neg q, if_neg (show ¬ k < n + 1 by omega)]
        omega
theorem nz_up {A : Nat → Int} {k : Nat} (h : A k = 0) : ∀ n, nz (uZ A k 1) n = nz A n + (if k < n then 1 else 0) := by
  intro n
  induction n with
  | zero => simp [nz]
  | succ n ih =>
    unfold nz
    rw [ih]
    by_cases e : n = k
    · subst e
      rw [uZ_s, if_neg (show ¬ (1 : Int) = 0 by decide), if_pos h, if_neg (Nat.lt_irrefl _), if_pos (Nat.lt_succ_self _)]
    · rw [uZ_n e]
      by_cases q : k < n
      · rw [if_pos q, if_pos (show k < n + 1 by omega)]
        omega
      · rw [if_neg q, if_neg (show ¬ k < n + 1 by omega)]
        omega
/-- if none is free, a copy is left that isn't put aside -/
theorem some_left {P L S A T : Nat → Int} {cnt : Nat} (hA : ∀ i, i < cnt → A i = 0 ∨ A i = 1) (hd : nl T cnt < cnt) (h : nfG (fun k => frB P L S A T k cnt) T cnt 0 = -1) : ¬ fbF L S A T cnt = -1 := by
  intro hf
  obtain ⟨k, h1, h2⟩ := nl_left cnt hd
  refine nfG_no cnt 0 h k (Nat.zero_le _) (by omega) ⟨h2, (frB_all cnt).mpr (fun j hj => ?_)⟩
  have := fbF_no cnt hf j hj
  have := hA j hj
  omega
abbrev PlM : Type := (Nat → Int) × (Nat → Int) × Nat × (Nat → Int32) × (Nat → Int32) × Nat
/-- aside, order, done, memory, kept bytes, bytes aside -/
def wrH (P L S A : Nat → Int) (fg : Nat → Int32) (k : Nat) (fm fh : Nat → Int32) : Nat → Int32 :=
  if A k = 0 then (if S k = -1 then va_cpy fg fh (P k).toNat (P k).toNat (L k).toNat else va_cpy fm fh (S k).toNat (P k).toNat (L k).toNat) else fh
def cyM (P L S : Nat → Int) (fg : Nat → Int32) (k : Nat) (x : PlM) : PlM :=
  (x.1, uZ x.2.1 k ((x.2.2.1 : Nat) : Int), x.2.2.1 + 1, va_cpy (wrH P L S x.1 fg k x.2.2.2.1 x.2.2.2.2.1) x.2.2.2.1 (P k).toNat (P k).toNat (L k).toNat, wrH P L S x.1 fg k x.2.2.2.1 x.2.2.2.2.1, x.2.2.2.2.2)
def asM (P L S : Nat → Int) (k : Nat) (x : PlM) : PlM :=
  (uZ x.1 k 1, x.2.1, x.2.2.1, x.2.2.2.1, va_cpy x.2.2.2.1 x.2.2.2.2.1 (S k).toNat (P k).toNat (L k).toNat, x.2.2.2.2.2 + (L k).toNat)
def stM (P L S : Nat → Int) (cnt : Nat) (fg : Nat → Int32) (x : PlM) : PlM :=
  if nfG (fun k => frB P L S x.1 x.2.1 k cnt) x.2.1 cnt 0 = -1 then asM P L S (fbF L S x.1 x.2.1 cnt).toNat x else cyM P L S fg (nfG (fun k => frB P L S x.1 x.2.1 k cnt) x.2.1 cnt 0).toNat x
def rnM (P L S : Nat → Int) (cnt : Nat) (fg : Nat → Int32) : Nat → PlM → PlM
  | 0, x => x
  | t + 1, x => if x.2.2.1 < cnt then rnM P L S cnt fg t (stM P L S cnt fg x) else x
theorem rnM_s {P L S : Nat → Int} {cnt t : Nat} {fg : Nat → Int32} {x : PlM} (ht : t < 600) (h : x.2.2.1 < cnt) : rnM P L S cnt fg (600 - t) x = rnM P L S cnt fg (600 - (t + 1)) (stM P L S cnt fg x) := by
  rw [show 600 - t = (600 - (t + 1)) + 1 by omega, rnM, if_pos h]
theorem rnM_e {P L S : Nat → Int} {cnt t : Nat} {fg : Nat → Int32} {x : PlM} (h : t = 0 ∨ ¬ x.2.2.1 < cnt) : rnM P L S cnt fg t x = x := by
  cases t with
  | zero => rfl
  | succ t => rw [rnM, if_neg (by omega)]
def miF (g7 : Nat → Int32) (kw : Nat) (g5 : Nat → Int32) (k : Nat) : Nat → Int32 := fun j => if j < k then (if j < kw then g7 j else iI 0) else g5 j
theorem miF_0 (g7 g5 : Nat → Int32) (kw : Nat) : miF g7 kw g5 0 = g5 := by funext j; simp [miF]
theorem miF_s {g7 g5 : Nat → Int32} {kw k : Nat} {x : Int32} (h : x = if k < kw then g7 k else iI 0) : upd (miF g7 kw g5 k) k x = miF g7 kw g5 (k + 1) := by
  funext j
  unfold upd miF
  by_cases e : j = k
  · subst e
    rw [if_pos rfl, if_pos (Nat.lt_succ_self _), h]
  · rw [if_neg e]
    by_cases q : j < k
    · rw [if_pos q, if_pos (show j < k + 1 by omega)]
    · rw [if_neg q, if_neg (show ¬ j < k + 1 by omega)]
theorem nl_0 {T : Nat → Int} : ∀ {n : Nat}, (∀ i, i < n → T i = -1) → nl T n = 0 := by
  intro n
  induction n with
  | zero => intro _; rfl
  | succ n ih =>
    intro h
    unfold nl
    rw [if_pos (h n (Nat.lt_succ_self _)), ih (fun i hi => h i (by omega))]
theorem nz_0 {A : Nat → Int} : ∀ {n : Nat}, (∀ i, i < n → A i = 0) → nz A n = 0 := by
  intro n
  induction n with
  | zero => intro _; rfl
  | succ n ih =>
    intro h
    unfold nz
    rw [if_pos (h n (Nat.lt_succ_self _)), ih (fun i hi => h i (by omega))]
