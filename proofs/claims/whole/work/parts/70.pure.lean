/-! both sides -/
theorem rl_get (f : Nat → Int32) {n j : Nat} (h : j < n) : (rl f n)[j]? = some (f j) := by
  simp [rl, sl, h]
theorem rl_eq {f g : Nat → Int32} {n k : Nat} (h : rl f n = rl g k) : n = k ∧ ∀ j, j < n → f j = g j := by
  have h1 : n = k := by
    have := congrArg List.length h
    rwa [rl_len, rl_len] at this
  subst h1
  refine ⟨rfl, fun j hj => ?_⟩
  have h2 := rl_get f hj
  rw [h, rl_get g hj] at h2
  exact (Option.some.inj h2).symm
theorem rl_of {f g : Nat → Int32} {n : Nat} (h : ∀ j, j < n → f j = g j) : rl f n = rl g n := by
  unfold rl sl
  apply List.map_congr_left
  intro j hj
  rw [List.mem_range] at hj
  rw [Nat.zero_add]
  exact h j hj
theorem rAt_rl {f g : Nat → Int32} {n k : Nat} (h : rl f n = rl g k) (i : Int) : rAt f n i = rAt g k i := by
  obtain ⟨rfl, h2⟩ := rl_eq h
  unfold rAt
  split
  · exact h2 _ (by omega)
  · rfl
theorem dg_of {f g : Nat → Int32} {n k : Nat} (h : rl f n = rl g k) : dg f n = dg g k := by rw [dg_rl, dg_rl, h]
def isB (x : Int32) : Prop := ∃ b : Nat, b < 256 ∧ x = iI ((b : Nat) : Int)
def allB (f : Nat → Int32) : Prop := ∀ j, isB (f j)
theorem isB_255 {x : Int32} (h : isB x) : x &&& iI (255 : Int) = x := by
  obtain ⟨b, h1, rfl⟩ := h
  exact b_and255 h1
theorem isB_and (x : Int32) : isB (x &&& iI (255 : Int)) := by
  obtain ⟨j, h1, h2⟩ := pk_andE x (m := iI (255 : Int)) 8 (by decide)
  exact ⟨j, h1, by rw [h2, iI_nI]⟩
theorem allB_0 : allB (fun _ => (0 : Int32)) := fun _ => ⟨0, by decide, rfl⟩
theorem allB_ap {f : Nat → Int32} {n : Nat} {L : List Int32} (hf : allB f) (hL : ∀ x ∈ L, isB x) : allB (apL f n L) := by
  intro j
  unfold apL
  split
  · exact hf j
  · rw [List.getD_eq_getElem?_getD]
    cases h : L[j - n]? with
    | none => exact hf j
    | some x => exact hL x (List.mem_of_getElem? h)
theorem allB_kN {f : Nat → Int32} (h : allB f) : ∃ F : Nat → Nat, f = kN F ∧ ∀ j, F j < 256 := by
  refine ⟨fun j => (h j).choose, ?_, fun j => (h j).choose_spec.1⟩
  funext j
  exact (h j).choose_spec.2
theorem fdL_B (w : Int64) : ∀ (k : Nat), ∀ x ∈ fdL w k, isB x := by
  intro k
  induction k with
  | zero => intro x h; cases h
  | succ k ih =>
    intro x h
    rw [fdL, List.mem_cons] at h
    rcases h with rfl | h
    · exact isB_and _
    · exact ih x h
theorem sl_B {g : Nat → Int32} (h : allB g) (st n : Nat) : ∀ x ∈ sl g st n, isB x := by
  intro x hx
  unfold sl at hx
  obtain ⟨k, -, rfl⟩ := List.mem_map.mp hx
  exact h _
theorem vb_B : ∀ (t v : Nat), ∀ x ∈ vb t v, isB x := by
  intro t
  induction t with
  | zero =>
    intro v x h
    rw [vb, List.mem_singleton] at h
    exact ⟨v % 128, by omega, h⟩
  | succ t ih =>
    intro v x h
    unfold vb at h
    split at h
    · rcases List.mem_cons.mp h with h | h
      · exact ⟨v % 128 + 128, by omega, h⟩
      · exact ih _ x h
    · rw [List.mem_singleton] at h
      exact ⟨v % 128, by omega, h⟩
theorem wL_B (w : Int32) : ∀ x ∈ wL w, isB x := by
  intro x h
  unfold wL at h
  simp only [List.mem_cons, List.not_mem_nil, or_false] at h
  rcases h with rfl | rfl | rfl | rfl <;> exact isB_and _
theorem app_B {a b : List Int32} (h1 : ∀ x ∈ a, isB x) (h2 : ∀ x ∈ b, isB x) : ∀ x ∈ a ++ b, isB x := fun x h => (List.mem_append.mp h).elim (h1 x) (h2 x)
theorem wrS_B {fg : Nat → Int32} (h : allB fg) (P L S : Nat → Int) : ∀ (n i : Nat) (bh : Int), ∀ x ∈ wrS fg P L S n i bh, isB x := by
  intro n
  induction n with
  | zero => intro i bh x hx; cases hx
  | succ n ih =>
    intro i bh
    rw [wrS]
    refine app_B ?_ (ih _ _)
    unfold stB
    split
    · exact app_B (vb_B _ _) (sl_B h _ _)
    · exact app_B (vb_B _ _) (vb_B _ _)
theorem hdB_B (fb fg : Nat → Int32) (nb ng : Nat) : ∀ x ∈ hdB fb fg nb ng, isB x := app_B (app_B (app_B (vb_B _ _) (vb_B _ _)) (wL_B _)) (wL_B _)
theorem ap_in {f g : Nat → Int32} {n j : Nat} (h : j < n) : apL f 0 (sl g 0 n) j = g j := by
  unfold apL
  rw [if_neg (Nat.not_lt_zero _), List.getD_eq_getElem?_getD]
  simp [sl, h]
theorem lcp_cong {f g f' g' : Nat → Int32} : ∀ (k i j : Nat), (∀ t, t < k → f (i + t) = f' (i + t)) → (∀ t, t < k → g (j + t) = g' (j + t)) → lcp f g i j k = lcp f' g' i j k := by
  intro k
  induction k with
  | zero => intro i j _ _; rfl
  | succ k ih =>
    intro i j h1 h2
    have a := h1 0 (by omega)
    have b := h2 0 (by omega)
    rw [Nat.add_zero] at a b
    rw [lcp, lcp, a, b, ih (i + 1) (j + 1) (fun t ht => by rw [Nat.add_assoc, Nat.add_comm 1 t]; exact h1 (t + 1) (by omega)) (fun t ht => by rw [Nat.add_assoc, Nat.add_comm 1 t]; exact h2 (t + 1) (by omega))]
theorem lr_cong (fg fb f1 f2 : Nat → Int32) (n1 n2 : Nat) : lr (apL fg 0 (sl f2 0 n2)) (apL fb 0 (sl f1 0 n1)) n2 n1 = lr f2 f1 n2 n1 := by
  funext p q
  unfold lr
  exact lcp_cong _ _ _ (fun t ht => ap_in (by omega)) (fun t ht => ap_in (by omega))
theorem rl_apn (f g : Nat → Int32) (n : Nat) : rl (apL f 0 (sl g 0 n)) n = rl g n := rl_of (fun j hj => ap_in hj)
theorem hdB_cong (fg fb f1 f2 : Nat → Int32) (n1 n2 : Nat) : hdB (apL fb 0 (sl f1 0 n1)) (apL fg 0 (sl f2 0 n2)) n1 n2 = hdB f1 f2 n1 n2 := by
  unfold hdB
  rw [dg_of (rl_apn fb f1 n1), dg_of (rl_apn fg f2 n2)]
theorem wrS_cong {f g : Nat → Int32} {P L S : Nat → Int} {cnt nb ng : Nat} (hW : LW P L S cnt nb ng) (h : ∀ j, j < ng → f j = g j) : ∀ (n i : Nat) (bh : Int), i + n = cnt → wrS f P L S n i bh = wrS g P L S n i bh := by
  intro n
  induction n with
  | zero => intro i bh _; rfl
  | succ n ih =>
    intro i bh hi
    have hw := hW.1 i (by omega)
    have e : stB f P L S i bh = stB g P L S i bh := by
      unfold stB
      split
      · congr 1
        unfold sl
        apply List.map_congr_left
        intro k hk
        rw [List.mem_range] at hk
        exact h _ (by omega)
      · rfl
    rw [wrS, wrS, e, ih (i + 1) _ (by omega)]
theorem LL_cong {fg fb f1 f2 : Nat → Int32} {n1 n2 : Nat} {P L S : Nat → Int} {cnt : Nat} (hW : LW P L S cnt n1 n2) : hdB (apL fb 0 (sl f1 0 n1)) (apL fg 0 (sl f2 0 n2)) n1 n2 ++ wrS (apL fg 0 (sl f2 0 n2)) P L S cnt 0 0 = hdB f1 f2 n1 n2 ++ wrS f2 P L S cnt 0 0 := by
  rw [hdB_cong, wrS_cong hW (fun j hj => ap_in hj) cnt 0 0 (by omega)]
theorem spF_cong {i z : Int} {cnt : Nat} {P L S A T A' T' : Nat → Int} (h : ∀ j, j < cnt → A j = A' j ∧ T j = T' j) : spF i z cnt P L S A T = spF i z cnt P L S A' T' := by
  unfold spF
  by_cases q : 0 ≤ i ∧ i < (cnt : Int)
  · have e := h i.toNat (by omega)
    rw [e.1, e.2]
  · rw [if_pos q, if_pos q]
theorem LW_cover {P L S : Nat → Int} {cnt nb ng : Nat} (hW : LW P L S cnt nb ng) {j : Nat} (hj : j < ng) : ∃ i, i < cnt ∧ P i ≤ (j : Int) ∧ (j : Int) < P i + L i := by
  have key : ∀ n, n ≤ cnt → (j : Int) < eP P L n → ∃ i, i < n ∧ P i ≤ (j : Int) ∧ (j : Int) < P i + L i := by
    intro n
    induction n with
    | zero =>
      intro _ h
      have : (j : Int) < 0 := h
      omega
    | succ n ih =>
      intro hn h
      rw [eP_s] at h
      by_cases q : (j : Int) < eP P L n
      · obtain ⟨i, h1, h2⟩ := ih (by omega) q
        exact ⟨i, by omega, h2⟩
      · refine ⟨n, Nat.lt_succ_self _, ?_, h⟩
        rw [LW_eP hW (show n < cnt by omega)]
        omega
  have hc : 0 < cnt := by
    rcases Nat.eq_zero_or_pos cnt with q | q
    · have := hW.2.2.2.1 q
      omega
    · exact q
  refine key cnt (Nat.le_refl _) ?_
  have h1 := (hW.2.2.1 hc).2
  unfold eP
  rw [if_neg (by omega), h1]
  omega
/-! in place on both sides: the same choices, the same bytes -/
def cB (P L S A T : Nat → Int) (i : Nat) : Nat → Nat
  | 0 => 0
  | q + 1 => cB P L S A T i q + (if q ≠ i ∧ ¬ S q = -1 ∧ T q = -1 ∧ A q = 0 ∧ (P i < S q + L q ∧ S q < P i + L i) then 1 else 0)
theorem cB_0 {P L S A T : Nat → Int} {i : Nat} : ∀ n, cB P L S A T i n = 0 ↔ ∀ q, q < n → ¬ (q ≠ i ∧ ¬ S q = -1 ∧ T q = -1 ∧ A q = 0 ∧ (P i < S q + L q ∧ S q < P i + L i)) := by
  intro n
  induction n with
  | zero => exact ⟨fun _ q h => absurd h (Nat.not_lt_zero _), fun _ => rfl⟩
  | succ n ih =>
    constructor
    · intro h q hq
      unfold cB at h
      split at h
      · omega
      next c =>
        rcases Nat.lt_or_ge q n with g | g
        · exact ih.mp (by omega) q g
        · obtain rfl : q = n := by omega
          exact c
    · intro h
      unfold cB
      rw [if_neg (h n (Nat.lt_succ_self _)), ih.mpr (fun q hq => h q (by omega))]
/-- one less, where k no longer wants -/
theorem cB_k {P L S A T A' T' : Nat → Int} {i k : Nat} (hk : ¬ S k = -1 ∧ T k = -1 ∧ A k = 0) (hk' : ¬ (T' k = -1 ∧ A' k = 0)) (ho : ∀ q, q ≠ k → T' q = T q ∧ A' q = A q) : ∀ n, cB P L S A T i n = cB P L S A' T' i n + (if k < n ∧ i ≠ k ∧ (P i < S k + L k ∧ S k < P i + L i) then 1 else 0) := by
  intro n
  induction n with
  | zero => simp [cB]
  | succ n ih =>
    unfold cB
    rw [ih]
    by_cases e : n = k
    · subst e
      rw [if_neg (show ¬ (n < n ∧ i ≠ n ∧ (P i < S n + L n ∧ S n < P i + L i)) by omega), if_neg (show ¬ (n ≠ i ∧ ¬ S n = -1 ∧ T' n = -1 ∧ A' n = 0 ∧ (P i < S n + L n ∧ S n < P i + L i)) from fun h => hk' ⟨h.2.2.1, h.2.2.2.1⟩)]
      by_cases c : i ≠ n ∧ (P i < S n + L n ∧ S n < P i + L i)
      · rw [if_pos (show n < n + 1 ∧ i ≠ n ∧ (P i < S n + L n ∧ S n < P i + L i) from ⟨Nat.lt_succ_self _, c⟩), if_pos ⟨Ne.symm c.1, hk.1, hk.2.1, hk.2.2, c.2⟩]
      · rw [if_neg (show ¬ (n < n + 1 ∧ i ≠ n ∧ (P i < S n + L n ∧ S n < P i + L i)) from fun h => c h.2), if_neg (fun h => c ⟨Ne.symm h.1, h.2.2.2.2⟩)]
    · rw [(ho n e).1, (ho n e).2]
      by_cases c : k < n ∧ i ≠ k ∧ (P i < S k + L k ∧ S k < P i + L i)
      · rw [if_pos c, if_pos (show k < n + 1 ∧ i ≠ k ∧ (P i < S k + L k ∧ S k < P i + L i) from ⟨by omega, c.2⟩)]
        omega
      · rw [if_neg c, if_neg (show ¬ (k < n + 1 ∧ i ≠ k ∧ (P i < S k + L k ∧ S k < P i + L i)) from fun h => c ⟨by omega, h.2⟩)]
        omega
theorem cB_same {P L S A T A' T' : Nat → Int} {i : Nat} (n : Nat) (h : ∀ q, q < n → ((¬ S q = -1 ∧ T q = -1 ∧ A q = 0) ↔ (¬ S q = -1 ∧ T' q = -1 ∧ A' q = 0))) : cB P L S A T i n = cB P L S A' T' i n := by
  induction n with
  | zero => rfl
  | succ n ih =>
    unfold cB
    rw [ih (fun q hq => h q (by omega))]
    have e := h n (Nat.lt_succ_self _)
    by_cases c : n ≠ i ∧ ¬ S n = -1 ∧ T n = -1 ∧ A n = 0 ∧ (P i < S n + L n ∧ S n < P i + L i)
    · rw [if_pos c, if_pos]
      have := e.mp ⟨c.2.1, c.2.2.1, c.2.2.2.1⟩
      exact ⟨c.1, c.2.1, this.2.1, this.2.2, c.2.2.2.2⟩
    · rw [if_neg c, if_neg]
      intro d
      have := e.mpr ⟨d.2.1, d.2.2.1, d.2.2.2.1⟩
      exact c ⟨d.1, d.2.1, this.2.1, this.2.2, d.2.2.2.2⟩
theorem cbF_cB {P L S A T B : Nat → Int} {cnt i : Nat} (hi : i < cnt) (hB : B i = 0) (hA : ∀ q, q < cnt → A q = 0 ∧ T q = -1) : ∀ k, k ≤ cnt → cbF P L S cnt B k i = (cB P L S A T i k : Int) := by
  intro k
  induction k with
  | zero => intro _; exact hB
  | succ k ih =>
    intro hk
    have a := hA k (by omega)
    unfold cbF cB
    by_cases q : S k = -1
    · rw [if_pos q, ih (by omega), if_neg (fun h => h.2.1 q)]
      omega
    · rw [if_neg q]
      unfold chB
      rw [ih (by omega)]
      by_cases c : i ≠ k ∧ (P i < S k + L k ∧ S k < P i + L i)
      · rw [if_pos ⟨hi, c⟩, if_pos ⟨Ne.symm c.1, q, a.2, a.1, c.2⟩]
        omega
      · rw [if_neg (fun h => c h.2), if_neg (fun h => c ⟨Ne.symm h.1, h.2.2.2.2⟩)]
        omega
theorem nf_eq {T B T' : Nat → Int} {ok : Nat → Bool} {cnt : Nat} (h : ∀ i, i < cnt → ((T i = -1 ∧ B i = 0) ↔ (T' i = -1 ∧ ok i = true))) : ∀ (n i : Nat), i + n = cnt → nfF T B n i = nfG ok T' n i := by
  intro n
  induction n with
  | zero => intro i _; rfl
  | succ n ih =>
    intro i hi
    have e := h i (by omega)
    unfold nfF nfG
    by_cases c : T i = -1 ∧ B i = 0
    · rw [if_pos c, if_pos (e.mp c)]
    · rw [if_neg c, if_neg (fun q => c (e.mpr q)), ih (i + 1) (by omega)]
theorem fb_eq {L S A T A' T' : Nat → Int} : ∀ k, (∀ i, i < k → A i = A' i ∧ T i = T' i) → fbF L S A T k = fbF L S A' T' k := by
  intro k
  induction k with
  | zero => intro _; rfl
  | succ k ih =>
    intro h
    have e := h k (Nat.lt_succ_self _)
    unfold fbF
    rw [ih (fun i hi => h i (by omega)), e.1, e.2]
/-- the two states agree -/
def RelP (P L S : Nat → Int) (cnt nb : Nat) (x : PlS) (y : PlM) : Prop :=
  (∀ i, i < cnt → x.1 i = y.1 i ∧ x.2.1 i = y.2.1 i) ∧ x.2.2.2.1 = y.2.2.1 ∧ x.2.2.2.2.2.2 = y.2.2.2.2.2 ∧ (∀ i, i < cnt → (y.1 i = 0 ∨ y.1 i = 1) ∧ (¬ y.1 i = 0 → ¬ S i = -1)) ∧ nl y.2.1 cnt = y.2.2.1 ∧ (∀ i, i < cnt → x.2.2.1 i = (cB P L S y.1 y.2.1 i cnt : Int)) ∧
  (∀ j, j < nb → x.2.2.2.2.1 j = y.2.2.2.1 j) ∧ (∀ i, i < cnt → ¬ y.2.1 i = -1 → ∀ j : Nat, P i ≤ (j : Int) → (j : Int) < P i + L i → x.2.2.2.2.1 j = y.2.2.2.1 j) ∧ (∀ i, i < cnt → ¬ y.1 i = 0 → ∀ j : Nat, P i ≤ (j : Int) → (j : Int) < P i + L i → x.2.2.2.2.2.1 j = y.2.2.2.2.1 j)
theorem free_iff {P L S A T : Nat → Int} {cnt i : Nat} (hA : ∀ q, q < cnt → A q = 0 ∨ A q = 1) : (cB P L S A T i cnt : Int) = 0 ↔ frB P L S A T i cnt = true := by
  rw [frB_all, show ((cB P L S A T i cnt : Nat) : Int) = 0 ↔ cB P L S A T i cnt = 0 by omega, cB_0]
  constructor
  · intro h j hj
    have a := h j hj
    have b := hA j hj
    omega
  · intro h j hj
    have a := h j hj
    have b := hA j hj
    omega
