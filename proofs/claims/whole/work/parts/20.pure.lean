/-! in place -/
def pfx (k : Nat) (v : Int) (A : Nat → Int) : Nat → Int := fun i => if i < k then v else A i
theorem pfx_0 (v : Int) (A : Nat → Int) : pfx 0 v A = A := by funext i; simp [pfx]
theorem pfx_s (k : Nat) (v : Int) (A : Nat → Int) : upd (kA (pfx k v A)) k (iI v) = kA (pfx (k + 1) v A) := by
  rw [kA_upd]
  congr 1
  funext i
  unfold uZ pfx
  by_cases h : i = k
  · subst h; simp
  · by_cases h2 : i < k
    · simp [h, h2, Nat.lt_succ_of_lt h2]
    · have h3 : ¬ i < k + 1 := by omega
      simp [h, h2, h3]
theorem cpy_0 {f g : Nat → Int32} {sp dp : Nat} : va_cpy f g sp dp 0 = g := by
  funext j
  unfold va_cpy
  rw [if_neg (by omega)]
theorem cpy_s {f g : Nat → Int32} {sp dp k : Nat} : upd (va_cpy f g sp dp k) (dp + k) (f (sp + k)) = va_cpy f g sp dp (k + 1) := by
  funext j
  unfold upd va_cpy
  by_cases h : j = dp + k
  · rw [if_pos h, if_pos (by omega)]
    congr 1
    omega
  · rw [if_neg h]
    by_cases h2 : dp ≤ j ∧ j < dp + k
    · rw [if_pos h2, if_pos (by omega)]
    · rw [if_neg h2, if_neg (by omega)]
/-- the counts of those that wait, changed by c for those whose bytes lie where q takes -/
def chB (P L S : Nat → Int) (q : Nat) (c : Int) (k : Nat) (B : Nat → Int) : Nat → Int := fun i => if i < k ∧ i ≠ q ∧ (P i < S q + L q ∧ S q < P i + L i) then B i + c else B i
theorem chB_0 {P L S : Nat → Int} {q : Nat} {c : Int} {B : Nat → Int} : chB P L S q c 0 B = B := by
  funext i
  unfold chB
  rw [if_neg (by omega)]
theorem chB_k {P L S : Nat → Int} {q k : Nat} {c : Int} {B : Nat → Int} : chB P L S q c k B k = B k := by
  unfold chB
  rw [if_neg (by omega)]
theorem chB_n {P L S : Nat → Int} {q k : Nat} {c : Int} {B : Nat → Int} (h : k = q ∨ ¬ (P k < S q + L q ∧ S q < P k + L k)) : chB P L S q c (k + 1) B = chB P L S q c k B := by
  funext i
  unfold chB
  by_cases e : i = k
  · subst e
    rw [if_neg (by omega), if_neg (by omega)]
  · by_cases h2 : i < k ∧ i ≠ q ∧ (P i < S q + L q ∧ S q < P i + L i)
    · rw [if_pos h2, if_pos (by omega)]
    · rw [if_neg h2, if_neg (by omega)]
theorem chB_y {P L S : Nat → Int} {q k : Nat} {c : Int} {B : Nat → Int} (h : k ≠ q) (h1 : P k < S q + L q ∧ S q < P k + L k) : upd (kA (chB P L S q c k B)) k (iI (B k + c)) = kA (chB P L S q c (k + 1) B) := by
  rw [kA_upd]
  congr 1
  funext i
  unfold uZ chB
  by_cases e : i = k
  · subst e
    rw [if_pos rfl, if_pos (by omega)]
  · rw [if_neg e]
    by_cases h2 : i < k ∧ i ≠ q ∧ (P i < S q + L q ∧ S q < P i + L i)
    · rw [if_pos h2, if_pos (by omega)]
    · rw [if_neg h2, if_neg (by omega)]
theorem chB_rng {P L S : Nat → Int} {q k : Nat} {c b : Int} {B : Nat → Int} (hc : -1 ≤ c ∧ c ≤ 1) {i : Nat} (h : -b ≤ B i ∧ B i ≤ b) : -(b + 1) ≤ chB P L S q c k B i ∧ chB P L S q c k B i ≤ b + 1 := by
  unfold chB
  split <;> omega
def cbF (P L S : Nat → Int) (cnt : Nat) (B : Nat → Int) : Nat → Nat → Int
  | 0 => B
  | k + 1 => if S k = -1 then cbF P L S cnt B k else chB P L S k 1 cnt (cbF P L S cnt B k)
theorem cbF_rng {P L S : Nat → Int} {cnt : Nat} {B : Nat → Int} {i : Nat} (h : B i = 0) : ∀ k : Nat, -(k : Int) ≤ cbF P L S cnt B k i ∧ cbF P L S cnt B k i ≤ k := by
  intro k
  induction k with
  | zero => simp [cbF, h]
  | succ k ih =>
    unfold cbF
    split
    · omega
    · have := chB_rng (P := P) (L := L) (S := S) (q := k) (k := cnt) (c := 1) (b := (k : Int)) (by omega) ih
      omega
/-- the least that is left and free -/
def nfF (T B : Nat → Int) : Nat → Nat → Int
  | 0, _ => -1
  | n + 1, i => if T i = -1 ∧ B i = 0 then ((i : Nat) : Int) else nfF T B n (i + 1)
theorem nfF_y {T B : Nat → Int} {cnt i : Nat} (hi : i < cnt) (h : T i = -1 ∧ B i = 0) : nfF T B (cnt - i) i = ((i : Nat) : Int) := by
  rw [show cnt - i = (cnt - (i + 1)) + 1 by omega, nfF, if_pos h]
theorem nfF_n {T B : Nat → Int} {cnt i : Nat} (hi : i < cnt) (h : ¬ (T i = -1 ∧ B i = 0)) : nfF T B (cnt - i) i = nfF T B (cnt - (i + 1)) (i + 1) := by
  rw [show cnt - i = (cnt - (i + 1)) + 1 by omega, nfF, if_neg h]
theorem nfF_rng {T B : Nat → Int} : ∀ (n i : Nat), -1 ≤ nfF T B n i ∧ nfF T B n i < (i + n : Nat) := by
  intro n
  induction n with
  | zero => intro i; simp only [nfF]; omega
  | succ n ih =>
    intro i
    unfold nfF
    split
    · omega
    · have := ih (i + 1)
      omega
/-- the copy that wants memory with the fewest bytes -/
def fbF (L S A T : Nat → Int) : Nat → Int
  | 0 => -1
  | k + 1 => if (¬ S k = -1 ∧ T k = -1 ∧ A k = 0) ∧ (fbF L S A T k = -1 ∨ L k < L (fbF L S A T k).toNat) then ((k : Nat) : Int) else fbF L S A T k
theorem fbF_rng {L S A T : Nat → Int} : ∀ k : Nat, -1 ≤ fbF L S A T k ∧ fbF L S A T k < k := by
  intro k
  induction k with
  | zero => simp only [fbF]; omega
  | succ k ih =>
    unfold fbF
    split <;> omega
theorem fbF_y {L S A T : Nat → Int} {k : Nat} (h : ¬ S k = -1 ∧ T k = -1 ∧ A k = 0) (h2 : fbF L S A T k = -1 ∨ L k < L (fbF L S A T k).toNat) : fbF L S A T (k + 1) = ((k : Nat) : Int) := by rw [fbF, if_pos ⟨h, h2⟩]
theorem fbF_n {L S A T : Nat → Int} {k : Nat} (h : ¬ ((¬ S k = -1 ∧ T k = -1 ∧ A k = 0) ∧ (fbF L S A T k = -1 ∨ L k < L (fbF L S A T k).toNat))) : fbF L S A T (k + 1) = fbF L S A T k := by rw [fbF, if_neg h]
theorem fbF_S {L S A T : Nat → Int} : ∀ k : Nat, fbF L S A T k ≠ -1 → ¬ S (fbF L S A T k).toNat = -1 := by
  intro k
  induction k with
  | zero => intro h; exact absurd rfl h
  | succ k ih =>
    unfold fbF
    split
    next q => intro _; exact q.1.1
    next q => exact ih
/-- aside, turns, counts, done, memory, hand, bytes aside -/
abbrev PlS : Type := (Nat → Int) × (Nat → Int) × (Nat → Int) × Nat × (Nat → Int32) × (Nat → Int32) × Nat
def cyH (P L S : Nat → Int) (fg : Nat → Int32) (k : Nat) (A T : Nat → Int) (fm fh : Nat → Int32) : Nat → Int32 :=
  if ¬ S k = -1 ∧ T k = -1 ∧ A k = 0 then va_cpy fm fh (S k).toNat (P k).toNat (L k).toNat else if S k = -1 then va_cpy fg fh (P k).toNat (P k).toNat (L k).toNat else fh
def cyB (P L S : Nat → Int) (cnt k : Nat) (A T B : Nat → Int) : Nat → Int := if ¬ S k = -1 ∧ T k = -1 ∧ A k = 0 then chB P L S k (-1) cnt B else B
def cyF (P L S : Nat → Int) (cnt : Nat) (fg : Nat → Int32) (k : Nat) (x : PlS) : PlS :=
  (x.1, uZ x.2.1 k ((x.2.2.2.1 : Nat) : Int), cyB P L S cnt k x.1 x.2.1 x.2.2.1, x.2.2.2.1 + 1, va_cpy (cyH P L S fg k x.1 x.2.1 x.2.2.2.2.1 x.2.2.2.2.2.1) x.2.2.2.2.1 (P k).toNat (P k).toNat (L k).toNat, cyH P L S fg k x.1 x.2.1 x.2.2.2.2.1 x.2.2.2.2.2.1, x.2.2.2.2.2.2)
def asF (P L S : Nat → Int) (cnt k : Nat) (x : PlS) : PlS :=
  (uZ x.1 k 1, x.2.1, chB P L S k (-1) cnt x.2.2.1, x.2.2.2.1, x.2.2.2.2.1, va_cpy x.2.2.2.2.1 x.2.2.2.2.2.1 (S k).toNat (P k).toNat (L k).toNat, x.2.2.2.2.2.2 + (L k).toNat)
def stF (P L S : Nat → Int) (cnt : Nat) (fg : Nat → Int32) (x : PlS) : PlS :=
  if nfF x.2.1 x.2.2.1 cnt 0 = -1 then (if fbF L S x.1 x.2.1 cnt = -1 then x else asF P L S cnt (fbF L S x.1 x.2.1 cnt).toNat x) else cyF P L S cnt fg (nfF x.2.1 x.2.2.1 cnt 0).toNat x
def rnF (P L S : Nat → Int) (cnt : Nat) (fg : Nat → Int32) : Nat → PlS → PlS
  | 0, x => x
  | t + 1, x => if x.2.2.2.1 < cnt then rnF P L S cnt fg t (stF P L S cnt fg x) else x
theorem rnF_s {P L S : Nat → Int} {cnt t : Nat} {fg : Nat → Int32} {x : PlS} (ht : t < 600) (h : x.2.2.2.1 < cnt) : rnF P L S cnt fg (600 - t) x = rnF P L S cnt fg (600 - (t + 1)) (stF P L S cnt fg x) := by
  rw [show 600 - t = (600 - (t + 1)) + 1 by omega, rnF, if_pos h]
theorem rnF_e {P L S : Nat → Int} {cnt t : Nat} {fg : Nat → Int32} {x : PlS} (h : t = 0 ∨ ¬ x.2.2.2.1 < cnt) : rnF P L S cnt fg t x = x := by
  cases t with
  | zero => rfl
  | succ t => rw [rnF, if_neg (by omega)]
theorem uZ_rng {T : Nat → Int} {k i d : Nat} (hd : d ≤ 600) (h : -1 ≤ T i ∧ T i ≤ 1000) : -1 ≤ uZ T k ((d : Nat) : Int) i ∧ uZ T k ((d : Nat) : Int) i ≤ 1000 := by
  unfold uZ
  split <;> omega
theorem uZ_01 {A : Nat → Int} {k i : Nat} (h : A i = 0 ∨ A i = 1) : uZ A k 1 i = 0 ∨ uZ A k 1 i = 1 := by
  unfold uZ
  split <;> omega
theorem cyB_rng {P L S A T B : Nat → Int} {cnt k t i : Nat} (h : -(300 + (t : Int)) ≤ B i ∧ B i ≤ 300 + (t : Int)) : -(300 + ((t + 1 : Nat) : Int)) ≤ cyB P L S cnt k A T B i ∧ cyB P L S cnt k A T B i ≤ 300 + ((t + 1 : Nat) : Int) := by
  unfold cyB
  split
  · have := chB_rng (P := P) (L := L) (S := S) (q := k) (k := cnt) (c := -1) (b := 300 + (t : Int)) (by omega) h
    omega
  · omega
