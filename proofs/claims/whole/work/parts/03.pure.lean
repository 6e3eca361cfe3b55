/-! rows of bytes: contents f, of which the first n count -/
def apL (f : Nat → Int32) (n : Nat) (L : List Int32) : Nat → Int32 := fun j => if j < n then f j else L.getD (j - n) (f j)
def sl (g : Nat → Int32) (st n : Nat) : List Int32 := (List.range n).map (fun k => g (st + k))
theorem sl_len (g : Nat → Int32) (st n : Nat) : (sl g st n).length = n := by simp [sl]
theorem sl_succ (g : Nat → Int32) (st n : Nat) : sl g st (n + 1) = sl g st n ++ [g (st + n)] := by simp [sl, List.range_succ]
theorem apL_nil (f : Nat → Int32) (n : Nat) : apL f n [] = f := by
  funext j
  simp [apL]
theorem apL_one (f : Nat → Int32) (n : Nat) (x : Int32) : upd f n x = apL f n [x] := by
  funext j
  unfold upd apL
  by_cases h : j = n
  · subst h; simp
  · by_cases h2 : j < n
    · simp [h, h2]
    · have h3 : 1 ≤ j - n := by omega
      rw [if_neg h, if_neg h2, List.getD_eq_getElem?_getD, List.getElem?_eq_none (by simpa using h3)]
      rfl
theorem apL_app (f : Nat → Int32) (n : Nat) (L M : List Int32) : apL (apL f n L) (n + L.length) M = apL f n (L ++ M) := by
  funext j
  unfold apL
  by_cases h : j < n
  · simp [h, Nat.lt_add_right L.length h]
  · by_cases h2 : j < n + L.length
    · have h3 : j - n < L.length := by omega
      simp [h, h2, List.getD_eq_getElem?_getD, List.getElem?_append_left h3]
    · have h3 : L.length ≤ j - n := by omega
      have h4 : j - n - L.length = j - (n + L.length) := by omega
      simp [h, h2, List.getD_eq_getElem?_getD, List.getElem?_append_right h3, List.getElem?_eq_none h3, h4]
theorem apL_at {f : Nat → Int32} {n : Nat} {L : List Int32} {k : Nat} (h : k = n + L.length) (x : Int32) : apL (apL f n L) k [x] = apL f n (L ++ [x]) := by rw [h, apL_app]
theorem apL_sl {f g : Nat → Int32} {n st k : Nat} : apL (apL f n (sl g st k)) (n + k) [g (st + k)] = apL f n (sl g st (k + 1)) := by
  rw [apL_at (by rw [sl_len]), sl_succ]
/-- the first n -/
def rl (f : Nat → Int32) (n : Nat) : List Int32 := sl f 0 n
theorem rl_len (f : Nat → Int32) (n : Nat) : (rl f n).length = n := sl_len f 0 n
theorem rl_ap (f : Nat → Int32) (n : Nat) (L : List Int32) : rl (apL f n L) (n + L.length) = rl f n ++ L := by
  refine List.ext_getElem (by simp [rl, sl]) (fun i h1 h2 => ?_)
  simp only [rl, sl, List.length_map, List.length_range] at h1
  by_cases h : i < n
  · simp [rl, sl, apL, h]
  · have h3 : i - n < L.length := by omega
    have e : (rl f n ++ L)[i] = L[i - n] := by
      rw [List.getElem_append_right (by rw [rl_len]; omega)]
      simp only [rl_len]
    rw [e]
    simp [rl, sl, apL, h, List.getD_eq_getElem?_getD, h3]
/-- the check -/
def dgS (s b : Int32) : Int32 := (((s ^^^ b) <<< (iI (5 : Int) &&& 31)) ||| (((s ^^^ b).toUInt32 >>> ((iI (27 : Int)).toUInt32 &&& Int32.toUInt32 31)).toInt32)) * (-2048144777)
def dg (f : Nat → Int32) : Nat → Int32
  | 0 => iI 0
  | k + 1 => dgS (dg f k) (f k)
/-- a byte, where there is one -/
def rAt (f : Nat → Int32) (n : Nat) (z : Int) : Int32 := if 0 ≤ z ∧ z < (n : Int) then f z.toNat else iI (-1)
/-- how many bytes are the same -/
def lcp (f g : Nat → Int32) (i j : Nat) : Nat → Nat
  | 0 => 0
  | k + 1 => if f i = g j then lcp f g (i + 1) (j + 1) k + 1 else 0
/-- numbers in bytes of seven bits -/
def vb : Nat → Nat → List Int32
  | 0, v => [iI ((v % 128 : Nat) : Int)]
  | t + 1, v => if 127 < v then iI ((v % 128 + 128 : Nat) : Int) :: vb t (v / 128) else [iI ((v % 128 : Nat) : Int)]
theorem vb_step {k v : Nat} (hk : k < 4) (hv : 127 < v) : vb (4 - k) v = iI ((v % 128 + 128 : Nat) : Int) :: vb (4 - (k + 1)) (v / 128) := by
  have h : 4 - k = (4 - (k + 1)) + 1 := by omega
  rw [h, vb, if_pos hv]
theorem vb_stop {k v : Nat} (h : ¬ k < 4 ∨ ¬ 127 < v) : vb (4 - k) v = [iI ((v % 128 : Nat) : Int)] := by
  cases e : 4 - k with
  | zero => rfl
  | succ t =>
    rw [vb, if_neg]
    omega
theorem vb_len (t v : Nat) : (vb t v).length ≤ t + 1 ∧ 1 ≤ (vb t v).length := by
  induction t generalizing v with
  | zero => simp [vb]
  | succ t ih =>
    unfold vb
    split
    · have := ih (v / 128); simp; omega
    · simp
theorem b_and127 {v : Nat} (h : v < 2147483648) : iI ((v : Nat) : Int) &&& iI (127 : Int) = iI ((v % 128 : Nat) : Int) := by
  rw [← iI_nI, ← iI_nI]
  exact pk_andN (by omega) 7 (by decide)
theorem b_or128 : ∀ x, x < 128 → iI ((x : Nat) : Int) ||| iI (128 : Int) = iI ((x + 128 : Nat) : Int) := by decide +kernel
theorem b_ushr7 {v : Nat} (h : v < 2147483648) : ((iI ((v : Nat) : Int)).toUInt32 >>> ((iI (7 : Int)).toUInt32 &&& Int32.toUInt32 31)).toInt32 = iI ((v / 128 : Nat) : Int) := by
  rw [← iI_nI, ← iI_nI]
  exact pk_ushrN (by omega) (iI 7) 7 (by decide)
/-- the four bytes of a word, the highest first -/
def wB (w : Int32) (k : Int) : Int32 := ((w.toUInt32 >>> ((iI k).toUInt32 &&& Int32.toUInt32 31)).toInt32) &&& iI (255 : Int)
def wL (w : Int32) : List Int32 := [wB w 24, wB w 16, wB w 8, wB w 0]
theorem lcp_s {f g : Nat → Int32} {i j k : Nat} (hk : 0 < k) (h : f i = g j) : lcp f g i j k = lcp f g (i + 1) (j + 1) (k - 1) + 1 := by
  obtain ⟨t, rfl⟩ : ∃ t, k = t + 1 := ⟨k - 1, by omega⟩
  simp [lcp, h]
theorem lcp_n {f g : Nat → Int32} {i j k : Nat} (h : ¬ f i = g j) : lcp f g i j k = 0 := by
  cases k with
  | zero => rfl
  | succ k => simp [lcp, h]
theorem lcp_0 {f g : Nat → Int32} {i j k : Nat} (h : k = 0) : lcp f g i j k = 0 := by subst h; rfl
/-! arrays of numbers -/
def kA (P : Nat → Int) : Nat → Int32 := fun i => iI (P i)
def uZ (P : Nat → Int) (k : Nat) (v : Int) : Nat → Int := fun j => if j = k then v else P j
theorem kA_upd (P : Nat → Int) (k : Nat) (v : Int) : upd (kA P) k (iI v) = kA (uZ P k v) := by
  funext j
  unfold upd kA uZ
  by_cases h : j = k
  · simp [h]
  · simp [h]
theorem uZ_s (P : Nat → Int) (k : Nat) (v : Int) : uZ P k v k = v := by simp [uZ]
theorem uZ_n {P : Nat → Int} {k j : Nat} {v : Int} (h : j ≠ k) : uZ P k v j = P j := by simp [uZ, h]
def rZ (P : Nat → Int) (n : Nat) (z : Int) : Int := if 0 ≤ z ∧ z < (n : Int) then P z.toNat else -1
theorem rZ_in {P : Nat → Int} {n k : Nat} (h : k < n) : rZ P n (k : Int) = P k := by
  unfold rZ
  rw [if_pos (by omega)]
  rfl
theorem rZ_rng {P : Nat → Int} {n : Nat} {z b : Int} (hb : -1 ≤ b) (h : ∀ i, i < n → -1 ≤ P i ∧ P i ≤ b) : -1 ≤ rZ P n z ∧ rZ P n z ≤ b := by
  unfold rZ
  split
  · exact h _ (by omega)
  · exact ⟨by omega, hb⟩
theorem kb1 {P : Prop} [Decidable P] (h : P) : iI 1 = kb (decide P) := by rw [decide_eq_true h]; rfl
theorem kb0 {P : Prop} [Decidable P] (h : ¬ P) : iI 0 = kb (decide P) := by rw [decide_eq_false h]; rfl
theorem rZ_last {P : Nat → Int} {n : Nat} (h : 0 < n) : rZ P n (((n : Nat) : Int) - 1) = P (n - 1) := by
  unfold rZ
  rw [if_pos (by omega)]
  congr 1
  omega
/-- one more byte that is added -/
def adB (P L S : Nat → Int) (cnt p : Nat) : (Nat → Int) × (Nat → Int) × (Nat → Int) × Nat := if 0 < cnt ∧ S (cnt - 1) = -1 ∧ L (cnt - 1) < 40 then (P, uZ L (cnt - 1) (L (cnt - 1) + 1), S, cnt) else (uZ P cnt ((p : Nat) : Int), uZ L cnt 1, uZ S cnt (-1), cnt + 1)
/-- the longest run and its least place -/
def lr (fg fb : Nat → Int32) (ng nb p q : Nat) : Nat := lcp fg fb p q (min (ng - p) (nb - q))
def mxR (r : Nat → Nat) : Nat → Nat
  | 0 => 0
  | k + 1 => if mxR r k < r k then r k else mxR r k
def lsQ (r : Nat → Nat) : Nat → Nat
  | 0 => 0
  | k + 1 => if mxR r k < r k then k else lsQ r k
theorem lcp_le (f g : Nat → Int32) (k : Nat) : ∀ i j : Nat, lcp f g i j k ≤ k := by
  induction k with
  | zero => intro i j; exact Nat.le_refl _
  | succ k ih =>
    intro i j
    unfold lcp
    split
    · have := ih (i + 1) (j + 1); omega
    · omega
theorem lr_le' {fg fb : Nat → Int32} {ng nb p q : Nat} : lr fg fb ng nb p q ≤ nb - q := Nat.le_trans (lcp_le _ _ _ _ _) (Nat.min_le_right _ _)
theorem lr_le {fg fb : Nat → Int32} {ng nb p q : Nat} : lr fg fb ng nb p q ≤ nb := Nat.le_trans lr_le' (Nat.sub_le _ _)
theorem lr_leg {fg fb : Nat → Int32} {ng nb p q : Nat} : lr fg fb ng nb p q ≤ ng - p := Nat.le_trans (lcp_le _ _ _ _ _) (Nat.min_le_left _ _)
theorem mxR_le {r : Nat → Nat} {b : Nat} (h : ∀ q, r q ≤ b) : ∀ k, mxR r k ≤ b := by
  intro k
  induction k with
  | zero => exact Nat.zero_le _
  | succ k ih =>
    unfold mxR
    split
    · exact h k
    · exact ih
theorem mxR_f {r : Nat → Nat} {k : Nat} (h : mxR r k < r k) : mxR r (k + 1) = r k := by rw [mxR, if_pos h]
theorem mxR_t {r : Nat → Nat} {k : Nat} (h : r k ≤ mxR r k) : mxR r (k + 1) = mxR r k := by rw [mxR, if_neg (by omega)]
theorem lsQ_f {r : Nat → Nat} {k : Nat} (h : mxR r k < r k) : lsQ r (k + 1) = k := by rw [lsQ, if_pos h]
theorem lsQ_t {r : Nat → Nat} {k : Nat} (h : r k ≤ mxR r k) : lsQ r (k + 1) = lsQ r k := by rw [lsQ, if_neg (by omega)]
theorem mx_stop {r : Nat → Nat} {k : Nat} (n : Nat) (h : ∀ j, k ≤ j → j < k + n → r j ≤ mxR r k) : mxR r (k + n) = mxR r k ∧ lsQ r (k + n) = lsQ r k := by
  induction n with
  | zero => exact ⟨rfl, rfl⟩
  | succ n ih =>
    obtain ⟨h1, h2⟩ := ih (fun j a b => h j a (by omega))
    have h3 : r (k + n) ≤ mxR r (k + n) := by rw [h1]; exact h _ (by omega) (by omega)
    exact ⟨by rw [← Nat.add_assoc, mxR_t h3, h1], by rw [← Nat.add_assoc, lsQ_t h3, h2]⟩
theorem lsQ_stop {r : Nat → Nat} {k b : Nat} (hk : k ≤ b) (h : ∀ j, k ≤ j → j < b → r j ≤ mxR r k) : lsQ r b = lsQ r k := by
  have := (mx_stop (r := r) (k := k) (b - k) (fun j a c => h j a (by omega))).2
  rwa [show k + (b - k) = b by omega] at this
theorem lsQ_le (r : Nat → Nat) : ∀ k, lsQ r k ≤ k := by
  intro k
  induction k with
  | zero => exact Nat.le_refl _
  | succ k ih =>
    unfold lsQ
    split <;> omega
theorem mxR_max (r : Nat → Nat) : ∀ k j, j < k → r j ≤ mxR r k := by
  intro k
  induction k with
  | zero => intro j h; omega
  | succ k ih =>
    intro j h
    rcases Nat.lt_or_ge j k with q | q
    · have := ih j q
      unfold mxR
      split <;> omega
    · have e : j = k := by omega
      subst e
      unfold mxR
      split <;> omega
theorem lsQ_at (r : Nat → Nat) (h0 : r 0 = 0 ∨ 0 < 1) : ∀ k, 0 < mxR r k → r (lsQ r k) = mxR r k ∧ lsQ r k < k := by
  intro k
  induction k with
  | zero => intro h; exact absurd h (Nat.lt_irrefl _)
  | succ k ih =>
    intro h
    rcases Nat.lt_or_ge (mxR r k) (r k) with q | q
    · rw [mxR_f q, lsQ_f q]; exact ⟨rfl, Nat.lt_succ_self _⟩
    · rw [mxR_t q, lsQ_t q] at *
      obtain ⟨a, b⟩ := ih h
      exact ⟨a, by omega⟩
/-- the steps, from place p on, with so many turns left -/
def layF (r : Nat → Nat → Nat) (nb ng : Nat) : Nat → Nat → (Nat → Int) → (Nat → Int) → (Nat → Int) → Nat → (Nat → Int) × (Nat → Int) × (Nat → Int) × Nat
  | 0, _, P, L, S, cnt => (P, L, S, cnt)
  | t + 1, p, P, L, S, cnt =>
    if p < ng then
      if 4 ≤ mxR (r p) nb then layF r nb ng t (p + mxR (r p) nb) (uZ P cnt ((p : Nat) : Int)) (uZ L cnt ((mxR (r p) nb : Nat) : Int)) (uZ S cnt ((lsQ (r p) nb : Nat) : Int)) (cnt + 1)
      else layF r nb ng t (p + 1) (adB P L S cnt p).1 (adB P L S cnt p).2.1 (adB P L S cnt p).2.2.1 (adB P L S cnt p).2.2.2
    else (P, L, S, cnt)
theorem layF_c {r : Nat → Nat → Nat} {nb ng t p : Nat} {P L S : Nat → Int} {cnt : Nat} (ht : t < 300) (h : p < ng) (h4 : 4 ≤ mxR (r p) nb) : layF r nb ng (300 - t) p P L S cnt = layF r nb ng (300 - (t + 1)) (p + mxR (r p) nb) (uZ P cnt ((p : Nat) : Int)) (uZ L cnt ((mxR (r p) nb : Nat) : Int)) (uZ S cnt ((lsQ (r p) nb : Nat) : Int)) (cnt + 1) := by
  rw [show 300 - t = (300 - (t + 1)) + 1 by omega, layF, if_pos h, if_pos h4]
theorem layF_a {r : Nat → Nat → Nat} {nb ng t p : Nat} {P L S : Nat → Int} {cnt : Nat} (ht : t < 300) (h : p < ng) (h4 : ¬ 4 ≤ mxR (r p) nb) : layF r nb ng (300 - t) p P L S cnt = layF r nb ng (300 - (t + 1)) (p + 1) (adB P L S cnt p).1 (adB P L S cnt p).2.1 (adB P L S cnt p).2.2.1 (adB P L S cnt p).2.2.2 := by
  rw [show 300 - t = (300 - (t + 1)) + 1 by omega, layF, if_pos h, if_neg h4]
theorem layF_e {r : Nat → Nat → Nat} {nb ng t p : Nat} {P L S : Nat → Int} {cnt : Nat} (h : t = 0 ∨ ¬ p < ng) : layF r nb ng t p P L S cnt = (P, L, S, cnt) := by
  cases t with
  | zero => rfl
  | succ t => rw [layF, if_neg (by omega)]
/-- what holds of steps while they are laid out -/
def LW (P L S : Nat → Int) (cnt nb p : Nat) : Prop :=
  (∀ i, i < cnt → 0 ≤ P i ∧ 1 ≤ L i ∧ P i + L i ≤ p ∧ ((S i = -1 ∧ L i ≤ 40) ∨ (0 ≤ S i ∧ 4 ≤ L i ∧ S i + L i ≤ nb))) ∧ (∀ i, i + 1 < cnt → P (i + 1) = P i + L i) ∧ (0 < cnt → P 0 = 0 ∧ P (cnt - 1) + L (cnt - 1) = p) ∧ (cnt = 0 → p = 0) ∧ cnt ≤ p
theorem LW_0 (P L S : Nat → Int) (nb : Nat) : LW P L S 0 nb 0 := ⟨fun i h => absurd h (Nat.not_lt_zero _), fun i h => absurd h (Nat.not_lt_zero _), fun h => absurd h (Nat.lt_irrefl _), fun _ => rfl, Nat.le_refl _⟩
theorem LW_push {P L S : Nat → Int} {cnt nb p : Nat} {x : Nat} {v : Int} (h : LW P L S cnt nb p) (hx : 1 ≤ x) (hv : (v = -1 ∧ x ≤ 40) ∨ (0 ≤ v ∧ 4 ≤ x ∧ v + x ≤ nb)) : LW (uZ P cnt ((p : Nat) : Int)) (uZ L cnt ((x : Nat) : Int)) (uZ S cnt v) (cnt + 1) nb (p + x) := by
  obtain ⟨h1, h2, h3, h4, h5⟩ := h
  refine ⟨fun i hi => ?_, fun i hi => ?_, fun _ => ⟨?_, ?_⟩, fun h => absurd h (Nat.succ_ne_zero _), by omega⟩
  · rcases Nat.lt_or_ge i cnt with q | q
    · rw [uZ_n (by omega), uZ_n (by omega), uZ_n (by omega)]
      have := h1 i q
      omega
    · obtain rfl : i = cnt := by omega
      rw [uZ_s, uZ_s, uZ_s]
      omega
  · rcases Nat.lt_or_ge (i + 1) cnt with q | q
    · rw [uZ_n (by omega), uZ_n (by omega), uZ_n (by omega)]
      exact h2 i q
    · obtain rfl : i + 1 = cnt := by omega
      rw [uZ_s, uZ_n (by omega), uZ_n (by omega)]
      have := (h3 (by omega)).2
      rw [Nat.add_sub_cancel] at this
      omega
  · rcases Nat.eq_zero_or_pos cnt with q | q
    · subst q
      rw [uZ_s, h4 rfl]
      rfl
    · rw [uZ_n (by omega)]
      exact (h3 q).1
  · rw [Nat.add_sub_cancel, uZ_s, uZ_s]
    omega
theorem LW_inc {P L S : Nat → Int} {cnt nb p : Nat} (h : LW P L S cnt nb p) (h0 : 0 < cnt) (hS : S (cnt - 1) = -1) (hL : L (cnt - 1) < 40) : LW P (uZ L (cnt - 1) (L (cnt - 1) + 1)) S cnt nb (p + 1) := by
  obtain ⟨h1, h2, h3, h4, h5⟩ := h
  have e := h3 h0
  refine ⟨fun i hi => ?_, fun i hi => ?_, fun _ => ⟨e.1, ?_⟩, fun h => by omega, by omega⟩
  · have := h1 i hi
    by_cases q : i = cnt - 1
    · subst q
      rw [uZ_s]
      omega
    · rw [uZ_n q]
      omega
  · rw [uZ_n (by omega)]
    exact h2 i hi
  · rw [uZ_s]
    omega
theorem LW_adB {P L S : Nat → Int} {cnt nb p : Nat} (h : LW P L S cnt nb p) : LW (adB P L S cnt p).1 (adB P L S cnt p).2.1 (adB P L S cnt p).2.2.1 (adB P L S cnt p).2.2.2 nb (p + 1) := by
  unfold adB
  split
  next q => exact LW_inc h q.1 q.2.1 q.2.2
  next q => exact LW_push (x := 1) h (Nat.le_refl _) (Or.inl ⟨rfl, by omega⟩)
theorem lr_at {fg fb : Nat → Int32} {ng nb p : Nat} : lr fg fb ng nb p (lsQ (lr fg fb ng nb p) nb) = mxR (lr fg fb ng nb p) nb := by
  rcases Nat.eq_zero_or_pos (mxR (lr fg fb ng nb p) nb) with h | h
  · rw [h]
    rcases Nat.lt_or_ge (lsQ (lr fg fb ng nb p) nb) nb with q | q
    · have := mxR_max (lr fg fb ng nb p) nb _ q
      omega
    · have := lr_le' (fg := fg) (fb := fb) (ng := ng) (nb := nb) (p := p) (q := lsQ (lr fg fb ng nb p) nb)
      omega
  · exact (lsQ_at _ (Or.inr (by decide)) nb h).1
theorem adB_c (P L S : Nat → Int) (cnt p : Nat) : (adB P L S cnt p).2.2.2 ≤ cnt + 1 := by
  unfold adB
  split <;> simp
/-! the patch's bytes -/
def zz (v : Int) : Nat := if v < 0 then (-2 * v - 1).toNat else (2 * v).toNat
def stB (fg : Nat → Int32) (P L S : Nat → Int) (i : Nat) (bh : Int) : List Int32 := if S i = -1 then vb 3 (2 * L i).toNat ++ sl fg (P i).toNat (L i).toNat else vb 3 (2 * L i + 1).toNat ++ vb 3 (zz (S i - bh))
def bhN (L S : Nat → Int) (i : Nat) (bh : Int) : Int := if S i = -1 then bh else S i + L i
def wrS (fg : Nat → Int32) (P L S : Nat → Int) : Nat → Nat → Int → List Int32
  | 0, _, _ => []
  | n + 1, i, bh => stB fg P L S i bh ++ wrS fg P L S n (i + 1) (bhN L S i bh)
def hdB (fb fg : Nat → Int32) (nb ng : Nat) : List Int32 := vb 3 nb ++ vb 3 ng ++ wL (dg fb nb) ++ wL (dg fg ng)
theorem wrS_s {fg : Nat → Int32} {P L S : Nat → Int} {cnt i : Nat} {bh : Int} (h : i < cnt) : wrS fg P L S (cnt - i) i bh = stB fg P L S i bh ++ wrS fg P L S (cnt - (i + 1)) (i + 1) (bhN L S i bh) := by
  rw [show cnt - i = (cnt - (i + 1)) + 1 by omega, wrS]
/-- where the steps before end -/
def eP (P L : Nat → Int) (i : Nat) : Int := if i = 0 then 0 else P (i - 1) + L (i - 1)
theorem eP_s (P L : Nat → Int) (i : Nat) : eP P L (i + 1) = P i + L i := by simp [eP]
theorem LW_eP {P L S : Nat → Int} {cnt nb p i : Nat} (h : LW P L S cnt nb p) (hi : i < cnt) : P i = eP P L i := by
  unfold eP
  split
  next q => subst q; exact (h.2.2.1 hi).1
  next q =>
    have := h.2.1 (i - 1) (by omega)
    rw [show i - 1 + 1 = i by omega] at this
    exact this
theorem vb_1 {t v : Nat} (h : v ≤ 127) : (vb t v).length = 1 := by
  cases t with
  | zero => rfl
  | succ t => rw [vb, if_neg (by omega)]; rfl
theorem stB_len {fg : Nat → Int32} {P L S : Nat → Int} {cnt nb p i : Nat} (h : LW P L S cnt nb p) (hi : i < cnt) (bh : Int) : ((stB fg P L S i bh).length : Int) ≤ 2 * L i := by
  have h1 := h.1 i hi
  unfold stB
  split
  next q =>
    rw [List.length_append, sl_len, vb_1 (by omega)]
    omega
  next q =>
    rw [List.length_append]
    have a := (vb_len 3 (2 * L i + 1).toNat).1
    have b := (vb_len 3 (zz (S i - bh))).1
    omega
theorem hdB_len (fb fg : Nat → Int32) (nb ng : Nat) : (hdB fb fg nb ng).length ≤ 16 := by
  have a := (vb_len 3 nb).1
  have b := (vb_len 3 ng).1
  simp [hdB, wL]
  omega
theorem zz_lt {v : Int} (h : -400 ≤ v ∧ v ≤ 400) : zz v < 1000 := by
  unfold zz
  split <;> omega
theorem apL0 {f : Nat → Int32} {L M : List Int32} : apL (apL f 0 L) L.length M = apL f 0 (L ++ M) := by
  have := apL_app f 0 L M
  rwa [Nat.zero_add] at this
theorem len_v {T X : List Int32} : iI ((T.length + X.length : Nat) : Int) = iI (((T ++ X).length : Nat) : Int) := by rw [List.length_append]
theorem len_w {T : List Int32} {w : Int32} : iI ((T.length + 4 : Nat) : Int) = iI (((T ++ wL w).length : Nat) : Int) := by rw [List.length_append]; rfl
theorem len_s {T : List Int32} {g : Nat → Int32} {st k : Nat} : iI ((T.length + k : Nat) : Int) = iI (((T ++ sl g st k).length : Nat) : Int) := by rw [List.length_append, sl_len]
