/-! the face -/
def fdb (w : Int64) (k : Int) : Int32 := (((w.toUInt64 >>> ((iI k).toInt64.toUInt64 &&& Int64.toUInt64 63)).toInt64).toInt32) &&& iI (255 : Int)
def fdL (w : Int64) : Nat → List Int32
  | 0 => []
  | k + 1 => fdb w (8 * ((k : Nat) : Int)) :: fdL w k
theorem fdL_s {w : Int64} {k : Nat} (h : 1 ≤ k) : fdL w k = fdb w (8 * (((k : Nat) : Int) - 1)) :: fdL w (k - 1) := by
  obtain ⟨t, rfl⟩ : ∃ t, k = t + 1 := ⟨k - 1, by omega⟩
  rw [fdL, Nat.add_sub_cancel]
  congr 2
  omega
theorem fdL_len (w : Int64) (k : Nat) : (fdL w k).length = k := by
  induction k with
  | zero => rfl
  | succ k ih => simp [fdL, ih]
def szF (z : Int) (a b c d e : Nat) : Int := if z = 0 then (a : Int) else if z = 1 then (b : Int) else if z = 2 then (c : Int) else if z = 3 then (d : Int) else if z = 4 then (e : Int) else -1
def ixF (z : Int) (a b c d e f : Int32) : Int32 := if z = 0 then a else if z = 1 then b else if z = 2 then c else if z = 3 then d else if z = 4 then e else f
abbrev TkR : Type := Nat × Nat × (Nat → Int32) × Nat × (Nat → Int32) × Nat × (Nat → Int32)
/-- take: whether; then the tape's size, the first, the second, the patch -/
def tkF (z : Int) (nt : Nat) (ft : Nat → Int32) (n1 : Nat) (f1 : Nat → Int32) (n2 : Nat) (f2 : Nat → Int32) (n3 : Nat) (f3 : Nat → Int32) : Int × TkR :=
  if z = 0 ∧ nt ≤ 300 then (1, 0, nt, apL f1 0 (sl ft 0 nt), n2, f2, n3, f3)
  else if z = 1 ∧ nt ≤ 300 then (1, 0, n1, f1, nt, apL f2 0 (sl ft 0 nt), n3, f3)
  else if z = 2 ∧ nt ≤ 900 then (1, 0, n1, f1, n2, f2, nt, apL f3 0 (sl ft 0 nt))
  else (0, nt, n1, f1, n2, f2, n3, f3)
theorem layF_LW {r : Nat → Nat → Nat} {nb ng : Nat} (h1 : ∀ p, mxR (r p) nb ≤ ng - p) (h2 : ∀ p, mxR (r p) nb ≤ nb - lsQ (r p) nb) : ∀ (t p : Nat) (P L S : Nat → Int) (cnt : Nat), LW P L S cnt nb p → p ≤ ng → ng - p ≤ t → LW (layF r nb ng t p P L S cnt).1 (layF r nb ng t p P L S cnt).2.1 (layF r nb ng t p P L S cnt).2.2.1 (layF r nb ng t p P L S cnt).2.2.2 nb ng := by
  intro t
  induction t with
  | zero =>
    intro p P L S cnt h hp ht
    obtain rfl : p = ng := by omega
    exact h
  | succ t ih =>
    intro p P L S cnt h hp ht
    have a1 := h1 p
    have a2 := h2 p
    have a3 := lsQ_le (r p) nb
    by_cases hg : p < ng
    · by_cases h4 : 4 ≤ mxR (r p) nb
      · rw [layF, if_pos hg, if_pos h4]
        exact ih _ _ _ _ _ (LW_push h (by omega) (Or.inr (by omega))) (by omega) (by omega)
      · rw [layF, if_pos hg, if_neg h4]
        exact ih _ _ _ _ _ (LW_adB h) (by omega) (by omega)
    · rw [layF_e (Or.inr hg)]
      obtain rfl : p = ng := by omega
      exact h
theorem lay_LW (fg fb : Nat → Int32) {ng nb : Nat} (hg : ng ≤ 300) (P L S : Nat → Int) : LW (layF (lr fg fb ng nb) nb ng 300 0 P L S 0).1 (layF (lr fg fb ng nb) nb ng 300 0 P L S 0).2.1 (layF (lr fg fb ng nb) nb ng 300 0 P L S 0).2.2.1 (layF (lr fg fb ng nb) nb ng 300 0 P L S 0).2.2.2 nb ng := by
  refine layF_LW (fun p => mxR_le (fun q => lr_leg) nb) (fun p => ?_) 300 0 P L S 0 (LW_0 P L S nb) (Nat.zero_le _) (by omega)
  have := lr_le' (fg := fg) (fb := fb) (ng := ng) (nb := nb) (p := p) (q := lsQ (lr fg fb ng nb p) nb)
  rw [lr_at] at this
  exact this
def spF (i z : Int) (cnt : Nat) (P L S A T : Nat → Int) : Int :=
  if ¬ (0 ≤ i ∧ i < (cnt : Int)) then -1 else if z = 0 then (if S i.toNat = -1 then 0 else 1) else if z = 1 then P i.toNat else if z = 2 then L i.toNat else if z = 3 then S i.toNat else if z = 4 then (if A i.toNat = 0 then 0 else 1) else if z = 5 then T i.toNat else -1
theorem rZ_i {P : Nat → Int} {n : Nat} {z : Int} (h : 0 ≤ z ∧ z < (n : Int)) : rZ P n z = P z.toNat := by unfold rZ; rw [if_pos h]
theorem kA0 : (fun _ => (0 : Int32)) = kA (fun _ => 0) := rfl
def rnO (z : Int) (a b c d e : Nat) : Option Nat := if z = 0 then some a else if z = 1 then some b else if z = 2 then some c else if z = 3 then some d else if z = 4 then some e else none
