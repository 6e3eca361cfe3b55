/-! applying: the patch's bytes as numbers F -/
def kN (F : Nat → Nat) : Nat → Int32 := fun i => iI ((F i : Nat) : Int)
def rK (F : Nat → Nat) (n k : Nat) : Int := if k < n then ((F k : Nat) : Int) else -1
theorem rK_in {F : Nat → Nat} {n k : Nat} (h : k < n) : rK F n k = ((F k : Nat) : Int) := by rw [rK, if_pos h]
theorem rK_lt {F : Nat → Nat} {n k : Nat} (h : rK F n k ≠ -1) : k < n := by
  unfold rK at h
  split at h
  · assumption
  · exact absurd rfl h
theorem rK_rng {F : Nat → Nat} {n k : Nat} (h : ∀ j, j < n → F j < 256) : -1 ≤ rK F n k ∧ rK F n k ≤ 255 := by
  unfold rK
  split
  · rename_i q
    have := h k q
    omega
  · omega
theorem rAt_kN {F : Nat → Nat} {n k : Nat} : rAt (kN F) n ((k : Nat) : Int) = iI (rK F n k) := by
  unfold rAt rK kN
  by_cases h : k < n
  · rw [if_pos (by omega), if_pos h]
    rfl
  · rw [if_neg (by omega), if_neg h]
/-- a number out of bytes of seven bits; -1 where it isn't one; and how far it was read -/
def rvF (F : Nat → Nat) (n : Nat) : Nat → Nat → Nat → Nat → Int × Nat
  | 0, _, _, a => (-1, a)
  | t + 1, k, acc, a => if a < n then (if F a < 128 then ((if F a = 0 ∧ 0 < k then -1 else ((acc + F a % 128 * 128 ^ k : Nat) : Int)), a + 1) else rvF F n t (k + 1) (acc + F a % 128 * 128 ^ k) (a + 1)) else (-1, a)
theorem rvF_go {F : Nat → Nat} {n k acc a : Nat} (hk : k < 4) (ha : a < n) (hb : ¬ F a < 128) : rvF F n (4 - k) k acc a = rvF F n (4 - (k + 1)) (k + 1) (acc + F a % 128 * 128 ^ k) (a + 1) := by
  rw [show 4 - k = (4 - (k + 1)) + 1 by omega, rvF, if_pos ha, if_neg hb]
theorem rvF_out {F : Nat → Nat} {n k acc a : Nat} (hk : k < 4) (ha : ¬ a < n) : rvF F n (4 - k) k acc a = (-1, a) := by
  rw [show 4 - k = (4 - (k + 1)) + 1 by omega, rvF, if_neg ha]
theorem rvF_z {F : Nat → Nat} {n k acc a : Nat} (hk : k < 4) (ha : a < n) (hb : F a = 0) (h0 : 0 < k) : rvF F n (4 - k) k acc a = (-1, a + 1) := by
  rw [show 4 - k = (4 - (k + 1)) + 1 by omega, rvF, if_pos ha, if_pos (by omega), if_pos ⟨hb, h0⟩]
theorem rvF_v {F : Nat → Nat} {n k acc a : Nat} (hk : k < 4) (ha : a < n) (hb : F a < 128) (h0 : ¬ (F a = 0 ∧ 0 < k)) : rvF F n (4 - k) k acc a = (((acc + F a % 128 * 128 ^ k : Nat) : Int), a + 1) := by
  rw [show 4 - k = (4 - (k + 1)) + 1 by omega, rvF, if_pos ha, if_pos hb, if_neg h0]
theorem pw_le {k : Nat} (h : k ≤ 4) : 128 ^ k ≤ 268435456 := by
  have : k = 0 ∨ k = 1 ∨ k = 2 ∨ k = 3 ∨ k = 4 := by omega
  rcases this with rfl | rfl | rfl | rfl | rfl <;> decide
theorem pw_acc {k acc b : Nat} (h : acc < 128 ^ k) : acc + b % 128 * 128 ^ k < 128 ^ (k + 1) := by
  have h1 : b % 128 + 1 ≤ 128 := Nat.mod_lt _ (by decide)
  have h2 : (b % 128 + 1) * 128 ^ k ≤ 128 * 128 ^ k := Nat.mul_le_mul_right _ h1
  rw [Nat.pow_succ, Nat.mul_comm (128 ^ k) 128]
  rw [Nat.add_mul, Nat.one_mul] at h2
  omega
theorem rvF_rng {F : Nat → Nat} {n : Nat} : ∀ (t k acc a : Nat), t + k ≤ 4 → acc < 128 ^ k → -1 ≤ (rvF F n t k acc a).1 ∧ (rvF F n t k acc a).1 < 268435456 ∧ a ≤ (rvF F n t k acc a).2 ∧ (a ≤ n → (rvF F n t k acc a).2 ≤ n) := by
  intro t
  induction t with
  | zero => intro k acc a h1 h2; exact ⟨by simp [rvF], by simp [rvF], by simp [rvF], fun h => by simpa [rvF] using h⟩
  | succ t ih =>
    intro k acc a h1 h2
    have h3 := pw_acc (b := F a) h2
    have h4 := pw_le (k := k + 1) (by omega)
    unfold rvF
    split
    · split
      · split
        · exact ⟨by omega, by omega, Nat.le_succ _, fun _ => by omega⟩
        · exact ⟨by omega, by omega, Nat.le_succ _, fun _ => by omega⟩
      · obtain ⟨g1, g2, g3, g4⟩ := ih (k + 1) (acc + F a % 128 * 128 ^ k) (a + 1) (by omega) h3
        exact ⟨g1, g2, by omega, fun _ => g4 (by omega)⟩
    · exact ⟨by omega, by omega, Nat.le_refl _, fun h => h⟩
/-- the whole number from a on -/
abbrev rv (F : Nat → Nat) (n a : Nat) : Int × Nat := rvF F n 4 0 0 a
theorem rv_rng (F : Nat → Nat) (n a : Nat) : -1 ≤ (rv F n a).1 ∧ (rv F n a).1 < 268435456 ∧ a ≤ (rv F n a).2 ∧ (a ≤ n → (rv F n a).2 ≤ n) := rvF_rng 4 0 0 a (by decide) (by decide)
theorem b_vor {k acc b : Nat} (hk : k < 4) (ha : acc < 128 ^ k) (hb : b < 128) : iI ((acc : Nat) : Int) ||| (iI ((b : Nat) : Int) <<< (iI ((7 * k : Nat) : Int) &&& 31)) = iI ((acc + b * 128 ^ k : Nat) : Int) := by
  have e : ∀ j, j < 4 → ((iI ((7 * j : Nat) : Int) &&& 31).toBitVec.smod 32).toNat = 7 * j := by decide +kernel
  have p7 : 128 ^ k = 2 ^ (7 * k) := by rw [Nat.pow_mul]
  have h4 : 128 ^ k * 128 ≤ 268435456 := by
    have := pw_le (k := k + 1) (by omega)
    rwa [Nat.pow_succ] at this
  have hbk : b * 2 ^ (7 * k) < 2 ^ 31 := by
    rw [← p7]
    have : b * 128 ^ k ≤ 127 * 128 ^ k := Nat.mul_le_mul_right _ (by omega)
    omega
  have s1 : iI ((b : Nat) : Int) <<< (iI ((7 * k : Nat) : Int) &&& 31) = nI (b * 2 ^ (7 * k)) := by
    rw [← iI_nI b]
    exact pk_shlN _ (7 * k) (e k hk) (by omega)
  rw [s1, ← iI_nI, ← iI_nI]
  apply Int32.toBitVec.inj
  rw [Int32.toBitVec_or]
  apply BitVec.eq_of_toNat_eq
  have ha2 : acc < 2 ^ (7 * k) := by rw [← p7]; exact ha
  have hs : acc + b * 128 ^ k < 2 ^ 31 := by
    rw [p7]
    have : acc + b * 128 ^ k < 128 ^ (k + 1) := by
      have := pw_acc (b := b) ha
      rwa [Nat.mod_eq_of_lt hb] at this
    rw [Nat.pow_succ, p7] at this
    rw [p7] at h4
    omega
  have q4 : 128 ^ k ≤ 268435456 := pw_le (by omega)
  rw [BitVec.toNat_or, pk_tn (by omega), pk_tn (by omega), pk_tn (by omega), p7]
  have := Nat.shiftLeft_add_eq_or_of_lt ha2 b
  rw [Nat.shiftLeft_eq] at this
  rw [Nat.or_comm, ← this, Nat.add_comm]
/-- a word out of four bytes -/
def rdW (F : Nat → Nat) (a : Nat) : Nat → Int32
  | 0 => iI 0
  | k + 1 => (rdW F a k <<< (iI (8 : Int) &&& 31)) ||| (iI ((F (a + k) : Nat) : Int) &&& iI (255 : Int))
theorem b_and1 {v : Nat} (h : v < 2147483648) : iI ((v : Nat) : Int) &&& iI (1 : Int) = iI ((v % 2 : Nat) : Int) := by
  rw [← iI_nI, ← iI_nI]
  exact pk_andN (by omega) 1 (by decide)
theorem b_ushr1 {v : Nat} (h : v < 2147483648) : ((iI ((v : Nat) : Int)).toUInt32 >>> ((iI (1 : Int)).toUInt32 &&& Int32.toUInt32 31)).toInt32 = iI ((v / 2 : Nat) : Int) := by
  rw [← iI_nI, ← iI_nI]
  exact pk_ushrN (by omega) (iI 1) 1 (by decide)
/-- with its sign -/
def uz (z : Nat) : Int := if z % 2 = 0 then ((z / 2 : Nat) : Int) else -((z / 2 : Nat) : Int) - 1
/-- a step that adds, one that copies, the next one, all of them: what is told, how far it was read, what lies behind, the output -/
abbrev ApR : Type := Int × Nat × Nat × List Int32
def adF (F : Nat → Nat) (n3 : Nat) (ds : Int) (a bh : Nat) (T : List Int32) (len : Nat) : ApR := if n3 - a < len then (-1, a, bh, T) else if ds - T.length < len then (-6, a, bh, T) else (0, a + len, bh, T ++ sl (kN F) a len)
def cpF (F : Nat → Nat) (n3 : Nat) (f1 : Nat → Int32) (n1 : Nat) (ds : Int) (a bh : Nat) (T : List Int32) (len : Nat) : ApR :=
  if (rv F n3 a).1 = -1 then (-1, (rv F n3 a).2, bh, T)
  else if (bh : Int) + uz (rv F n3 a).1.toNat < 0 ∨ (n1 : Int) - ((bh : Int) + uz (rv F n3 a).1.toNat) < len then (-5, (rv F n3 a).2, bh, T)
  else if ds - T.length < len then (-6, (rv F n3 a).2, bh, T)
  else (0, (rv F n3 a).2, ((bh : Int) + uz (rv F n3 a).1.toNat).toNat + len, T ++ sl f1 ((bh : Int) + uz (rv F n3 a).1.toNat).toNat len)
def nxF (F : Nat → Nat) (n3 : Nat) (f1 : Nat → Int32) (n1 : Nat) (ds : Int) (a bh : Nat) (T : List Int32) : ApR :=
  if (rv F n3 a).1 = -1 then (-1, (rv F n3 a).2, bh, T)
  else if (rv F n3 a).1.toNat / 2 = 0 then (-1, (rv F n3 a).2, bh, T)
  else if (rv F n3 a).1.toNat % 2 = 0 then adF F n3 ds (rv F n3 a).2 bh T ((rv F n3 a).1.toNat / 2)
  else cpF F n3 f1 n1 ds (rv F n3 a).2 bh T ((rv F n3 a).1.toNat / 2)
def alF (F : Nat → Nat) (n3 : Nat) (f1 : Nat → Int32) (n1 : Nat) (ds : Int) : Nat → Nat → Nat → List Int32 → ApR
  | 0, a, bh, T => (0, a, bh, T)
  | t + 1, a, bh, T => if a < n3 then (if (nxF F n3 f1 n1 ds a bh T).1 = 0 then alF F n3 f1 n1 ds t (nxF F n3 f1 n1 ds a bh T).2.1 (nxF F n3 f1 n1 ds a bh T).2.2.1 (nxF F n3 f1 n1 ds a bh T).2.2.2 else nxF F n3 f1 n1 ds a bh T) else (0, a, bh, T)
/-- what such a step keeps -/
def ApW (n3 n1 : Nat) (ds : Int) (x : ApR) : Prop := (-8 ≤ x.1 ∧ x.1 ≤ 0) ∧ x.2.1 ≤ n3 ∧ x.2.2.1 ≤ n1 ∧ (x.2.2.2.length : Int) ≤ ds
theorem adF_w {F : Nat → Nat} {n3 n1 : Nat} {ds : Int} {a bh : Nat} {T : List Int32} {len : Nat} (h1 : a ≤ n3) (h2 : bh ≤ n1) (h3 : (T.length : Int) ≤ ds) : ApW n3 n1 ds (adF F n3 ds a bh T len) := by
  unfold adF
  split
  · exact ⟨⟨by omega, by omega⟩, h1, h2, h3⟩
  · split
    · exact ⟨⟨by omega, by omega⟩, h1, h2, h3⟩
    · refine ⟨⟨by omega, by omega⟩, ?_, h2, ?_⟩
      · show a + len ≤ n3
        omega
      · show ((T ++ sl (kN F) a len).length : Int) ≤ ds
        rw [List.length_append, sl_len]
        omega
theorem cpF_w {F : Nat → Nat} {n3 n1 : Nat} {f1 : Nat → Int32} {ds : Int} {a bh : Nat} {T : List Int32} {len : Nat} (h1 : a ≤ n3) (h2 : bh ≤ n1) (h3 : (T.length : Int) ≤ ds) : ApW n3 n1 ds (cpF F n3 f1 n1 ds a bh T len) := by
  have hr := (rv_rng F n3 a).2.2.2 h1
  unfold cpF
  split
  · exact ⟨⟨by omega, by omega⟩, hr, h2, h3⟩
  · split
    · exact ⟨⟨by omega, by omega⟩, hr, h2, h3⟩
    · split
      · exact ⟨⟨by omega, by omega⟩, hr, h2, h3⟩
      · refine ⟨⟨by omega, by omega⟩, hr, ?_, ?_⟩
        · show _ + len ≤ n1
          omega
        · show ((T ++ sl f1 _ len).length : Int) ≤ ds
          rw [List.length_append, sl_len]
          omega
theorem nxF_w {F : Nat → Nat} {n3 n1 : Nat} {f1 : Nat → Int32} {ds : Int} {a bh : Nat} {T : List Int32} (h1 : a ≤ n3) (h2 : bh ≤ n1) (h3 : (T.length : Int) ≤ ds) : ApW n3 n1 ds (nxF F n3 f1 n1 ds a bh T) := by
  have hr := (rv_rng F n3 a).2.2.2 h1
  unfold nxF
  split
  · exact ⟨⟨by omega, by omega⟩, hr, h2, h3⟩
  · split
    · exact ⟨⟨by omega, by omega⟩, hr, h2, h3⟩
    · split
      · exact adF_w hr h2 h3
      · exact cpF_w hr h2 h3
theorem alF_go {F : Nat → Nat} {n3 n1 t : Nat} {f1 : Nat → Int32} {ds : Int} {a bh : Nat} {T : List Int32} (ht : t < 900) (h : a < n3) (h0 : (nxF F n3 f1 n1 ds a bh T).1 = 0) : alF F n3 f1 n1 ds (900 - t) a bh T = alF F n3 f1 n1 ds (900 - (t + 1)) (nxF F n3 f1 n1 ds a bh T).2.1 (nxF F n3 f1 n1 ds a bh T).2.2.1 (nxF F n3 f1 n1 ds a bh T).2.2.2 := by
  rw [show 900 - t = (900 - (t + 1)) + 1 by omega, alF, if_pos h, if_pos h0]
theorem alF_no {F : Nat → Nat} {n3 n1 t : Nat} {f1 : Nat → Int32} {ds : Int} {a bh : Nat} {T : List Int32} (ht : t < 900) (h : a < n3) (h0 : ¬ (nxF F n3 f1 n1 ds a bh T).1 = 0) : alF F n3 f1 n1 ds (900 - t) a bh T = nxF F n3 f1 n1 ds a bh T := by
  rw [show 900 - t = (900 - (t + 1)) + 1 by omega, alF, if_pos h, if_neg h0]
theorem alF_e {F : Nat → Nat} {n3 n1 t : Nat} {f1 : Nat → Int32} {ds : Int} {a bh : Nat} {T : List Int32} (h : t = 0 ∨ ¬ a < n3) : alF F n3 f1 n1 ds t a bh T = (0, a, bh, T) := by
  cases t with
  | zero => rfl
  | succ t => rw [alF, if_neg (by omega)]
theorem b_and1' {z : Int} (h : 0 ≤ z ∧ z < 2147483648) : iI z &&& iI (1 : Int) = iI ((z.toNat % 2 : Nat) : Int) := by
  obtain ⟨n, rfl⟩ := Int.eq_ofNat_of_zero_le h.1
  exact b_and1 (by omega)
theorem b_ushr1' {z : Int} (h : 0 ≤ z ∧ z < 2147483648) : ((iI z).toUInt32 >>> ((iI (1 : Int)).toUInt32 &&& Int32.toUInt32 31)).toInt32 = iI ((z.toNat / 2 : Nat) : Int) := by
  obtain ⟨n, rfl⟩ := Int.eq_ofNat_of_zero_le h.1
  exact b_ushr1 (by omega)
theorem uz_rng {z : Nat} (h : z < 268435456) : -134217729 ≤ uz z ∧ uz z ≤ 134217728 := by
  unfold uz
  split <;> omega
theorem al_step {F : Nat → Nat} {n3 n1 t : Nat} {f1 : Nat → Int32} {ds : Int} {a bh : Nat} {T : List Int32} {x : ApR} (ht : t < 900) (h : a < n3) (hR : alF F n3 f1 n1 ds (900 - t) a bh T = x) :
    ((nxF F n3 f1 n1 ds a bh T).1 = 0 ∧ alF F n3 f1 n1 ds (900 - (t + 1)) (nxF F n3 f1 n1 ds a bh T).2.1 (nxF F n3 f1 n1 ds a bh T).2.2.1 (nxF F n3 f1 n1 ds a bh T).2.2.2 = x) ∨ (¬ (nxF F n3 f1 n1 ds a bh T).1 = 0 ∧ nxF F n3 f1 n1 ds a bh T = x) := by
  by_cases h0 : (nxF F n3 f1 n1 ds a bh T).1 = 0
  · exact Or.inl ⟨h0, by rw [← alF_go ht h h0]; exact hR⟩
  · exact Or.inr ⟨h0, by rw [← alF_no ht h h0]; exact hR⟩
/-- the check of a list -/
def dgL (T : List Int32) : Int32 := T.foldl dgS (iI 0)
theorem dg_rl (f : Nat → Int32) (n : Nat) : dg f n = dgL (rl f n) := by
  induction n with
  | zero => rfl
  | succ n ih =>
    have e : rl f (n + 1) = rl f n ++ [f n] := by
      unfold rl
      rw [sl_succ, Nat.zero_add]
    rw [e, dg, ih, dgL, dgL, List.foldl_append]
    rfl
theorem rl_ap0 (f : Nat → Int32) (T : List Int32) : rl (apL f 0 T) T.length = T := by
  have := rl_ap f 0 T
  rw [Nat.zero_add] at this
  rw [this]
  rfl
theorem dg_ap0 (f : Nat → Int32) (T : List Int32) : dg (apL f 0 T) T.length = dgL T := by rw [dg_rl, rl_ap0]
def jdF (ds : Int) (dc : Int32) (T : List Int32) : Int := if (T.length : Int) < ds then -7 else if dgL T = dc then 0 else -8
/-- the head: what is told, how far it was read, the size and the check that are due -/
def hdF (F : Nat → Nat) (n3 : Nat) (f1 : Nat → Int32) (n1 : Nat) (ds : Int) (dc : Int32) : Int × Nat × Int × Int32 :=
  if (rv F n3 0).1 = -1 then (-1, (rv F n3 0).2, ds, dc)
  else if (rv F n3 (rv F n3 0).2).1 = -1 ∨ n3 - (rv F n3 (rv F n3 0).2).2 < 8 then (-1, (rv F n3 (rv F n3 0).2).2, (rv F n3 (rv F n3 0).2).1, dc)
  else (if ¬ (rv F n3 0).1 = n1 then -2 else if ¬ rdW F (rv F n3 (rv F n3 0).2).2 4 = dg f1 n1 then -3 else if 300 < (rv F n3 (rv F n3 0).2).1 then -4 else 0, (rv F n3 (rv F n3 0).2).2 + 8, (rv F n3 (rv F n3 0).2).1, rdW F ((rv F n3 (rv F n3 0).2).2 + 4) 4)
def apRun (F : Nat → Nat) (n3 : Nat) (f1 : Nat → Int32) (n1 : Nat) : Int × List Int32 :=
  if ¬ (hdF F n3 f1 n1 0 0).1 = 0 then ((hdF F n3 f1 n1 0 0).1, [])
  else if ¬ (alF F n3 f1 n1 (hdF F n3 f1 n1 0 0).2.2.1 900 (hdF F n3 f1 n1 0 0).2.1 0 []).1 = 0 then ((alF F n3 f1 n1 (hdF F n3 f1 n1 0 0).2.2.1 900 (hdF F n3 f1 n1 0 0).2.1 0 []).1, [])
  else if ¬ jdF (hdF F n3 f1 n1 0 0).2.2.1 (hdF F n3 f1 n1 0 0).2.2.2 (alF F n3 f1 n1 (hdF F n3 f1 n1 0 0).2.2.1 900 (hdF F n3 f1 n1 0 0).2.1 0 []).2.2.2 = 0 then (jdF (hdF F n3 f1 n1 0 0).2.2.1 (hdF F n3 f1 n1 0 0).2.2.2 (alF F n3 f1 n1 (hdF F n3 f1 n1 0 0).2.2.1 900 (hdF F n3 f1 n1 0 0).2.1 0 []).2.2.2, [])
  else (((alF F n3 f1 n1 (hdF F n3 f1 n1 0 0).2.2.1 900 (hdF F n3 f1 n1 0 0).2.1 0 []).2.2.2.length : Int), (alF F n3 f1 n1 (hdF F n3 f1 n1 0 0).2.2.1 900 (hdF F n3 f1 n1 0 0).2.1 0 []).2.2.2)
/-- what was due before doesn't matter -/
theorem hdF_any (F : Nat → Nat) (n3 : Nat) (f1 : Nat → Int32) (n1 : Nat) (ds : Int) (dc : Int32) : (hdF F n3 f1 n1 ds dc).1 = (hdF F n3 f1 n1 0 0).1 ∧ ((hdF F n3 f1 n1 ds dc).1 = 0 → hdF F n3 f1 n1 ds dc = hdF F n3 f1 n1 0 0) := by
  unfold hdF
  by_cases h1 : (rv F n3 0).1 = -1
  · rw [if_pos h1, if_pos h1]
    exact ⟨rfl, fun h => absurd (show (-1 : Int) = 0 from h) (by decide)⟩
  · rw [if_neg h1, if_neg h1]
    by_cases h2 : (rv F n3 (rv F n3 0).2).1 = -1 ∨ n3 - (rv F n3 (rv F n3 0).2).2 < 8
    · rw [if_pos h2, if_pos h2]
      exact ⟨rfl, fun h => absurd (show (-1 : Int) = 0 from h) (by decide)⟩
    · rw [if_neg h2, if_neg h2]
      exact ⟨rfl, fun _ => rfl⟩
theorem hdF_w {F : Nat → Nat} {n3 : Nat} {f1 : Nat → Int32} {n1 : Nat} {ds : Int} {dc : Int32} : (-4 ≤ (hdF F n3 f1 n1 ds dc).1 ∧ (hdF F n3 f1 n1 ds dc).1 ≤ 0) ∧ ((hdF F n3 f1 n1 ds dc).1 = 0 → (hdF F n3 f1 n1 ds dc).2.1 ≤ n3 ∧ 0 ≤ (hdF F n3 f1 n1 ds dc).2.2.1 ∧ (hdF F n3 f1 n1 ds dc).2.2.1 ≤ 300) := by
  have r1 := rv_rng F n3 0
  have r2 := rv_rng F n3 (rv F n3 0).2
  unfold hdF
  by_cases h1 : (rv F n3 0).1 = -1
  · rw [if_pos h1]
    exact ⟨by dsimp only; omega, fun h => absurd (show (-1 : Int) = 0 from h) (by decide)⟩
  · rw [if_neg h1]
    by_cases h2 : (rv F n3 (rv F n3 0).2).1 = -1 ∨ n3 - (rv F n3 (rv F n3 0).2).2 < 8
    · rw [if_pos h2]
      exact ⟨by dsimp only; omega, fun h => absurd (show (-1 : Int) = 0 from h) (by decide)⟩
    · rw [if_neg h2]
      dsimp only
      split
      · exact ⟨by decide, fun h => absurd h (by decide)⟩
      · split
        · exact ⟨by decide, fun h => absurd h (by decide)⟩
        · split
          · exact ⟨by decide, fun h => absurd h (by decide)⟩
          · exact ⟨by decide, fun _ => by omega⟩
theorem alF_w {F : Nat → Nat} {n3 n1 : Nat} {f1 : Nat → Int32} {ds : Int} : ∀ (t a bh : Nat) (T : List Int32), a ≤ n3 → bh ≤ n1 → (T.length : Int) ≤ ds → ApW n3 n1 ds (alF F n3 f1 n1 ds t a bh T) := by
  intro t
  induction t with
  | zero => intro a bh T h1 h2 h3; exact ⟨⟨by simp [alF], by simp [alF]⟩, h1, h2, h3⟩
  | succ t ih =>
    intro a bh T h1 h2 h3
    have hn := nxF_w (F := F) (f1 := f1) h1 h2 h3
    unfold alF
    split
    · split
      · exact ih _ _ _ hn.2.1 hn.2.2.1 hn.2.2.2
      · exact hn
    · exact ⟨by dsimp only; omega, h1, h2, h3⟩
theorem jdF_w (ds : Int) (dc : Int32) (T : List Int32) : -8 ≤ jdF ds dc T ∧ jdF ds dc T ≤ 0 := by
  unfold jdF
  split
  · omega
  · split <;> omega
