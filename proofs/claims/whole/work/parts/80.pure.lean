theorem gT {w : Cond} (h : w ∈ gW) : w ∈ lw_tbl := gW_tbl w h
theorem kgIL {c1 : Cond} (h5 : c1 ∈ gW) : GoodIn lw_tbl (c1 :: gW) := kgG gW_tbl h5
theorem kgVL {c1 : Cond} {own C : String} {idx : Nat} {y : MethodName} (h1 : Cond.methodLink own idx y ∈ gW) (h2 : Cond.instanceMethod y ∈ gW) (h3 : Cond.selects C y y ∈ gW) (h4 : Cond.initialized C ∈ gW) (h5 : c1 ∈ gW) : GoodIn lw_tbl (wsV own idx C y (c1 :: gW)) := kgVG gW_tbl h1 h2 h3 h4 h5
section KL
variable {p : Program} {l : Launch} {e : Env} {R : Room} {s : State} {m : MethodId} {args : Array Value} {below : List Frame} {meth : Method} {c : Code} {H : Heap} {locs : List Loc} {cells slots : Nat} {Q : State → Prop}
variable {cc : ByteArray} {pc : Nat} {ls : Array Slot} {rest : List Value} {A : Nat → Prop} {H0 : Heap}
theorem k_sld (hexec : p.tables.exec = Jvm.exec) (hb : c.code = cc) {b L : Nat} {xs : Nat → Int32} (hX : va_X b L xs s H0) (hbl : b < H0.size) (hbA : ¬ A b) (hS : va_S A H0 H locs) {z : Int} (k : Nat) (hz : (z = k ∧ k < L) ∧ L ≤ 2147483647) (hdg : decode cc pc = .ok (.iaload, 1))
    (kk : W p l e R s m args below meth c H locs cells slots Q (F0 m (pc + 1) ls (.int (iI (xs k).toInt) :: rest))) : W p l e R s m args below meth c H locs cells slots Q (F0 m pc ls (.int (iI z) :: .ref b :: rest)) := by
  have h1 : (iI z).toNatClampNeg = k := iI_cl (by omega)
  refine va_sld hexec hb hX hbl hbA hS (iI_in (by omega)) hdg ?_
  rw [h1]
  refine kn_i (y := iI (xs k).toInt) (Int32.ofInt_toInt _).symm kk
end KL
theorem tk_ok {z : Int} {nt n1 n2 n3 a b c d : Nat} {ft f1 f2 f3 g1 g2 g3 : Nat → Int32} (h : (a, b, g1, c, g2, d, g3) = (tkF z nt ft n1 f1 n2 f2 n3 f3).2) (hnt : nt ≤ 900) (h1 : n1 ≤ 300) (h2 : n2 ≤ 300) (h3 : n3 ≤ 900) (bt' : allB ft) (b1 : allB f1) (b2 : allB f2) (b3 : allB f3) : a ≤ 900 ∧ b ≤ 300 ∧ c ≤ 300 ∧ d ≤ 900 ∧ allB g1 ∧ allB g2 ∧ allB g3 := by
  unfold tkF at h
  split at h
  next q =>
    simp only [Prod.mk.injEq] at h
    obtain ⟨rfl, rfl, rfl, rfl, rfl, rfl, rfl⟩ := h
    exact ⟨by omega, by omega, h2, h3, allB_ap b1 (sl_B bt' _ _), b2, b3⟩
  next =>
    split at h
    next q =>
      simp only [Prod.mk.injEq] at h
      obtain ⟨rfl, rfl, rfl, rfl, rfl, rfl, rfl⟩ := h
      exact ⟨by omega, h1, by omega, h3, b1, allB_ap b2 (sl_B bt' _ _), b3⟩
    next =>
      split at h
      next q =>
        simp only [Prod.mk.injEq] at h
        obtain ⟨rfl, rfl, rfl, rfl, rfl, rfl, rfl⟩ := h
        exact ⟨by omega, h1, h2, by omega, b1, b2, allB_ap b3 (sl_B bt' _ _)⟩
      next =>
        simp only [Prod.mk.injEq] at h
        obtain ⟨rfl, rfl, rfl, rfl, rfl, rfl, rfl⟩ := h
        exact ⟨hnt, h1, h2, h3, b1, b2, b3⟩
theorem wrS_len {fg : Nat → Int32} {P L S : Nat → Int} {cnt nb ng : Nat} (hW : LW P L S cnt nb ng) : ∀ (n i : Nat) (bh : Int), i + n = cnt → ((wrS fg P L S n i bh).length : Int) ≤ 2 * ((ng : Int) - eP P L i) := by
  intro n
  induction n with
  | zero =>
    intro i bh hi
    show (0 : Int) ≤ _
    rcases Nat.eq_zero_or_pos i with q | q
    · subst q
      rw [show eP P L 0 = 0 from rfl]
      omega
    · have h1 := hW.1 (i - 1) (by omega)
      unfold eP
      rw [if_neg (by omega)]
      omega
  | succ n ih =>
    intro i bh hi
    rw [wrS, List.length_append]
    have a := stB_len (fg := fg) hW (show i < cnt by omega) bh
    have b := ih (i + 1) (bhN L S i bh) (by omega)
    rw [eP_s] at b
    have c := LW_eP hW (show i < cnt by omega)
    omega
theorem LL_len {f1 f2 : Nat → Int32} {P L S : Nat → Int} {cnt nb ng : Nat} (hW : LW P L S cnt nb ng) (hng : ng ≤ 300) : (hdB f1 f2 nb ng ++ wrS f2 P L S cnt 0 0).length ≤ 900 := by
  have a := hdB_len f1 f2 nb ng
  have b := wrS_len (fg := f2) hW cnt 0 0 (by omega)
  rw [show eP P L 0 = 0 from rfl] at b
  rw [List.length_append]
  omega
