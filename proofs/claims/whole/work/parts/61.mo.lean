abbrev rm_c_Mo_apply : Room := { frames := 3, cells := 0, slots := 0, locals := 75 }
set_option maxHeartbeats 4000000 in
set_option maxRecDepth 100000 in
theorem c_Mo_apply (l : Launch) (D : va_G) (cI cZ : ClassId) (hm : Nat) (cd : Int32) (x1 : Nat) (x2 : Nat) (x3 : Nat) (x4 : Nat) (x5 : Nat) (x6 : Nat) (x7 : Nat) (kt : Nat) (k1 : Nat) (k2 : Nat) (k3 : Nat) (k4 : Nat) (k5 : Nat) (y1 : Nat) (y2 : Nat) (y3 : Nat) (y4 : Nat) (y5 : Nat) (y6 : Nat) (y7 : Nat) (ms : Nat) (kw : Nat) (kd : Nat) (ma : Nat) (lk : Int) (g1 : Nat → Int32) (F : Nat → Nat) (g4 : Nat → Int32) (hk1 : k1 ≤ 300) (hk3 : k3 ≤ 900) (hB : ∀ j, j < k3 → F j < 256) : MI l yX5_apply wsX5_apply rm_c_Mo_apply D (kT cI cZ) [.ref hm] [(hm, .inr (5, [.int cd, .ref x1, .ref x2, .ref x3, .ref x4, .ref x5, .ref x6, .ref x7, .int (iI ((kt : Nat) : Int)), .int (iI ((k1 : Nat) : Int)), .int (iI ((k2 : Nat) : Int)), .int (iI ((k3 : Nat) : Int)), .int (iI ((k4 : Nat) : Int)), .int (iI ((k5 : Nat) : Int)), .ref y1, .ref y2, .ref y3, .ref y4, .ref y5, .ref y6, .ref y7, .int (iI ((ms : Nat) : Int)), .int (iI ((kw : Nat) : Int)), .int (iI ((kd : Nat) : Int)), .int (iI ((ma : Nat) : Int)), .int (iI (lk : Int))])), (x2, .inl (cI, 300, .inl g1)), (x4, .inl (cI, 900, .inl (kN F))), (x5, .inl (cI, 300, .inl g4))] (fun (r : Int32) (u : Nat × Int × Nat × (Nat → Int32)) => r = iI (apRun F k3 g1 k1).1 ∧ rl u.2.2.2 u.2.2.1 = (apRun F k3 g1 k1).2 ∧ u.2.2.1 ≤ 300) (fun (u : Nat × Int × Nat × (Nat → Int32)) => match u with | ⟨a9, l9, k9, g9⟩ => [(hm, .inr (5, [.int (iI (0 : Int)), .ref x1, .ref x2, .ref x3, .ref x4, .ref x5, .ref x6, .ref x7, .int (iI ((kt : Nat) : Int)), .int (iI ((k1 : Nat) : Int)), .int (iI ((k2 : Nat) : Int)), .int (iI ((k3 : Nat) : Int)), .int (iI ((k9 : Nat) : Int)), .int (iI ((k5 : Nat) : Int)), .ref y1, .ref y2, .ref y3, .ref y4, .ref y5, .ref y6, .ref y7, .int (iI ((ms : Nat) : Int)), .int (iI ((kw : Nat) : Int)), .int (iI ((kd : Nat) : Int)), .int (iI ((a9 : Nat) : Int)), .int (iI (l9 : Int))])), (x2, .inl (cI, 300, .inl g1)), (x4, .inl (cI, 900, .inl (kN F))), (x5, .inl (cI, 300, .inl g9))]) 0 0 := by
  intro sz
  refine k_of (cc := cX5_apply) (maxL := 2) (ret := (some .int)) (by decide) rfl (Nat.le_of_ble_eq_true rfl) ?_
  intro p e s m args below meth c A Q hAe hQ hx hb hr hml hts hown hlocks hnm hP hK hD hS hA ls hl
  have hl : lv_has ls 2 [(0, .ref hm)] := hl
  have hi_X5 : ∀ w ∈ u_ws RX5 TX5 26, w ∈ wsX5_apply := fun w h => km (ikX5 w h)
  have fl52 := hts _ (km wm475)
  have fl70 := hts _ (km wm487)
  refine lv_aload_n hx hb dX5_apply_0 rfl (lv_at hl 0 rfl) ?_
  refine lv_iconst (v := iI (0 : Int)) hx hb dX5_apply_1 rfl ?_
  refine va_put (D := D) (ci := 5) (v := .int (iI (0 : Int))) (ty := .int) (C := RX5) (T := TX5) (N := 26) hx hb hts hi_X5 tyX5 tyX5_ok nmX5 hown hK hP hD hS 0 rfl rfl 0 (by decide) fl52 (fun _ h9 => h9) rfl (by decide +kernel) rfl rfl (Nat.le_of_ble_eq_true rfl) dX5_apply_2 (fun H locs hP hD hS => ?_)
  have hP : va_P D vwCl [(hm, .inr (5, [.int (iI (0 : Int)), .ref x1, .ref x2, .ref x3, .ref x4, .ref x5, .ref x6, .ref x7, .int (iI ((kt : Nat) : Int)), .int (iI ((k1 : Nat) : Int)), .int (iI ((k2 : Nat) : Int)), .int (iI ((k3 : Nat) : Int)), .int (iI ((k4 : Nat) : Int)), .int (iI ((k5 : Nat) : Int)), .ref y1, .ref y2, .ref y3, .ref y4, .ref y5, .ref y6, .ref y7, .int (iI ((ms : Nat) : Int)), .int (iI ((kw : Nat) : Int)), .int (iI ((kd : Nat) : Int)), .int (iI ((ma : Nat) : Int)), .int (iI (lk : Int))])), (x2, .inl (cI, 300, .inl g1)), (x4, .inl (cI, 900, .inl (kN F))), (x5, .inl (cI, 300, .inl g4))] H := hP
  have hD : va_D A [(hm, .inr (5, [.int (iI (0 : Int)), .ref x1, .ref x2, .ref x3, .ref x4, .ref x5, .ref x6, .ref x7, .int (iI ((kt : Nat) : Int)), .int (iI ((k1 : Nat) : Int)), .int (iI ((k2 : Nat) : Int)), .int (iI ((k3 : Nat) : Int)), .int (iI ((k4 : Nat) : Int)), .int (iI ((k5 : Nat) : Int)), .ref y1, .ref y2, .ref y3, .ref y4, .ref y5, .ref y6, .ref y7, .int (iI ((ms : Nat) : Int)), .int (iI ((kw : Nat) : Int)), .int (iI ((kd : Nat) : Int)), .int (iI ((ma : Nat) : Int)), .int (iI (lk : Int))])), (x2, .inl (cI, 300, .inl g1)), (x4, .inl (cI, 900, .inl (kN F))), (x5, .inl (cI, 300, .inl g4))] := hD
  refine lv_aload_n hx hb dX5_apply_5 rfl (lv_at hl 0 rfl) ?_
  refine k_calli (wc := [(hm, .inr (5, [.int (iI (0 : Int)), .ref x1, .ref x2, .ref x3, .ref x4, .ref x5, .ref x6, .ref x7, .int (iI ((kt : Nat) : Int)), .int (iI ((k1 : Nat) : Int)), .int (iI ((k2 : Nat) : Int)), .int (iI ((k3 : Nat) : Int)), .int (iI ((k4 : Nat) : Int)), .int (iI ((k5 : Nat) : Int)), .ref y1, .ref y2, .ref y3, .ref y4, .ref y5, .ref y6, .ref y7, .int (iI ((ms : Nat) : Int)), .int (iI ((kw : Nat) : Int)), .int (iI ((kd : Nat) : Int)), .int (iI ((ma : Nat) : Int)), .int (iI (lk : Int))])), (x2, .inl (cI, 300, .inl g1)), (x4, .inl (cI, 900, .inl (kN F))), (x5, .inl (cI, 300, .inl g4))]) (wr := []) (wf := fun u => match u with | ⟨a9, l9, k9, g9⟩ => [(hm, .inr (5, [.int (iI (0 : Int)), .ref x1, .ref x2, .ref x3, .ref x4, .ref x5, .ref x6, .ref x7, .int (iI ((kt : Nat) : Int)), .int (iI ((k1 : Nat) : Int)), .int (iI ((k2 : Nat) : Int)), .int (iI ((k3 : Nat) : Int)), .int (iI ((k9 : Nat) : Int)), .int (iI ((k5 : Nat) : Int)), .ref y1, .ref y2, .ref y3, .ref y4, .ref y5, .ref y6, .ref y7, .int (iI ((ms : Nat) : Int)), .int (iI ((kw : Nat) : Int)), .int (iI ((kd : Nat) : Int)), .int (iI ((a9 : Nat) : Int)), .int (iI (l9 : Int))])), (x2, .inl (cI, 300, .inl g1)), (x4, .inl (cI, 900, .inl (kN F))), (x5, .inl (cI, 300, .inl g9))]) hK hP hD hS hA [0, 1, 2, 3] [] [0, 1, 2, 3] ⟨⟨rfl, rfl, by decide⟩, rfl, by decide, by decide⟩ (fun _ => ⟨rfl, rfl⟩) (by decide) (fun hPc hDc => va_runV (As := []) (rest := []) ⟨hx, hb, hml, hown, hts⟩ (c_Mo_applied l D cI cZ (hm := hm) (cd := iI (0 : Int)) (x1 := x1) (x2 := x2) (x3 := x3) (x4 := x4) (x5 := x5) (x6 := x6) (x7 := x7) (kt := kt) (k1 := k1) (k2 := k2) (k3 := k3) (k4 := k4) (k5 := k5) (y1 := y1) (y2 := y2) (y3 := y3) (y4 := y4) (y5 := y5) (y6 := y6) (y7 := y7) (ms := ms) (kw := kw) (kd := kd) (ma := ma) (lk := lk) (g1 := g1) (F := F) (g4 := g4) (hk1 := by omega) (hk3 := by omega) (hB := hB) _) (cwV 0 hts (kgV wm624 wm626 wm30 wm44 wmcX5_applied) rfl rfl rfl (by decide +kernel) ⟨Nat.le_of_ble_eq_true rfl, Nat.le_of_ble_eq_true rfl⟩) (k_preV hK hPc hDc (ci := 5) (q0 := 0) rfl rfl) rfl rfl hl.1 rfl (lv_room (Nat.le_of_ble_eq_true rfl)) dX5_apply_6 ⟨Nat.le_of_ble_eq_true rfl, Nat.le_of_ble_eq_true rfl⟩) (fun r6 u H locs hw hP hD hS => ?_)
  obtain ⟨a9, l9, k9, g9⟩ := u
  have hP : va_P D vwCl [(hm, .inr (5, [.int (iI (0 : Int)), .ref x1, .ref x2, .ref x3, .ref x4, .ref x5, .ref x6, .ref x7, .int (iI ((kt : Nat) : Int)), .int (iI ((k1 : Nat) : Int)), .int (iI ((k2 : Nat) : Int)), .int (iI ((k3 : Nat) : Int)), .int (iI ((k9 : Nat) : Int)), .int (iI ((k5 : Nat) : Int)), .ref y1, .ref y2, .ref y3, .ref y4, .ref y5, .ref y6, .ref y7, .int (iI ((ms : Nat) : Int)), .int (iI ((kw : Nat) : Int)), .int (iI ((kd : Nat) : Int)), .int (iI ((a9 : Nat) : Int)), .int (iI (l9 : Int))])), (x2, .inl (cI, 300, .inl g1)), (x4, .inl (cI, 900, .inl (kN F))), (x5, .inl (cI, 300, .inl g9))] H := hP
  have hD : va_D A [(hm, .inr (5, [.int (iI (0 : Int)), .ref x1, .ref x2, .ref x3, .ref x4, .ref x5, .ref x6, .ref x7, .int (iI ((kt : Nat) : Int)), .int (iI ((k1 : Nat) : Int)), .int (iI ((k2 : Nat) : Int)), .int (iI ((k3 : Nat) : Int)), .int (iI ((k9 : Nat) : Int)), .int (iI ((k5 : Nat) : Int)), .ref y1, .ref y2, .ref y3, .ref y4, .ref y5, .ref y6, .ref y7, .int (iI ((ms : Nat) : Int)), .int (iI ((kw : Nat) : Int)), .int (iI ((kd : Nat) : Int)), .int (iI ((a9 : Nat) : Int)), .int (iI (l9 : Int))])), (x2, .inl (cI, 300, .inl g1)), (x4, .inl (cI, 900, .inl (kN F))), (x5, .inl (cI, 300, .inl g9))] := hD
  refine W.widen (k := 0) (n := 0) (Nat.le_of_ble_eq_true rfl) (Nat.le_of_ble_eq_true rfl) ?_
  obtain ⟨hw1, hw2, hw3⟩ := hw
  subst hw1
  have haw := apRun_w F k3 g1 k1
  have hawr := haw.1
  refine lv_istore_n (lv' := [(1, .int (iI ((apRun F k3 g1 k1).1 : Int))), (0, .ref hm)]) hx hb dX5_apply_9 rfl hl (by decide) rfl (fun ls hl => ?_)
  refine lv_iload_n hx hb dX5_apply_10 rfl (lv_at hl 0 rfl) ?_
  refine lv_if_ge (tgt := 19) hx hb dX5_apply_11 (by decide) (fun c11 => ?_) (fun c11 => ?_)
  · skip
    have c11 := iI_leT (a := (0 : Int)) (b := ((apRun F k3 g1 k1).1 : Int)) c11 (by omega)
    refine lv_iload_n hx hb dX5_apply_19 rfl (lv_at hl 0 rfl) ?_
    exact k_iret (a9, l9, k9, g9) hx hb hr hlocks hK hP hD hS [0, 1, 2, 3] (by decide) rfl rfl (⟨rfl, hw2 c11, hw3⟩) hAe hQ dX5_apply_20
  · skip
    have c11 := iI_leF (a := (0 : Int)) (b := ((apRun F k3 g1 k1).1 : Int)) c11 (by omega)
    refine lv_aload_n hx hb dX5_apply_14 rfl (lv_at hl 1 rfl) ?_
    refine lv_iconst (v := iI ((0 : Nat) : Int)) hx hb dX5_apply_15 rfl ?_
    refine va_put (D := D) (ci := 5) (v := .int (iI ((0 : Nat) : Int))) (ty := .int) (C := RX5) (T := TX5) (N := 26) hx hb hts hi_X5 tyX5 tyX5_ok nmX5 hown hK hP hD hS 0 rfl rfl 12 (by decide) fl70 (fun _ h9 => h9) rfl (by decide +kernel) rfl rfl (Nat.le_of_ble_eq_true rfl) dX5_apply_16 (fun H locs hP hD hS => ?_)
    have hP : va_P D vwCl [(hm, .inr (5, [.int (iI (0 : Int)), .ref x1, .ref x2, .ref x3, .ref x4, .ref x5, .ref x6, .ref x7, .int (iI ((kt : Nat) : Int)), .int (iI ((k1 : Nat) : Int)), .int (iI ((k2 : Nat) : Int)), .int (iI ((k3 : Nat) : Int)), .int (iI ((0 : Nat) : Int)), .int (iI ((k5 : Nat) : Int)), .ref y1, .ref y2, .ref y3, .ref y4, .ref y5, .ref y6, .ref y7, .int (iI ((ms : Nat) : Int)), .int (iI ((kw : Nat) : Int)), .int (iI ((kd : Nat) : Int)), .int (iI ((a9 : Nat) : Int)), .int (iI (l9 : Int))])), (x2, .inl (cI, 300, .inl g1)), (x4, .inl (cI, 900, .inl (kN F))), (x5, .inl (cI, 300, .inl g9))] H := hP
    have hD : va_D A [(hm, .inr (5, [.int (iI (0 : Int)), .ref x1, .ref x2, .ref x3, .ref x4, .ref x5, .ref x6, .ref x7, .int (iI ((kt : Nat) : Int)), .int (iI ((k1 : Nat) : Int)), .int (iI ((k2 : Nat) : Int)), .int (iI ((k3 : Nat) : Int)), .int (iI ((0 : Nat) : Int)), .int (iI ((k5 : Nat) : Int)), .ref y1, .ref y2, .ref y3, .ref y4, .ref y5, .ref y6, .ref y7, .int (iI ((ms : Nat) : Int)), .int (iI ((kw : Nat) : Int)), .int (iI ((kd : Nat) : Int)), .int (iI ((a9 : Nat) : Int)), .int (iI (l9 : Int))])), (x2, .inl (cI, 300, .inl g1)), (x4, .inl (cI, 900, .inl (kN F))), (x5, .inl (cI, 300, .inl g9))] := hD
    refine lv_iload_n hx hb dX5_apply_19 rfl (lv_at hl 0 rfl) ?_
    exact k_iret (a9, l9, 0, g9) hx hb hr hlocks hK hP hD hS [0, 1, 2, 3] (by decide) rfl rfl (⟨rfl, (haw.2 c11).symm, by dsimp only; omega⟩) hAe hQ dX5_apply_20

abbrev rm_c_Mo_meets : Room := { frames := 0, cells := 0, slots := 0, locals := 0 }
set_option maxHeartbeats 4000000 in
set_option maxRecDepth 100000 in
theorem c_Mo_meets (l : Launch) (D : va_G) (cI cZ : ClassId) (z1 : Int) (z2 : Int) (z3 : Int) (z4 : Int) (hz : (-1000 ≤ z1 ∧ z1 ≤ 1000) ∧ (-1000 ≤ z2 ∧ z2 ≤ 1000) ∧ (-1000 ≤ z3 ∧ z3 ≤ 1000) ∧ (-1000 ≤ z4 ∧ z4 ≤ 1000)) : MI l yX5_meets wsX5_meets rm_c_Mo_meets D (kT cI cZ) [.int (iI (z1 : Int)), .int (iI (z2 : Int)), .int (iI (z3 : Int)), .int (iI (z4 : Int))] [] (fun (r : Int32) (_ : Unit) => r = kb (decide (z1 < z3 + z4 ∧ z3 < z1 + z2))) (fun (u : Unit) => match u with | _ => []) 0 0 := by
  intro sz
  refine k_of (cc := cX5_meets) (maxL := 4) (ret := (some .boolean)) (by decide) rfl (Nat.le_of_ble_eq_true rfl) ?_
  intro p e s m args below meth c A Q hAe hQ hx hb hr hml hts hown hlocks hnm hP hK hD hS hA ls hl
  have hl : lv_has ls 4 [(0, .int (iI (z1 : Int))), (1, .int (iI (z2 : Int))), (2, .int (iI (z3 : Int))), (3, .int (iI (z4 : Int)))] := hl
  refine lv_iload_n hx hb dX5_meets_0 rfl (lv_at hl 0 rfl) ?_
  refine lv_iload_n hx hb dX5_meets_1 rfl (lv_at hl 2 rfl) ?_
  refine lv_iload_n hx hb dX5_meets_2 rfl (lv_at hl 3 rfl) ?_
  refine lv_iadd hx hb dX5_meets_3 ?_
  refine kn_i (iA (c := ((z3 : Int) + (z4 : Int) : Int)) (by omega)) ?_
  refine lv_icmp_ge (tgt := 18) hx hb dX5_meets_4 (by decide) (fun c4 => ?_) (fun c4 => ?_)
  · skip
    have c4 := iI_leT (a := ((z3 : Int) + (z4 : Int) : Int)) (b := (z1 : Int)) c4 (by omega)
    refine lv_iconst (v := iI (0 : Int)) hx hb dX5_meets_18 rfl ?_
    exact k_zret () hx hb hr (by decide) hlocks hK hP hD hS [] (by decide) rfl rfl (by first | exact kb1 (by omega) | exact kb0 (by omega)) hAe hQ dX5_meets_19
  · skip
    have c4 := iI_leF (a := ((z3 : Int) + (z4 : Int) : Int)) (b := (z1 : Int)) c4 (by omega)
    refine lv_iload_n hx hb dX5_meets_7 rfl (lv_at hl 2 rfl) ?_
    refine lv_iload_n hx hb dX5_meets_8 rfl (lv_at hl 0 rfl) ?_
    refine lv_iload_n hx hb dX5_meets_9 rfl (lv_at hl 1 rfl) ?_
    refine lv_iadd hx hb dX5_meets_10 ?_
    refine kn_i (iA (c := ((z1 : Int) + (z2 : Int) : Int)) (by omega)) ?_
    refine lv_icmp_ge (tgt := 18) hx hb dX5_meets_11 (by decide) (fun c11 => ?_) (fun c11 => ?_)
    · skip
      have c11 := iI_leT (a := ((z1 : Int) + (z2 : Int) : Int)) (b := (z3 : Int)) c11 (by omega)
      refine lv_iconst (v := iI (0 : Int)) hx hb dX5_meets_18 rfl ?_
      exact k_zret () hx hb hr (by decide) hlocks hK hP hD hS [] (by decide) rfl rfl (by first | exact kb1 (by omega) | exact kb0 (by omega)) hAe hQ dX5_meets_19
    · skip
      have c11 := iI_leF (a := ((z1 : Int) + (z2 : Int) : Int)) (b := (z3 : Int)) c11 (by omega)
      refine lv_iconst (v := iI (1 : Int)) hx hb dX5_meets_14 rfl ?_
      refine lv_goto (tgt := 19) hx hb dX5_meets_15 (by decide) ?_
      exact k_zret () hx hb hr (by decide) hlocks hK hP hD hS [] (by decide) rfl rfl (by first | exact kb1 (by omega) | exact kb0 (by omega)) hAe hQ dX5_meets_19

abbrev rm_c_Mo_isFree : Room := { frames := 1, cells := 0, slots := 0, locals := 23 }
set_option maxHeartbeats 4000000 in
set_option maxRecDepth 100000 in
theorem c_Mo_isFree (l : Launch) (D : va_G) (cI cZ : ClassId) (hm : Nat) (cd : Int32) (x1 : Nat) (x2 : Nat) (x3 : Nat) (x4 : Nat) (x5 : Nat) (x6 : Nat) (x7 : Nat) (kt : Nat) (k1 : Nat) (k2 : Nat) (k3 : Nat) (k4 : Nat) (k5 : Nat) (y1 : Nat) (y2 : Nat) (y3 : Nat) (y4 : Nat) (y5 : Nat) (y6 : Nat) (y7 : Nat) (ms : Nat) (kw : Nat) (kd : Nat) (ma : Nat) (lk : Int) (P : Nat → Int) (L : Nat → Int) (S : Nat → Int) (nb : Nat) (ng : Nat) (A0 : Nat → Int) (T0 : Nat → Int) (k : Nat) (hW : LW P L S ms nb ng) (hnb : nb ≤ 300) (hng : ng ≤ 300) (hA0 : ∀ i, i < ms → A0 i = 0 ∨ A0 i = 1) (hTr : ∀ i, i < ms → -1 ≤ T0 i ∧ T0 i ≤ 1000) (hk : k < ms) : MI l yX5_isFree wsX5_isFree rm_c_Mo_isFree D (kT cI cZ) [.ref hm, .int (iI ((k : Nat) : Int))] [(hm, .inr (5, [.int cd, .ref x1, .ref x2, .ref x3, .ref x4, .ref x5, .ref x6, .ref x7, .int (iI ((kt : Nat) : Int)), .int (iI ((k1 : Nat) : Int)), .int (iI ((k2 : Nat) : Int)), .int (iI ((k3 : Nat) : Int)), .int (iI ((k4 : Nat) : Int)), .int (iI ((k5 : Nat) : Int)), .ref y1, .ref y2, .ref y3, .ref y4, .ref y5, .ref y6, .ref y7, .int (iI ((ms : Nat) : Int)), .int (iI ((kw : Nat) : Int)), .int (iI ((kd : Nat) : Int)), .int (iI ((ma : Nat) : Int)), .int (iI (lk : Int))])), (y1, .inl (cI, 300, .inl (kA P))), (y2, .inl (cI, 300, .inl (kA L))), (y3, .inl (cI, 300, .inl (kA S))), (y4, .inl (cI, 300, .inl (kA A0))), (y5, .inl (cI, 300, .inl (kA T0)))] (fun (r : Int32) (_ : Unit) => r = kb (decide (frB P L S A0 T0 k ms = true))) (fun (u : Unit) => match u with | _ => [(hm, .inr (5, [.int cd, .ref x1, .ref x2, .ref x3, .ref x4, .ref x5, .ref x6, .ref x7, .int (iI ((kt : Nat) : Int)), .int (iI ((k1 : Nat) : Int)), .int (iI ((k2 : Nat) : Int)), .int (iI ((k3 : Nat) : Int)), .int (iI ((k4 : Nat) : Int)), .int (iI ((k5 : Nat) : Int)), .ref y1, .ref y2, .ref y3, .ref y4, .ref y5, .ref y6, .ref y7, .int (iI ((ms : Nat) : Int)), .int (iI ((kw : Nat) : Int)), .int (iI ((kd : Nat) : Int)), .int (iI ((ma : Nat) : Int)), .int (iI (lk : Int))])), (y1, .inl (cI, 300, .inl (kA P))), (y2, .inl (cI, 300, .inl (kA L))), (y3, .inl (cI, 300, .inl (kA S))), (y4, .inl (cI, 300, .inl (kA A0))), (y5, .inl (cI, 300, .inl (kA T0)))]) 0 0 := by
  intro sz
  refine k_of (cc := cX5_isFree) (maxL := 4) (ret := (some .boolean)) (by decide) rfl (Nat.le_of_ble_eq_true rfl) ?_
  intro p e s m args below meth c A Q hAe hQ hx hb hr hml hts hown hlocks hnm hP hK hD hS hA ls hl
  have hl : lv_has ls 4 [(0, .ref hm), (1, .int (iI ((k : Nat) : Int)))] := hl
  have hi_X5 : ∀ w ∈ u_ws RX5 TX5 26, w ∈ wsX5_isFree := fun w h => km (ikX5 w h)
  have fl88 := hts _ (km wm496)
  have fl43 := hts _ (km wm493)
  have fl37 := hts _ (km wm491)
  have fl40 := hts _ (km wm492)
  have fl31 := hts _ (km wm489)
  have fl34 := hts _ (km wm490)
  have hcn := hW.2.2.2.2
  have hwk := hW.1 k hk
  refine lv_iconst (v := iI (1 : Int)) hx hb dX5_isFree_0 rfl ?_
  refine lv_istore_n (lv' := [(2, .int (iI (1 : Int))), (0, .ref hm), (1, .int (iI ((k : Nat) : Int)))]) hx hb dX5_isFree_1 rfl hl (by decide) rfl (fun ls hl => ?_)
  refine lv_iconst (v := iI ((0 : Nat) : Int)) hx hb dX5_isFree_2 rfl ?_
  refine lv_istore_n (lv' := [(3, .int (iI ((0 : Nat) : Int))), (2, .int (iI (1 : Int))), (0, .ref hm), (1, .int (iI ((k : Nat) : Int)))]) hx hb dX5_isFree_3 rfl hl (by decide) rfl (fun ls hl => ?_)
  have lp4 : ∀ (fu : Nat) (i : Nat) (H : Heap) (locs : List Loc) (ls : Array Slot), ms - i < fu → (i ≤ ms) → va_P D vwCl [(hm, .inr (5, [.int cd, .ref x1, .ref x2, .ref x3, .ref x4, .ref x5, .ref x6, .ref x7, .int (iI ((kt : Nat) : Int)), .int (iI ((k1 : Nat) : Int)), .int (iI ((k2 : Nat) : Int)), .int (iI ((k3 : Nat) : Int)), .int (iI ((k4 : Nat) : Int)), .int (iI ((k5 : Nat) : Int)), .ref y1, .ref y2, .ref y3, .ref y4, .ref y5, .ref y6, .ref y7, .int (iI ((ms : Nat) : Int)), .int (iI ((kw : Nat) : Int)), .int (iI ((kd : Nat) : Int)), .int (iI ((ma : Nat) : Int)), .int (iI (lk : Int))])), (y1, .inl (cI, 300, .inl (kA P))), (y2, .inl (cI, 300, .inl (kA L))), (y3, .inl (cI, 300, .inl (kA S))), (y4, .inl (cI, 300, .inl (kA A0))), (y5, .inl (cI, 300, .inl (kA T0)))] H → va_D A [(hm, .inr (5, [.int cd, .ref x1, .ref x2, .ref x3, .ref x4, .ref x5, .ref x6, .ref x7, .int (iI ((kt : Nat) : Int)), .int (iI ((k1 : Nat) : Int)), .int (iI ((k2 : Nat) : Int)), .int (iI ((k3 : Nat) : Int)), .int (iI ((k4 : Nat) : Int)), .int (iI ((k5 : Nat) : Int)), .ref y1, .ref y2, .ref y3, .ref y4, .ref y5, .ref y6, .ref y7, .int (iI ((ms : Nat) : Int)), .int (iI ((kw : Nat) : Int)), .int (iI ((kd : Nat) : Int)), .int (iI ((ma : Nat) : Int)), .int (iI (lk : Int))])), (y1, .inl (cI, 300, .inl (kA P))), (y2, .inl (cI, 300, .inl (kA L))), (y3, .inl (cI, 300, .inl (kA S))), (y4, .inl (cI, 300, .inl (kA A0))), (y5, .inl (cI, 300, .inl (kA T0)))] → va_S A s.heap H locs → lv_has ls 4 [(0, .ref hm), (1, .int (iI ((k : Nat) : Int))), (2, .int (kb (decide (frB P L S A0 T0 k i = true)))), (3, .int (iI ((i : Nat) : Int)))] → W p l e rm_c_Mo_isFree s m args below meth c H locs 0 0 Q (F0 m 4 ls []) := by
    intro fu
    induction fu with
    | zero => intro i H locs ls hfu; exact absurd hfu (Nat.not_lt_zero _)
    | succ fu ih4 =>
      intro i H locs ls hfu hi hP hD hS hl
      refine lv_iload_n hx hb dX5_isFree_4 rfl (lv_at hl 3 rfl) ?_
      refine lv_aload_n hx hb dX5_isFree_5 rfl (lv_at hl 0 rfl) ?_
      refine va_get (D := D) (ci := 5) (v := .int (iI ((ms : Nat) : Int))) (C := RX5) (T := TX5) (N := 26) hx hb hts hi_X5 hown hK hP 0 rfl rfl 21 (by decide) fl88 (fun _ h9 => h9) rfl dX5_isFree_6 ?_
      refine lv_icmp_ge (tgt := 93) hx hb dX5_isFree_9 (by decide) (fun c9 => ?_) (fun c9 => ?_)
      · skip
        have c9 := iI_leT (a := ((ms : Nat) : Int)) (b := ((i : Nat) : Int)) c9 (by omega)
        refine lv_iload_n hx hb dX5_isFree_93 rfl (lv_at hl 2 rfl) ?_
        exact k_zret () hx hb hr (kb_nar _) hlocks hK hP hD hS [0, 1, 2, 3, 4, 5] (by decide) rfl rfl (by first | rw [show i = ms by omega] | (rw [decide_eq_false c13, decide_eq_false (frB_mono c13 ms hi)])) hAe hQ dX5_isFree_94
      · skip
        have c9 := iI_leF (a := ((ms : Nat) : Int)) (b := ((i : Nat) : Int)) c9 (by omega)
        refine lv_iload_n hx hb dX5_isFree_12 rfl (lv_at hl 2 rfl) ?_
        refine lv_if_eq (tgt := 93) hx hb dX5_isFree_13 (by decide) (fun c13 => ?_) (fun c13 => ?_)
        · skip
          have c13 : ¬ (frB P L S A0 T0 k i = true) := of_decide_eq_false (kb_T c13)
          refine lv_iload_n hx hb dX5_isFree_93 rfl (lv_at hl 2 rfl) ?_
          exact k_zret () hx hb hr (kb_nar _) hlocks hK hP hD hS [0, 1, 2, 3, 4, 5] (by decide) rfl rfl (by first | rw [show i = ms by omega] | (rw [decide_eq_false c13, decide_eq_false (frB_mono c13 ms hi)])) hAe hQ dX5_isFree_94
        · skip
          have c13 : frB P L S A0 T0 k i = true := of_decide_eq_true (kb_F c13)
          have hwi := hW.1 i (by omega)
          have hAi := hA0 i (by omega)
          have hTi := hTr i (by omega)
          refine lv_iload_n hx hb dX5_isFree_16 rfl (lv_at hl 3 rfl) ?_
          refine lv_iload_n hx hb dX5_isFree_17 rfl (lv_at hl 1 rfl) ?_
          refine lv_icmp_eq (tgt := 81) hx hb dX5_isFree_18 (by decide) (fun c18 => ?_) (fun c18 => ?_)
          · skip
            have c18 := iI_eqT (a := ((i : Nat) : Int)) (b := ((k : Nat) : Int)) c18 (by omega)
            refine lv_iconst (v := iI (1 : Int)) hx hb dX5_isFree_81 rfl ?_
            refine lv_goto (tgt := 86) hx hb dX5_isFree_82 (by decide) ?_
            refine lv_istore_n (lv' := [(2, .int (iI (1 : Int))), (0, .ref hm), (1, .int (iI ((k : Nat) : Int))), (3, .int (iI ((i : Nat) : Int)))]) hx hb dX5_isFree_86 rfl hl (by decide) rfl (fun ls hl => ?_)
            refine lv_iinc (v := iI ((i + 1 : Nat) : Int)) (lv' := [(3, .int (iI ((i + 1 : Nat) : Int))), (2, .int (iI (1 : Int))), (0, .ref hm), (1, .int (iI ((k : Nat) : Int)))]) hx hb dX5_isFree_87 hl (k := 3) rfl (iA (by omega)) (by decide) rfl (fun ls hl => ?_)
            refine lv_goto (tgt := 4) hx hb dX5_isFree_90 (by decide) ?_
            have hl9 : lv_has ls 4 [(0, .ref hm), (1, .int (iI ((k : Nat) : Int))), (2, .int (kb (decide (frB P L S A0 T0 k (i + 1) = true)))), (3, .int (iI (((i + 1) : Nat) : Int)))] := by
              have hl := lv_sub hl [2, 3, 1, 0] rfl
              rw [← kb1 (show frB P L S A0 T0 k (i + 1) = true from frB_y c13 (by omega))]
              exact hl
            exact ih4 (i + 1) _ _ _ (by omega) (by omega) hP hD hS hl9
          · skip
            have c18 := iI_eqF (a := ((i : Nat) : Int)) (b := ((k : Nat) : Int)) c18 (by omega)
            refine lv_aload_n hx hb dX5_isFree_21 rfl (lv_at hl 0 rfl) ?_
            refine va_get (D := D) (ci := 5) (v := .ref y5) (C := RX5) (T := TX5) (N := 26) hx hb hts hi_X5 hown hK hP 0 rfl rfl 18 (by decide) fl43 (fun _ h9 => h9) rfl dX5_isFree_22 ?_
            refine lv_iload_n hx hb dX5_isFree_25 rfl (lv_at hl 3 rfl) ?_
            refine k_iald hx hb hK hP 5 0 rfl rfl i (by omega) dX5_isFree_26 ?_
            refine kn_i (y := iI (T0 i : Int)) (rfl) ?_
            refine lv_iconst (v := iI (-1 : Int)) hx hb dX5_isFree_27 rfl ?_
            refine lv_icmp_ne (tgt := 81) hx hb dX5_isFree_28 (by decide) (fun c28 => ?_) (fun c28 => ?_)
            · skip
              have c28 := iI_eqF (a := (T0 i : Int)) (b := (-1 : Int)) c28 (by omega)
              refine lv_iconst (v := iI (1 : Int)) hx hb dX5_isFree_81 rfl ?_
              refine lv_goto (tgt := 86) hx hb dX5_isFree_82 (by decide) ?_
              refine lv_istore_n (lv' := [(2, .int (iI (1 : Int))), (0, .ref hm), (1, .int (iI ((k : Nat) : Int))), (3, .int (iI ((i : Nat) : Int)))]) hx hb dX5_isFree_86 rfl hl (by decide) rfl (fun ls hl => ?_)
              refine lv_iinc (v := iI ((i + 1 : Nat) : Int)) (lv' := [(3, .int (iI ((i + 1 : Nat) : Int))), (2, .int (iI (1 : Int))), (0, .ref hm), (1, .int (iI ((k : Nat) : Int)))]) hx hb dX5_isFree_87 hl (k := 3) rfl (iA (by omega)) (by decide) rfl (fun ls hl => ?_)
              refine lv_goto (tgt := 4) hx hb dX5_isFree_90 (by decide) ?_
              have hl9 : lv_has ls 4 [(0, .ref hm), (1, .int (iI ((k : Nat) : Int))), (2, .int (kb (decide (frB P L S A0 T0 k (i + 1) = true)))), (3, .int (iI (((i + 1) : Nat) : Int)))] := by
                have hl := lv_sub hl [2, 3, 1, 0] rfl
                rw [← kb1 (show frB P L S A0 T0 k (i + 1) = true from frB_y c13 (by omega))]
                exact hl
              exact ih4 (i + 1) _ _ _ (by omega) (by omega) hP hD hS hl9
            · skip
              have c28 := iI_eqT (a := (T0 i : Int)) (b := (-1 : Int)) c28 (by omega)
              refine lv_aload_n hx hb dX5_isFree_31 rfl (lv_at hl 0 rfl) ?_
              refine va_get (D := D) (ci := 5) (v := .ref y3) (C := RX5) (T := TX5) (N := 26) hx hb hts hi_X5 hown hK hP 0 rfl rfl 16 (by decide) fl37 (fun _ h9 => h9) rfl dX5_isFree_32 ?_
              refine lv_iload_n hx hb dX5_isFree_35 rfl (lv_at hl 3 rfl) ?_
              refine k_iald hx hb hK hP 3 0 rfl rfl i (by omega) dX5_isFree_36 ?_
              refine kn_i (y := iI (S i : Int)) (rfl) ?_
              refine lv_iconst (v := iI (-1 : Int)) hx hb dX5_isFree_37 rfl ?_
              refine lv_icmp_eq (tgt := 81) hx hb dX5_isFree_38 (by decide) (fun c38 => ?_) (fun c38 => ?_)
              · skip
                have c38 := iI_eqT (a := (S i : Int)) (b := (-1 : Int)) c38 (by omega)
                refine lv_iconst (v := iI (1 : Int)) hx hb dX5_isFree_81 rfl ?_
                refine lv_goto (tgt := 86) hx hb dX5_isFree_82 (by decide) ?_
                refine lv_istore_n (lv' := [(2, .int (iI (1 : Int))), (0, .ref hm), (1, .int (iI ((k : Nat) : Int))), (3, .int (iI ((i : Nat) : Int)))]) hx hb dX5_isFree_86 rfl hl (by decide) rfl (fun ls hl => ?_)
                refine lv_iinc (v := iI ((i + 1 : Nat) : Int)) (lv' := [(3, .int (iI ((i + 1 : Nat) : Int))), (2, .int (iI (1 : Int))), (0, .ref hm), (1, .int (iI ((k : Nat) : Int)))]) hx hb dX5_isFree_87 hl (k := 3) rfl (iA (by omega)) (by decide) rfl (fun ls hl => ?_)
                refine lv_goto (tgt := 4) hx hb dX5_isFree_90 (by decide) ?_
                have hl9 : lv_has ls 4 [(0, .ref hm), (1, .int (iI ((k : Nat) : Int))), (2, .int (kb (decide (frB P L S A0 T0 k (i + 1) = true)))), (3, .int (iI (((i + 1) : Nat) : Int)))] := by
                  have hl := lv_sub hl [2, 3, 1, 0] rfl
                  rw [← kb1 (show frB P L S A0 T0 k (i + 1) = true from frB_y c13 (by omega))]
                  exact hl
                exact ih4 (i + 1) _ _ _ (by omega) (by omega) hP hD hS hl9
              · skip
                have c38 := iI_eqF (a := (S i : Int)) (b := (-1 : Int)) c38 (by omega)
                refine lv_aload_n hx hb dX5_isFree_41 rfl (lv_at hl 0 rfl) ?_
                refine va_get (D := D) (ci := 5) (v := .ref y4) (C := RX5) (T := TX5) (N := 26) hx hb hts hi_X5 hown hK hP 0 rfl rfl 17 (by decide) fl40 (fun _ h9 => h9) rfl dX5_isFree_42 ?_
                refine lv_iload_n hx hb dX5_isFree_45 rfl (lv_at hl 3 rfl) ?_
                refine k_iald hx hb hK hP 4 0 rfl rfl i (by omega) dX5_isFree_46 ?_
                refine kn_i (y := iI (A0 i : Int)) (rfl) ?_
                refine lv_iconst (v := iI (1 : Int)) hx hb dX5_isFree_47 rfl ?_
                refine lv_icmp_eq (tgt := 81) hx hb dX5_isFree_48 (by decide) (fun c48 => ?_) (fun c48 => ?_)
                · skip
                  have c48 := iI_eqT (a := (A0 i : Int)) (b := (1 : Int)) c48 (by omega)
                  refine lv_iconst (v := iI (1 : Int)) hx hb dX5_isFree_81 rfl ?_
                  refine lv_goto (tgt := 86) hx hb dX5_isFree_82 (by decide) ?_
                  refine lv_istore_n (lv' := [(2, .int (iI (1 : Int))), (0, .ref hm), (1, .int (iI ((k : Nat) : Int))), (3, .int (iI ((i : Nat) : Int)))]) hx hb dX5_isFree_86 rfl hl (by decide) rfl (fun ls hl => ?_)
                  refine lv_iinc (v := iI ((i + 1 : Nat) : Int)) (lv' := [(3, .int (iI ((i + 1 : Nat) : Int))), (2, .int (iI (1 : Int))), (0, .ref hm), (1, .int (iI ((k : Nat) : Int)))]) hx hb dX5_isFree_87 hl (k := 3) rfl (iA (by omega)) (by decide) rfl (fun ls hl => ?_)
                  refine lv_goto (tgt := 4) hx hb dX5_isFree_90 (by decide) ?_
                  have hl9 : lv_has ls 4 [(0, .ref hm), (1, .int (iI ((k : Nat) : Int))), (2, .int (kb (decide (frB P L S A0 T0 k (i + 1) = true)))), (3, .int (iI (((i + 1) : Nat) : Int)))] := by
                    have hl := lv_sub hl [2, 3, 1, 0] rfl
                    rw [← kb1 (show frB P L S A0 T0 k (i + 1) = true from frB_y c13 (by omega))]
                    exact hl
                  exact ih4 (i + 1) _ _ _ (by omega) (by omega) hP hD hS hl9
                · skip
                  have c48 := iI_eqF (a := (A0 i : Int)) (b := (1 : Int)) c48 (by omega)
                  refine lv_aload_n hx hb dX5_isFree_51 rfl (lv_at hl 0 rfl) ?_
                  refine va_get (D := D) (ci := 5) (v := .ref y1) (C := RX5) (T := TX5) (N := 26) hx hb hts hi_X5 hown hK hP 0 rfl rfl 14 (by decide) fl31 (fun _ h9 => h9) rfl dX5_isFree_52 ?_
                  refine lv_iload_n hx hb dX5_isFree_55 rfl (lv_at hl 1 rfl) ?_
                  refine k_iald hx hb hK hP 1 0 rfl rfl k (by omega) dX5_isFree_56 ?_
                  refine kn_i (y := iI (P k : Int)) (rfl) ?_
                  refine lv_aload_n hx hb dX5_isFree_57 rfl (lv_at hl 0 rfl) ?_
                  refine va_get (D := D) (ci := 5) (v := .ref y2) (C := RX5) (T := TX5) (N := 26) hx hb hts hi_X5 hown hK hP 0 rfl rfl 15 (by decide) fl34 (fun _ h9 => h9) rfl dX5_isFree_58 ?_
                  refine lv_iload_n hx hb dX5_isFree_61 rfl (lv_at hl 1 rfl) ?_
                  refine k_iald hx hb hK hP 2 0 rfl rfl k (by omega) dX5_isFree_62 ?_
                  refine kn_i (y := iI (L k : Int)) (rfl) ?_
                  refine lv_aload_n hx hb dX5_isFree_63 rfl (lv_at hl 0 rfl) ?_
                  refine va_get (D := D) (ci := 5) (v := .ref y3) (C := RX5) (T := TX5) (N := 26) hx hb hts hi_X5 hown hK hP 0 rfl rfl 16 (by decide) fl37 (fun _ h9 => h9) rfl dX5_isFree_64 ?_
                  refine lv_iload_n hx hb dX5_isFree_67 rfl (lv_at hl 3 rfl) ?_
                  refine k_iald hx hb hK hP 3 0 rfl rfl i (by omega) dX5_isFree_68 ?_
                  refine kn_i (y := iI (S i : Int)) (rfl) ?_
                  refine lv_aload_n hx hb dX5_isFree_69 rfl (lv_at hl 0 rfl) ?_
                  refine va_get (D := D) (ci := 5) (v := .ref y2) (C := RX5) (T := TX5) (N := 26) hx hb hts hi_X5 hown hK hP 0 rfl rfl 15 (by decide) fl34 (fun _ h9 => h9) rfl dX5_isFree_70 ?_
                  refine lv_iload_n hx hb dX5_isFree_73 rfl (lv_at hl 3 rfl) ?_
                  refine k_iald hx hb hK hP 2 0 rfl rfl i (by omega) dX5_isFree_74 ?_
                  refine kn_i (y := iI (L i : Int)) (rfl) ?_
                  refine k_calli (wc := []) (wr := [(hm, .inr (5, [.int cd, .ref x1, .ref x2, .ref x3, .ref x4, .ref x5, .ref x6, .ref x7, .int (iI ((kt : Nat) : Int)), .int (iI ((k1 : Nat) : Int)), .int (iI ((k2 : Nat) : Int)), .int (iI ((k3 : Nat) : Int)), .int (iI ((k4 : Nat) : Int)), .int (iI ((k5 : Nat) : Int)), .ref y1, .ref y2, .ref y3, .ref y4, .ref y5, .ref y6, .ref y7, .int (iI ((ms : Nat) : Int)), .int (iI ((kw : Nat) : Int)), .int (iI ((kd : Nat) : Int)), .int (iI ((ma : Nat) : Int)), .int (iI (lk : Int))])), (y1, .inl (cI, 300, .inl (kA P))), (y2, .inl (cI, 300, .inl (kA L))), (y3, .inl (cI, 300, .inl (kA S))), (y4, .inl (cI, 300, .inl (kA A0))), (y5, .inl (cI, 300, .inl (kA T0)))]) (wf := fun _ => [(hm, .inr (5, [.int cd, .ref x1, .ref x2, .ref x3, .ref x4, .ref x5, .ref x6, .ref x7, .int (iI ((kt : Nat) : Int)), .int (iI ((k1 : Nat) : Int)), .int (iI ((k2 : Nat) : Int)), .int (iI ((k3 : Nat) : Int)), .int (iI ((k4 : Nat) : Int)), .int (iI ((k5 : Nat) : Int)), .ref y1, .ref y2, .ref y3, .ref y4, .ref y5, .ref y6, .ref y7, .int (iI ((ms : Nat) : Int)), .int (iI ((kw : Nat) : Int)), .int (iI ((kd : Nat) : Int)), .int (iI ((ma : Nat) : Int)), .int (iI (lk : Int))])), (y1, .inl (cI, 300, .inl (kA P))), (y2, .inl (cI, 300, .inl (kA L))), (y3, .inl (cI, 300, .inl (kA S))), (y4, .inl (cI, 300, .inl (kA A0))), (y5, .inl (cI, 300, .inl (kA T0)))]) hK hP hD hS hA [] [0, 1, 2, 3, 4, 5] [0, 1, 2, 3, 4, 5] ⟨⟨rfl, rfl, by decide⟩, rfl, by decide, by decide⟩ (fun _ => ⟨rfl, rfl⟩) (by decide) (fun hPc hDc => va_runS (As := [.int (iI (P k : Int)), .int (iI (L k : Int)), .int (iI (S i : Int)), .int (iI (L i : Int))]) (rest := []) ⟨hx, hb, hml, hown, hts⟩ (c_Mo_meets l D cI cZ (z1 := P k) (z2 := L k) (z3 := S i) (z4 := L i) (hz := by omega) _) (cwS 4 hts (kgS wm648 wm649 wm44 wmcX5_meets) rfl rfl rfl (by decide +kernel) ⟨Nat.le_of_ble_eq_true rfl, Nat.le_of_ble_eq_true rfl⟩) (k_preS hK hPc hDc) rfl rfl hl.1 rfl (lv_room (Nat.le_of_ble_eq_true rfl)) dX5_isFree_75 ⟨Nat.le_of_ble_eq_true rfl, Nat.le_of_ble_eq_true rfl⟩) (fun r75 u H locs hw hP hD hS => ?_)
                  have hP : va_P D vwCl [(hm, .inr (5, [.int cd, .ref x1, .ref x2, .ref x3, .ref x4, .ref x5, .ref x6, .ref x7, .int (iI ((kt : Nat) : Int)), .int (iI ((k1 : Nat) : Int)), .int (iI ((k2 : Nat) : Int)), .int (iI ((k3 : Nat) : Int)), .int (iI ((k4 : Nat) : Int)), .int (iI ((k5 : Nat) : Int)), .ref y1, .ref y2, .ref y3, .ref y4, .ref y5, .ref y6, .ref y7, .int (iI ((ms : Nat) : Int)), .int (iI ((kw : Nat) : Int)), .int (iI ((kd : Nat) : Int)), .int (iI ((ma : Nat) : Int)), .int (iI (lk : Int))])), (y1, .inl (cI, 300, .inl (kA P))), (y2, .inl (cI, 300, .inl (kA L))), (y3, .inl (cI, 300, .inl (kA S))), (y4, .inl (cI, 300, .inl (kA A0))), (y5, .inl (cI, 300, .inl (kA T0)))] H := hP
                  have hD : va_D A [(hm, .inr (5, [.int cd, .ref x1, .ref x2, .ref x3, .ref x4, .ref x5, .ref x6, .ref x7, .int (iI ((kt : Nat) : Int)), .int (iI ((k1 : Nat) : Int)), .int (iI ((k2 : Nat) : Int)), .int (iI ((k3 : Nat) : Int)), .int (iI ((k4 : Nat) : Int)), .int (iI ((k5 : Nat) : Int)), .ref y1, .ref y2, .ref y3, .ref y4, .ref y5, .ref y6, .ref y7, .int (iI ((ms : Nat) : Int)), .int (iI ((kw : Nat) : Int)), .int (iI ((kd : Nat) : Int)), .int (iI ((ma : Nat) : Int)), .int (iI (lk : Int))])), (y1, .inl (cI, 300, .inl (kA P))), (y2, .inl (cI, 300, .inl (kA L))), (y3, .inl (cI, 300, .inl (kA S))), (y4, .inl (cI, 300, .inl (kA A0))), (y5, .inl (cI, 300, .inl (kA T0)))] := hD
                  refine W.widen (k := 0) (n := 0) (Nat.le_of_ble_eq_true rfl) (Nat.le_of_ble_eq_true rfl) ?_
                  have hw : r75 = kb (decide ((P k) < (S i) + (L i) ∧ (S i) < (P k) + (L k))) := hw
                  subst hw
                  refine lv_if_ne (tgt := 85) hx hb dX5_isFree_78 (by decide) (fun c78 => ?_) (fun c78 => ?_)
                  · skip
                    have c78 : (P k) < (S i) + (L i) ∧ (S i) < (P k) + (L k) := of_decide_eq_true (kb_F c78)
                    refine lv_iconst (v := iI (0 : Int)) hx hb dX5_isFree_85 rfl ?_
                    refine lv_istore_n (lv' := [(2, .int (iI (0 : Int))), (0, .ref hm), (1, .int (iI ((k : Nat) : Int))), (3, .int (iI ((i : Nat) : Int)))]) hx hb dX5_isFree_86 rfl hl (by decide) rfl (fun ls hl => ?_)
                    refine lv_iinc (v := iI ((i + 1 : Nat) : Int)) (lv' := [(3, .int (iI ((i + 1 : Nat) : Int))), (2, .int (iI (0 : Int))), (0, .ref hm), (1, .int (iI ((k : Nat) : Int)))]) hx hb dX5_isFree_87 hl (k := 3) rfl (iA (by omega)) (by decide) rfl (fun ls hl => ?_)
                    refine lv_goto (tgt := 4) hx hb dX5_isFree_90 (by decide) ?_
                    have hl9 : lv_has ls 4 [(0, .ref hm), (1, .int (iI ((k : Nat) : Int))), (2, .int (kb (decide (frB P L S A0 T0 k (i + 1) = true)))), (3, .int (iI (((i + 1) : Nat) : Int)))] := by
                      have hl := lv_sub hl [2, 3, 1, 0] rfl
                      rw [← kb0 (show ¬ frB P L S A0 T0 k (i + 1) = true from frB_n (by omega))]
                      exact hl
                    exact ih4 (i + 1) _ _ _ (by omega) (by omega) hP hD hS hl9
                  · skip
                    have c78 : ¬ ((P k) < (S i) + (L i) ∧ (S i) < (P k) + (L k)) := of_decide_eq_false (kb_T c78)
                    refine lv_iconst (v := iI (1 : Int)) hx hb dX5_isFree_81 rfl ?_
                    refine lv_goto (tgt := 86) hx hb dX5_isFree_82 (by decide) ?_
                    refine lv_istore_n (lv' := [(2, .int (iI (1 : Int))), (0, .ref hm), (1, .int (iI ((k : Nat) : Int))), (3, .int (iI ((i : Nat) : Int)))]) hx hb dX5_isFree_86 rfl hl (by decide) rfl (fun ls hl => ?_)
                    refine lv_iinc (v := iI ((i + 1 : Nat) : Int)) (lv' := [(3, .int (iI ((i + 1 : Nat) : Int))), (2, .int (iI (1 : Int))), (0, .ref hm), (1, .int (iI ((k : Nat) : Int)))]) hx hb dX5_isFree_87 hl (k := 3) rfl (iA (by omega)) (by decide) rfl (fun ls hl => ?_)
                    refine lv_goto (tgt := 4) hx hb dX5_isFree_90 (by decide) ?_
                    have hl9 : lv_has ls 4 [(0, .ref hm), (1, .int (iI ((k : Nat) : Int))), (2, .int (kb (decide (frB P L S A0 T0 k (i + 1) = true)))), (3, .int (iI (((i + 1) : Nat) : Int)))] := by
                      have hl := lv_sub hl [2, 3, 1, 0] rfl
                      rw [← kb1 (show frB P L S A0 T0 k (i + 1) = true from frB_y c13 (by omega))]
                      exact hl
                    exact ih4 (i + 1) _ _ _ (by omega) (by omega) hP hD hS hl9
  exact lp4 _ 0 _ _ _ (Nat.lt_succ_self _) (by omega) hP hD hS (lv_sub hl [2, 3, 1, 0] rfl)

abbrev rm_c_Mo_shortest : Room := { frames := 0, cells := 0, slots := 0, locals := 0 }
set_option maxHeartbeats 4000000 in
set_option maxRecDepth 100000 in
theorem c_Mo_shortest (l : Launch) (D : va_G) (cI cZ : ClassId) (hm : Nat) (cd : Int32) (x1 : Nat) (x2 : Nat) (x3 : Nat) (x4 : Nat) (x5 : Nat) (x6 : Nat) (x7 : Nat) (kt : Nat) (k1 : Nat) (k2 : Nat) (k3 : Nat) (k4 : Nat) (k5 : Nat) (y1 : Nat) (y2 : Nat) (y3 : Nat) (y4 : Nat) (y5 : Nat) (y6 : Nat) (y7 : Nat) (ms : Nat) (kw : Nat) (kd : Nat) (ma : Nat) (lk : Int) (P : Nat → Int) (L : Nat → Int) (S : Nat → Int) (nb : Nat) (ng : Nat) (A0 : Nat → Int) (T0 : Nat → Int) (hW : LW P L S ms nb ng) (hnb : nb ≤ 300) (hng : ng ≤ 300) (hA0 : ∀ i, i < ms → A0 i = 0 ∨ A0 i = 1) (hTr : ∀ i, i < ms → -1 ≤ T0 i ∧ T0 i ≤ 1000) : MI l yX5_shortest wsX5_shortest rm_c_Mo_shortest D (kT cI cZ) [.ref hm] [(hm, .inr (5, [.int cd, .ref x1, .ref x2, .ref x3, .ref x4, .ref x5, .ref x6, .ref x7, .int (iI ((kt : Nat) : Int)), .int (iI ((k1 : Nat) : Int)), .int (iI ((k2 : Nat) : Int)), .int (iI ((k3 : Nat) : Int)), .int (iI ((k4 : Nat) : Int)), .int (iI ((k5 : Nat) : Int)), .ref y1, .ref y2, .ref y3, .ref y4, .ref y5, .ref y6, .ref y7, .int (iI ((ms : Nat) : Int)), .int (iI ((kw : Nat) : Int)), .int (iI ((kd : Nat) : Int)), .int (iI ((ma : Nat) : Int)), .int (iI (lk : Int))])), (y1, .inl (cI, 300, .inl (kA P))), (y2, .inl (cI, 300, .inl (kA L))), (y3, .inl (cI, 300, .inl (kA S))), (y4, .inl (cI, 300, .inl (kA A0))), (y5, .inl (cI, 300, .inl (kA T0)))] (fun (r : Int32) (_ : Unit) => r = iI (fbF L S A0 T0 ms : Int)) (fun (u : Unit) => match u with | _ => [(hm, .inr (5, [.int cd, .ref x1, .ref x2, .ref x3, .ref x4, .ref x5, .ref x6, .ref x7, .int (iI ((kt : Nat) : Int)), .int (iI ((k1 : Nat) : Int)), .int (iI ((k2 : Nat) : Int)), .int (iI ((k3 : Nat) : Int)), .int (iI ((k4 : Nat) : Int)), .int (iI ((k5 : Nat) : Int)), .ref y1, .ref y2, .ref y3, .ref y4, .ref y5, .ref y6, .ref y7, .int (iI ((ms : Nat) : Int)), .int (iI ((kw : Nat) : Int)), .int (iI ((kd : Nat) : Int)), .int (iI ((ma : Nat) : Int)), .int (iI (lk : Int))])), (y1, .inl (cI, 300, .inl (kA P))), (y2, .inl (cI, 300, .inl (kA L))), (y3, .inl (cI, 300, .inl (kA S))), (y4, .inl (cI, 300, .inl (kA A0))), (y5, .inl (cI, 300, .inl (kA T0)))]) 0 0 := by
  intro sz
  refine k_of (cc := cX5_shortest) (maxL := 3) (ret := (some .int)) (by decide) rfl (Nat.le_of_ble_eq_true rfl) ?_
  intro p e s m args below meth c A Q hAe hQ hx hb hr hml hts hown hlocks hnm hP hK hD hS hA ls hl
  have hl : lv_has ls 3 [(0, .ref hm)] := hl
  have hi_X5 : ∀ w ∈ u_ws RX5 TX5 26, w ∈ wsX5_shortest := fun w h => km (ikX5 w h)
  have fl88 := hts _ (km wm496)
  have fl43 := hts _ (km wm493)
  have fl37 := hts _ (km wm491)
  have fl40 := hts _ (km wm492)
  have fl34 := hts _ (km wm490)
  have hcn := hW.2.2.2.2
  refine lv_iconst (v := iI (-1 : Int)) hx hb dX5_shortest_0 rfl ?_
  refine lv_istore_n (lv' := [(1, .int (iI (-1 : Int))), (0, .ref hm)]) hx hb dX5_shortest_1 rfl hl (by decide) rfl (fun ls hl => ?_)
  refine lv_iconst (v := iI ((0 : Nat) : Int)) hx hb dX5_shortest_2 rfl ?_
  refine lv_istore_n (lv' := [(2, .int (iI ((0 : Nat) : Int))), (1, .int (iI (-1 : Int))), (0, .ref hm)]) hx hb dX5_shortest_3 rfl hl (by decide) rfl (fun ls hl => ?_)
  have lp4 : ∀ (fu : Nat) (k : Nat) (H : Heap) (locs : List Loc) (ls : Array Slot), ms - k < fu → (k ≤ ms) → va_P D vwCl [(hm, .inr (5, [.int cd, .ref x1, .ref x2, .ref x3, .ref x4, .ref x5, .ref x6, .ref x7, .int (iI ((kt : Nat) : Int)), .int (iI ((k1 : Nat) : Int)), .int (iI ((k2 : Nat) : Int)), .int (iI ((k3 : Nat) : Int)), .int (iI ((k4 : Nat) : Int)), .int (iI ((k5 : Nat) : Int)), .ref y1, .ref y2, .ref y3, .ref y4, .ref y5, .ref y6, .ref y7, .int (iI ((ms : Nat) : Int)), .int (iI ((kw : Nat) : Int)), .int (iI ((kd : Nat) : Int)), .int (iI ((ma : Nat) : Int)), .int (iI (lk : Int))])), (y1, .inl (cI, 300, .inl (kA P))), (y2, .inl (cI, 300, .inl (kA L))), (y3, .inl (cI, 300, .inl (kA S))), (y4, .inl (cI, 300, .inl (kA A0))), (y5, .inl (cI, 300, .inl (kA T0)))] H → va_D A [(hm, .inr (5, [.int cd, .ref x1, .ref x2, .ref x3, .ref x4, .ref x5, .ref x6, .ref x7, .int (iI ((kt : Nat) : Int)), .int (iI ((k1 : Nat) : Int)), .int (iI ((k2 : Nat) : Int)), .int (iI ((k3 : Nat) : Int)), .int (iI ((k4 : Nat) : Int)), .int (iI ((k5 : Nat) : Int)), .ref y1, .ref y2, .ref y3, .ref y4, .ref y5, .ref y6, .ref y7, .int (iI ((ms : Nat) : Int)), .int (iI ((kw : Nat) : Int)), .int (iI ((kd : Nat) : Int)), .int (iI ((ma : Nat) : Int)), .int (iI (lk : Int))])), (y1, .inl (cI, 300, .inl (kA P))), (y2, .inl (cI, 300, .inl (kA L))), (y3, .inl (cI, 300, .inl (kA S))), (y4, .inl (cI, 300, .inl (kA A0))), (y5, .inl (cI, 300, .inl (kA T0)))] → va_S A s.heap H locs → lv_has ls 3 [(0, .ref hm), (1, .int (iI ((fbF L S A0 T0 k) : Int))), (2, .int (iI ((k : Nat) : Int)))] → W p l e rm_c_Mo_shortest s m args below meth c H locs 0 0 Q (F0 m 4 ls []) := by
    intro fu
    induction fu with
    | zero => intro k H locs ls hfu; exact absurd hfu (Nat.not_lt_zero _)
    | succ fu ih4 =>
      intro k H locs ls hfu hk hP hD hS hl
      refine lv_iload_n hx hb dX5_shortest_4 rfl (lv_at hl 2 rfl) ?_
      refine lv_aload_n hx hb dX5_shortest_5 rfl (lv_at hl 0 rfl) ?_
      refine va_get (D := D) (ci := 5) (v := .int (iI ((ms : Nat) : Int))) (C := RX5) (T := TX5) (N := 26) hx hb hts hi_X5 hown hK hP 0 rfl rfl 21 (by decide) fl88 (fun _ h9 => h9) rfl dX5_shortest_6 ?_
      refine lv_icmp_ge (tgt := 69) hx hb dX5_shortest_9 (by decide) (fun c9 => ?_) (fun c9 => ?_)
      · skip
        have c9 := iI_leT (a := ((ms : Nat) : Int)) (b := ((k : Nat) : Int)) c9 (by omega)
        refine lv_iload_n hx hb dX5_shortest_69 rfl (lv_at hl 1 rfl) ?_
        exact k_iret () hx hb hr hlocks hK hP hD hS [0, 1, 2, 3, 4, 5] (by decide) rfl rfl ((by rw [show k = ms by omega])) hAe hQ dX5_shortest_70
      · skip
        have c9 := iI_leF (a := ((ms : Nat) : Int)) (b := ((k : Nat) : Int)) c9 (by omega)
        have hwk := hW.1 k (by omega)
        have hAk := hA0 k (by omega)
        have hTk := hTr k (by omega)
        have hfb := fbF_rng (L := L) (S := S) (A := A0) (T := T0) k
        refine lv_aload_n hx hb dX5_shortest_12 rfl (lv_at hl 0 rfl) ?_
        refine va_get (D := D) (ci := 5) (v := .ref y5) (C := RX5) (T := TX5) (N := 26) hx hb hts hi_X5 hown hK hP 0 rfl rfl 18 (by decide) fl43 (fun _ h9 => h9) rfl dX5_shortest_13 ?_
        refine lv_iload_n hx hb dX5_shortest_16 rfl (lv_at hl 2 rfl) ?_
        refine k_iald hx hb hK hP 5 0 rfl rfl k (by omega) dX5_shortest_17 ?_
        refine kn_i (y := iI (T0 k : Int)) (rfl) ?_
        refine lv_iconst (v := iI (-1 : Int)) hx hb dX5_shortest_18 rfl ?_
        refine lv_icmp_ne (tgt := 63) hx hb dX5_shortest_19 (by decide) (fun c19 => ?_) (fun c19 => ?_)
        · skip
          have c19 := iI_eqF (a := (T0 k : Int)) (b := (-1 : Int)) c19 (by omega)
          refine lv_iinc (v := iI ((k + 1 : Nat) : Int)) (lv' := [(2, .int (iI ((k + 1 : Nat) : Int))), (0, .ref hm), (1, .int (iI ((fbF L S A0 T0 k) : Int)))]) hx hb dX5_shortest_63 hl (k := 2) rfl (iA (by omega)) (by decide) rfl (fun ls hl => ?_)
          refine lv_goto (tgt := 4) hx hb dX5_shortest_66 (by decide) ?_
          have hl9 : lv_has ls 3 [(0, .ref hm), (1, .int (iI ((fbF L S A0 T0 (k + 1)) : Int))), (2, .int (iI (((k + 1) : Nat) : Int)))] := by
            have hl := lv_sub hl [1, 2, 0] rfl
            rw [fbF_n (fun h => by omega)]
            exact hl
          exact ih4 (k + 1) _ _ _ (by omega) (by omega) hP hD hS hl9
        · skip
          have c19 := iI_eqT (a := (T0 k : Int)) (b := (-1 : Int)) c19 (by omega)
          refine lv_aload_n hx hb dX5_shortest_22 rfl (lv_at hl 0 rfl) ?_
          refine va_get (D := D) (ci := 5) (v := .ref y3) (C := RX5) (T := TX5) (N := 26) hx hb hts hi_X5 hown hK hP 0 rfl rfl 16 (by decide) fl37 (fun _ h9 => h9) rfl dX5_shortest_23 ?_
          refine lv_iload_n hx hb dX5_shortest_26 rfl (lv_at hl 2 rfl) ?_
          refine k_iald hx hb hK hP 3 0 rfl rfl k (by omega) dX5_shortest_27 ?_
          refine kn_i (y := iI (S k : Int)) (rfl) ?_
          refine lv_iconst (v := iI (-1 : Int)) hx hb dX5_shortest_28 rfl ?_
          refine lv_icmp_eq (tgt := 63) hx hb dX5_shortest_29 (by decide) (fun c29 => ?_) (fun c29 => ?_)
          · skip
            have c29 := iI_eqT (a := (S k : Int)) (b := (-1 : Int)) c29 (by omega)
            refine lv_iinc (v := iI ((k + 1 : Nat) : Int)) (lv' := [(2, .int (iI ((k + 1 : Nat) : Int))), (0, .ref hm), (1, .int (iI ((fbF L S A0 T0 k) : Int)))]) hx hb dX5_shortest_63 hl (k := 2) rfl (iA (by omega)) (by decide) rfl (fun ls hl => ?_)
            refine lv_goto (tgt := 4) hx hb dX5_shortest_66 (by decide) ?_
            have hl9 : lv_has ls 3 [(0, .ref hm), (1, .int (iI ((fbF L S A0 T0 (k + 1)) : Int))), (2, .int (iI (((k + 1) : Nat) : Int)))] := by
              have hl := lv_sub hl [1, 2, 0] rfl
              rw [fbF_n (fun h => by omega)]
              exact hl
            exact ih4 (k + 1) _ _ _ (by omega) (by omega) hP hD hS hl9
          · skip
            have c29 := iI_eqF (a := (S k : Int)) (b := (-1 : Int)) c29 (by omega)
            refine lv_aload_n hx hb dX5_shortest_32 rfl (lv_at hl 0 rfl) ?_
            refine va_get (D := D) (ci := 5) (v := .ref y4) (C := RX5) (T := TX5) (N := 26) hx hb hts hi_X5 hown hK hP 0 rfl rfl 17 (by decide) fl40 (fun _ h9 => h9) rfl dX5_shortest_33 ?_
            refine lv_iload_n hx hb dX5_shortest_36 rfl (lv_at hl 2 rfl) ?_
            refine k_iald hx hb hK hP 4 0 rfl rfl k (by omega) dX5_shortest_37 ?_
            refine kn_i (y := iI (A0 k : Int)) (rfl) ?_
            refine lv_if_ne (tgt := 63) hx hb dX5_shortest_38 (by decide) (fun c38 => ?_) (fun c38 => ?_)
            · skip
              have c38 := iI_eqF (a := (A0 k : Int)) (b := (0 : Int)) c38 (by omega)
              refine lv_iinc (v := iI ((k + 1 : Nat) : Int)) (lv' := [(2, .int (iI ((k + 1 : Nat) : Int))), (0, .ref hm), (1, .int (iI ((fbF L S A0 T0 k) : Int)))]) hx hb dX5_shortest_63 hl (k := 2) rfl (iA (by omega)) (by decide) rfl (fun ls hl => ?_)
              refine lv_goto (tgt := 4) hx hb dX5_shortest_66 (by decide) ?_
              have hl9 : lv_has ls 3 [(0, .ref hm), (1, .int (iI ((fbF L S A0 T0 (k + 1)) : Int))), (2, .int (iI (((k + 1) : Nat) : Int)))] := by
                have hl := lv_sub hl [1, 2, 0] rfl
                rw [fbF_n (fun h => by omega)]
                exact hl
              exact ih4 (k + 1) _ _ _ (by omega) (by omega) hP hD hS hl9
            · skip
              have c38 := iI_eqT (a := (A0 k : Int)) (b := (0 : Int)) c38 (by omega)
              refine lv_iload_n hx hb dX5_shortest_41 rfl (lv_at hl 1 rfl) ?_
              refine lv_iconst (v := iI (-1 : Int)) hx hb dX5_shortest_42 rfl ?_
              refine lv_icmp_eq (tgt := 61) hx hb dX5_shortest_43 (by decide) (fun c43 => ?_) (fun c43 => ?_)
              · skip
                have c43 := iI_eqT (a := ((fbF L S A0 T0 k) : Int)) (b := (-1 : Int)) c43 (by omega)
                refine lv_iload_n hx hb dX5_shortest_61 rfl (lv_at hl 2 rfl) ?_
                refine lv_istore_n (lv' := [(1, .int (iI ((k : Nat) : Int))), (0, .ref hm), (2, .int (iI ((k : Nat) : Int)))]) hx hb dX5_shortest_62 rfl hl (by decide) rfl (fun ls hl => ?_)
                refine lv_iinc (v := iI ((k + 1 : Nat) : Int)) (lv' := [(2, .int (iI ((k + 1 : Nat) : Int))), (1, .int (iI ((k : Nat) : Int))), (0, .ref hm)]) hx hb dX5_shortest_63 hl (k := 2) rfl (iA (by omega)) (by decide) rfl (fun ls hl => ?_)
                refine lv_goto (tgt := 4) hx hb dX5_shortest_66 (by decide) ?_
                have hl9 : lv_has ls 3 [(0, .ref hm), (1, .int (iI ((fbF L S A0 T0 (k + 1)) : Int))), (2, .int (iI (((k + 1) : Nat) : Int)))] := by
                  have hl := lv_sub hl [2, 1, 0] rfl
                  rw [fbF_y (by omega) (by omega)]
                  exact hl
                exact ih4 (k + 1) _ _ _ (by omega) (by omega) hP hD hS hl9
              · skip
                have c43 := iI_eqF (a := ((fbF L S A0 T0 k) : Int)) (b := (-1 : Int)) c43 (by omega)
                have hw5 := hW.1 (fbF L S A0 T0 k).toNat (by omega)
                refine lv_aload_n hx hb dX5_shortest_46 rfl (lv_at hl 0 rfl) ?_
                refine va_get (D := D) (ci := 5) (v := .ref y2) (C := RX5) (T := TX5) (N := 26) hx hb hts hi_X5 hown hK hP 0 rfl rfl 15 (by decide) fl34 (fun _ h9 => h9) rfl dX5_shortest_47 ?_
                refine lv_iload_n hx hb dX5_shortest_50 rfl (lv_at hl 2 rfl) ?_
                refine k_iald hx hb hK hP 2 0 rfl rfl k (by omega) dX5_shortest_51 ?_
                refine kn_i (y := iI (L k : Int)) (rfl) ?_
                refine lv_aload_n hx hb dX5_shortest_52 rfl (lv_at hl 0 rfl) ?_
                refine va_get (D := D) (ci := 5) (v := .ref y2) (C := RX5) (T := TX5) (N := 26) hx hb hts hi_X5 hown hK hP 0 rfl rfl 15 (by decide) fl34 (fun _ h9 => h9) rfl dX5_shortest_53 ?_
                refine lv_iload_n hx hb dX5_shortest_56 rfl (lv_at hl 1 rfl) ?_
                refine k_iald hx hb hK hP 2 0 rfl rfl ((fbF L S A0 T0 k).toNat) (by omega) dX5_shortest_57 ?_
                refine kn_i (y := iI (L (fbF L S A0 T0 k).toNat : Int)) (rfl) ?_
                refine lv_icmp_ge (tgt := 63) hx hb dX5_shortest_58 (by decide) (fun c58 => ?_) (fun c58 => ?_)
                · skip
                  have c58 := iI_leT (a := (L (fbF L S A0 T0 k).toNat : Int)) (b := (L k : Int)) c58 (by omega)
                  refine lv_iinc (v := iI ((k + 1 : Nat) : Int)) (lv' := [(2, .int (iI ((k + 1 : Nat) : Int))), (0, .ref hm), (1, .int (iI ((fbF L S A0 T0 k) : Int)))]) hx hb dX5_shortest_63 hl (k := 2) rfl (iA (by omega)) (by decide) rfl (fun ls hl => ?_)
                  refine lv_goto (tgt := 4) hx hb dX5_shortest_66 (by decide) ?_
                  have hl9 : lv_has ls 3 [(0, .ref hm), (1, .int (iI ((fbF L S A0 T0 (k + 1)) : Int))), (2, .int (iI (((k + 1) : Nat) : Int)))] := by
                    have hl := lv_sub hl [1, 2, 0] rfl
                    rw [fbF_n (fun h => by omega)]
                    exact hl
                  exact ih4 (k + 1) _ _ _ (by omega) (by omega) hP hD hS hl9
                · skip
                  have c58 := iI_leF (a := (L (fbF L S A0 T0 k).toNat : Int)) (b := (L k : Int)) c58 (by omega)
                  refine lv_iload_n hx hb dX5_shortest_61 rfl (lv_at hl 2 rfl) ?_
                  refine lv_istore_n (lv' := [(1, .int (iI ((k : Nat) : Int))), (0, .ref hm), (2, .int (iI ((k : Nat) : Int)))]) hx hb dX5_shortest_62 rfl hl (by decide) rfl (fun ls hl => ?_)
                  refine lv_iinc (v := iI ((k + 1 : Nat) : Int)) (lv' := [(2, .int (iI ((k + 1 : Nat) : Int))), (1, .int (iI ((k : Nat) : Int))), (0, .ref hm)]) hx hb dX5_shortest_63 hl (k := 2) rfl (iA (by omega)) (by decide) rfl (fun ls hl => ?_)
                  refine lv_goto (tgt := 4) hx hb dX5_shortest_66 (by decide) ?_
                  have hl9 : lv_has ls 3 [(0, .ref hm), (1, .int (iI ((fbF L S A0 T0 (k + 1)) : Int))), (2, .int (iI (((k + 1) : Nat) : Int)))] := by
                    have hl := lv_sub hl [2, 1, 0] rfl
                    rw [fbF_y (by omega) (by omega)]
                    exact hl
                  exact ih4 (k + 1) _ _ _ (by omega) (by omega) hP hD hS hl9
  exact lp4 _ 0 _ _ _ (Nat.lt_succ_self _) (by omega) hP hD hS (lv_sub hl [2, 1, 0] rfl)

abbrev rm_c_Mo_write : Room := { frames := 0, cells := 0, slots := 0, locals := 0 }
set_option maxHeartbeats 4000000 in
set_option maxRecDepth 100000 in
theorem c_Mo_write (l : Launch) (D : va_G) (cI cZ : ClassId) (hm : Nat) (cd : Int32) (x1 : Nat) (x2 : Nat) (x3 : Nat) (x4 : Nat) (x5 : Nat) (x6 : Nat) (x7 : Nat) (kt : Nat) (k1 : Nat) (k2 : Nat) (k3 : Nat) (k4 : Nat) (k5 : Nat) (y1 : Nat) (y2 : Nat) (y3 : Nat) (y4 : Nat) (y5 : Nat) (y6 : Nat) (y7 : Nat) (ms : Nat) (kw : Nat) (kd : Nat) (ma : Nat) (lk : Int) (P : Nat → Int) (L : Nat → Int) (S : Nat → Int) (nb : Nat) (ng : Nat) (A0 : Nat → Int) (g5 : Nat → Int32) (g6 : Nat → Int32) (g8 : Nat → Int32) (k : Nat) (hW : LW P L S ms nb ng) (hnb : nb ≤ 300) (hng : ng ≤ 300) (hA0 : ∀ i, i < ms → A0 i = 0 ∨ A0 i = 1) (hk : k < ms) : MV l yX5_write wsX5_write rm_c_Mo_write D (kT cI cZ) [.ref hm, .int (iI ((k : Nat) : Int))] [(hm, .inr (5, [.int cd, .ref x1, .ref x2, .ref x3, .ref x4, .ref x5, .ref x6, .ref x7, .int (iI ((kt : Nat) : Int)), .int (iI ((k1 : Nat) : Int)), .int (iI ((k2 : Nat) : Int)), .int (iI ((k3 : Nat) : Int)), .int (iI ((k4 : Nat) : Int)), .int (iI ((k5 : Nat) : Int)), .ref y1, .ref y2, .ref y3, .ref y4, .ref y5, .ref y6, .ref y7, .int (iI ((ms : Nat) : Int)), .int (iI ((kw : Nat) : Int)), .int (iI ((kd : Nat) : Int)), .int (iI ((ma : Nat) : Int)), .int (iI (lk : Int))])), (y1, .inl (cI, 300, .inl (kA P))), (y2, .inl (cI, 300, .inl (kA L))), (y3, .inl (cI, 300, .inl (kA S))), (y4, .inl (cI, 300, .inl (kA A0))), (x6, .inl (cI, 300, .inl g5)), (x7, .inl (cI, 300, .inl g6)), (y7, .inl (cI, 300, .inl g8))] (fun (_ : Unit) => True) (fun (u : Unit) => match u with | _ => [(hm, .inr (5, [.int cd, .ref x1, .ref x2, .ref x3, .ref x4, .ref x5, .ref x6, .ref x7, .int (iI ((kt : Nat) : Int)), .int (iI ((k1 : Nat) : Int)), .int (iI ((k2 : Nat) : Int)), .int (iI ((k3 : Nat) : Int)), .int (iI ((k4 : Nat) : Int)), .int (iI ((k5 : Nat) : Int)), .ref y1, .ref y2, .ref y3, .ref y4, .ref y5, .ref y6, .ref y7, .int (iI ((ms : Nat) : Int)), .int (iI ((kw : Nat) : Int)), .int (iI ((kd : Nat) : Int)), .int (iI ((ma : Nat) : Int)), .int (iI (lk : Int))])), (y1, .inl (cI, 300, .inl (kA P))), (y2, .inl (cI, 300, .inl (kA L))), (y3, .inl (cI, 300, .inl (kA S))), (y4, .inl (cI, 300, .inl (kA A0))), (x6, .inl (cI, 300, .inl (va_cpy (wrH P L S A0 g8 k g5 g6) g5 (P k).toNat (P k).toNat (L k).toNat))), (x7, .inl (cI, 300, .inl (wrH P L S A0 g8 k g5 g6))), (y7, .inl (cI, 300, .inl g8))]) 0 0 := by
  intro sz
  refine k_of (cc := cX5_write) (maxL := 3) (ret := none) (by decide) rfl (Nat.le_of_ble_eq_true rfl) ?_
  intro p e s m args below meth c A Q hAe hQ hx hb hr hml hts hown hlocks hnm hP hK hD hS hA ls hl
  have hl : lv_has ls 3 [(0, .ref hm), (1, .int (iI ((k : Nat) : Int)))] := hl
  have hi_X5 : ∀ w ∈ u_ws RX5 TX5 26, w ∈ wsX5_write := fun w h => km (ikX5 w h)
  have fl34 := hts _ (km wm490)
  have fl40 := hts _ (km wm492)
  have fl28 := hts _ (km wm482)
  have fl31 := hts _ (km wm489)
  have fl37 := hts _ (km wm491)
  have fl49 := hts _ (km wm495)
  have fl25 := hts _ (km wm481)
  have hcn := hW.2.2.2.2
  have hwk := hW.1 k hk
  have hAk := hA0 k hk
  rcases (show (A0 k = 0 ∧ S k = -1) ∨ (A0 k = 0 ∧ ¬ S k = -1) ∨ (¬ A0 k = 0) by omega) with hlb | hlb | hlb
  · skip
    refine lv_iconst (v := iI ((0 : Nat) : Int)) hx hb dX5_write_0 rfl ?_
    refine lv_istore_n (lv' := [(2, .int (iI ((0 : Nat) : Int))), (0, .ref hm), (1, .int (iI ((k : Nat) : Int)))]) hx hb dX5_write_1 rfl hl (by decide) rfl (fun ls hl => ?_)
    have lp2 : ∀ (fu : Nat) (j : Nat) (H : Heap) (locs : List Loc) (ls : Array Slot), (L k).toNat - j < fu → (j ≤ (L k).toNat) → va_P D vwCl [(hm, .inr (5, [.int cd, .ref x1, .ref x2, .ref x3, .ref x4, .ref x5, .ref x6, .ref x7, .int (iI ((kt : Nat) : Int)), .int (iI ((k1 : Nat) : Int)), .int (iI ((k2 : Nat) : Int)), .int (iI ((k3 : Nat) : Int)), .int (iI ((k4 : Nat) : Int)), .int (iI ((k5 : Nat) : Int)), .ref y1, .ref y2, .ref y3, .ref y4, .ref y5, .ref y6, .ref y7, .int (iI ((ms : Nat) : Int)), .int (iI ((kw : Nat) : Int)), .int (iI ((kd : Nat) : Int)), .int (iI ((ma : Nat) : Int)), .int (iI (lk : Int))])), (y1, .inl (cI, 300, .inl (kA P))), (y2, .inl (cI, 300, .inl (kA L))), (y3, .inl (cI, 300, .inl (kA S))), (y4, .inl (cI, 300, .inl (kA A0))), (x6, .inl (cI, 300, .inl g5)), (x7, .inl (cI, 300, .inl (va_cpy g8 g6 (P k).toNat (P k).toNat j))), (y7, .inl (cI, 300, .inl g8))] H → va_D A [(hm, .inr (5, [.int cd, .ref x1, .ref x2, .ref x3, .ref x4, .ref x5, .ref x6, .ref x7, .int (iI ((kt : Nat) : Int)), .int (iI ((k1 : Nat) : Int)), .int (iI ((k2 : Nat) : Int)), .int (iI ((k3 : Nat) : Int)), .int (iI ((k4 : Nat) : Int)), .int (iI ((k5 : Nat) : Int)), .ref y1, .ref y2, .ref y3, .ref y4, .ref y5, .ref y6, .ref y7, .int (iI ((ms : Nat) : Int)), .int (iI ((kw : Nat) : Int)), .int (iI ((kd : Nat) : Int)), .int (iI ((ma : Nat) : Int)), .int (iI (lk : Int))])), (y1, .inl (cI, 300, .inl (kA P))), (y2, .inl (cI, 300, .inl (kA L))), (y3, .inl (cI, 300, .inl (kA S))), (y4, .inl (cI, 300, .inl (kA A0))), (x6, .inl (cI, 300, .inl g5)), (x7, .inl (cI, 300, .inl (va_cpy g8 g6 (P k).toNat (P k).toNat j))), (y7, .inl (cI, 300, .inl g8))] → va_S A s.heap H locs → lv_has ls 3 [(0, .ref hm), (1, .int (iI ((k : Nat) : Int))), (2, .int (iI ((j : Nat) : Int)))] → W p l e rm_c_Mo_write s m args below meth c H locs 0 0 Q (F0 m 2 ls []) := by
      intro fu
      induction fu with
      | zero => intro j H locs ls hfu; exact absurd hfu (Nat.not_lt_zero _)
      | succ fu ih2 =>
        intro j H locs ls hfu hj hP hD hS hl
        refine lv_iload_n hx hb dX5_write_2 rfl (lv_at hl 2 rfl) ?_
        refine lv_aload_n hx hb dX5_write_3 rfl (lv_at hl 0 rfl) ?_
        refine va_get (D := D) (ci := 5) (v := .ref y2) (C := RX5) (T := TX5) (N := 26) hx hb hts hi_X5 hown hK hP 0 rfl rfl 15 (by decide) fl34 (fun _ h9 => h9) rfl dX5_write_4 ?_
        refine lv_iload_n hx hb dX5_write_7 rfl (lv_at hl 1 rfl) ?_
        refine k_iald hx hb hK hP 2 0 rfl rfl k (by omega) dX5_write_8 ?_
        refine kn_i (y := iI (L k : Int)) (rfl) ?_
        refine lv_icmp_ge (tgt := 79) hx hb dX5_write_9 (by decide) (fun c9 => ?_) (fun c9 => ?_)
        · skip
          have c9 := iI_leT (a := (L k : Int)) (b := ((j : Nat) : Int)) c9 (by omega)
          rw [show (va_cpy g8 g6 (P k).toNat (P k).toNat j) = (wrH P L S A0 g8 k g5 g6) from (by unfold wrH; rw [if_pos (by omega), if_pos (by omega), show j = (L k).toNat by omega])] at hP hD
          refine lv_iconst (v := iI ((0 : Nat) : Int)) hx hb dX5_write_79 rfl ?_
          refine lv_istore_n (lv' := [(2, .int (iI ((0 : Nat) : Int))), (0, .ref hm), (1, .int (iI ((k : Nat) : Int)))]) hx hb dX5_write_80 rfl hl (by decide) rfl (fun ls hl => ?_)
          have lp81 : ∀ (fu : Nat) (j : Nat) (H : Heap) (locs : List Loc) (ls : Array Slot), (L k).toNat - j < fu → (j ≤ (L k).toNat) → va_P D vwCl [(hm, .inr (5, [.int cd, .ref x1, .ref x2, .ref x3, .ref x4, .ref x5, .ref x6, .ref x7, .int (iI ((kt : Nat) : Int)), .int (iI ((k1 : Nat) : Int)), .int (iI ((k2 : Nat) : Int)), .int (iI ((k3 : Nat) : Int)), .int (iI ((k4 : Nat) : Int)), .int (iI ((k5 : Nat) : Int)), .ref y1, .ref y2, .ref y3, .ref y4, .ref y5, .ref y6, .ref y7, .int (iI ((ms : Nat) : Int)), .int (iI ((kw : Nat) : Int)), .int (iI ((kd : Nat) : Int)), .int (iI ((ma : Nat) : Int)), .int (iI (lk : Int))])), (y1, .inl (cI, 300, .inl (kA P))), (y2, .inl (cI, 300, .inl (kA L))), (y3, .inl (cI, 300, .inl (kA S))), (y4, .inl (cI, 300, .inl (kA A0))), (x6, .inl (cI, 300, .inl (va_cpy (wrH P L S A0 g8 k g5 g6) g5 (P k).toNat (P k).toNat j))), (x7, .inl (cI, 300, .inl (wrH P L S A0 g8 k g5 g6))), (y7, .inl (cI, 300, .inl g8))] H → va_D A [(hm, .inr (5, [.int cd, .ref x1, .ref x2, .ref x3, .ref x4, .ref x5, .ref x6, .ref x7, .int (iI ((kt : Nat) : Int)), .int (iI ((k1 : Nat) : Int)), .int (iI ((k2 : Nat) : Int)), .int (iI ((k3 : Nat) : Int)), .int (iI ((k4 : Nat) : Int)), .int (iI ((k5 : Nat) : Int)), .ref y1, .ref y2, .ref y3, .ref y4, .ref y5, .ref y6, .ref y7, .int (iI ((ms : Nat) : Int)), .int (iI ((kw : Nat) : Int)), .int (iI ((kd : Nat) : Int)), .int (iI ((ma : Nat) : Int)), .int (iI (lk : Int))])), (y1, .inl (cI, 300, .inl (kA P))), (y2, .inl (cI, 300, .inl (kA L))), (y3, .inl (cI, 300, .inl (kA S))), (y4, .inl (cI, 300, .inl (kA A0))), (x6, .inl (cI, 300, .inl (va_cpy (wrH P L S A0 g8 k g5 g6) g5 (P k).toNat (P k).toNat j))), (x7, .inl (cI, 300, .inl (wrH P L S A0 g8 k g5 g6))), (y7, .inl (cI, 300, .inl g8))] → va_S A s.heap H locs → lv_has ls 3 [(0, .ref hm), (1, .int (iI ((k : Nat) : Int))), (2, .int (iI ((j : Nat) : Int)))] → W p l e rm_c_Mo_write s m args below meth c H locs 0 0 Q (F0 m 81 ls []) := by
            intro fu
            induction fu with
            | zero => intro j H locs ls hfu; exact absurd hfu (Nat.not_lt_zero _)
            | succ fu ih81 =>
              intro j H locs ls hfu hj hP hD hS hl
              refine lv_iload_n hx hb dX5_write_81 rfl (lv_at hl 2 rfl) ?_
              refine lv_aload_n hx hb dX5_write_82 rfl (lv_at hl 0 rfl) ?_
              refine va_get (D := D) (ci := 5) (v := .ref y2) (C := RX5) (T := TX5) (N := 26) hx hb hts hi_X5 hown hK hP 0 rfl rfl 15 (by decide) fl34 (fun _ h9 => h9) rfl dX5_write_83 ?_
              refine lv_iload_n hx hb dX5_write_86 rfl (lv_at hl 1 rfl) ?_
              refine k_iald hx hb hK hP 2 0 rfl rfl k (by omega) dX5_write_87 ?_
              refine kn_i (y := iI (L k : Int)) (rfl) ?_
              refine lv_icmp_ge (tgt := 123) hx hb dX5_write_88 (by decide) (fun c88 => ?_) (fun c88 => ?_)
              · skip
                have c88 := iI_leT (a := (L k : Int)) (b := ((j : Nat) : Int)) c88 (by omega)
                rw [show (va_cpy (wrH P L S A0 g8 k g5 g6) g5 (P k).toNat (P k).toNat j) = (va_cpy (wrH P L S A0 g8 k g5 g6) g5 (P k).toNat (P k).toNat (L k).toNat) from (by rw [show j = (L k).toNat by omega])] at hP hD
                exact k_vret () hx hb hr hlocks hK hP hD hS [0, 1, 2, 3, 4, 5, 6, 7] (by decide) rfl rfl (trivial) hAe hQ dX5_write_123
              · skip
                have c88 := iI_leF (a := (L k : Int)) (b := ((j : Nat) : Int)) c88 (by omega)
                refine lv_aload_n hx hb dX5_write_91 rfl (lv_at hl 0 rfl) ?_
                refine va_get (D := D) (ci := 5) (v := .ref x6) (C := RX5) (T := TX5) (N := 26) hx hb hts hi_X5 hown hK hP 0 rfl rfl 6 (by decide) fl25 (fun _ h9 => h9) rfl dX5_write_92 ?_
                refine lv_aload_n hx hb dX5_write_95 rfl (lv_at hl 0 rfl) ?_
                refine va_get (D := D) (ci := 5) (v := .ref y1) (C := RX5) (T := TX5) (N := 26) hx hb hts hi_X5 hown hK hP 0 rfl rfl 14 (by decide) fl31 (fun _ h9 => h9) rfl dX5_write_96 ?_
                refine lv_iload_n hx hb dX5_write_99 rfl (lv_at hl 1 rfl) ?_
                refine k_iald hx hb hK hP 1 0 rfl rfl k (by omega) dX5_write_100 ?_
                refine kn_i (y := iI (P k : Int)) (rfl) ?_
                refine lv_iload_n hx hb dX5_write_101 rfl (lv_at hl 2 rfl) ?_
                refine lv_iadd hx hb dX5_write_102 ?_
                refine kn_i (iA (c := (((P k).toNat + j : Nat) : Int)) (by omega)) ?_
                refine lv_aload_n hx hb dX5_write_103 rfl (lv_at hl 0 rfl) ?_
                refine va_get (D := D) (ci := 5) (v := .ref x7) (C := RX5) (T := TX5) (N := 26) hx hb hts hi_X5 hown hK hP 0 rfl rfl 7 (by decide) fl28 (fun _ h9 => h9) rfl dX5_write_104 ?_
                refine lv_aload_n hx hb dX5_write_107 rfl (lv_at hl 0 rfl) ?_
                refine va_get (D := D) (ci := 5) (v := .ref y1) (C := RX5) (T := TX5) (N := 26) hx hb hts hi_X5 hown hK hP 0 rfl rfl 14 (by decide) fl31 (fun _ h9 => h9) rfl dX5_write_108 ?_
                refine lv_iload_n hx hb dX5_write_111 rfl (lv_at hl 1 rfl) ?_
                refine k_iald hx hb hK hP 1 0 rfl rfl k (by omega) dX5_write_112 ?_
                refine kn_i (y := iI (P k : Int)) (rfl) ?_
                refine lv_iload_n hx hb dX5_write_113 rfl (lv_at hl 2 rfl) ?_
                refine lv_iadd hx hb dX5_write_114 ?_
                refine kn_i (iA (c := (((P k).toNat + j : Nat) : Int)) (by omega)) ?_
                refine k_iald hx hb hK hP 6 0 rfl rfl ((P k).toNat + j) (by omega) dX5_write_115 ?_
                refine k_iast hx hb hK hP hD hS 5 0 rfl rfl ((P k).toNat + j) (by omega) dX5_write_116 (fun H locs hP hD hS => ?_)
                have hP : va_P D vwCl [(hm, .inr (5, [.int cd, .ref x1, .ref x2, .ref x3, .ref x4, .ref x5, .ref x6, .ref x7, .int (iI ((kt : Nat) : Int)), .int (iI ((k1 : Nat) : Int)), .int (iI ((k2 : Nat) : Int)), .int (iI ((k3 : Nat) : Int)), .int (iI ((k4 : Nat) : Int)), .int (iI ((k5 : Nat) : Int)), .ref y1, .ref y2, .ref y3, .ref y4, .ref y5, .ref y6, .ref y7, .int (iI ((ms : Nat) : Int)), .int (iI ((kw : Nat) : Int)), .int (iI ((kd : Nat) : Int)), .int (iI ((ma : Nat) : Int)), .int (iI (lk : Int))])), (y1, .inl (cI, 300, .inl (kA P))), (y2, .inl (cI, 300, .inl (kA L))), (y3, .inl (cI, 300, .inl (kA S))), (y4, .inl (cI, 300, .inl (kA A0))), (x6, .inl (cI, 300, .inl (upd (va_cpy (wrH P L S A0 g8 k g5 g6) g5 (P k).toNat (P k).toNat j) ((P k).toNat + j) (((wrH P L S A0 g8 k g5 g6) ((P k).toNat + j)))))), (x7, .inl (cI, 300, .inl (wrH P L S A0 g8 k g5 g6))), (y7, .inl (cI, 300, .inl g8))] H := hP
                have hD : va_D A [(hm, .inr (5, [.int cd, .ref x1, .ref x2, .ref x3, .ref x4, .ref x5, .ref x6, .ref x7, .int (iI ((kt : Nat) : Int)), .int (iI ((k1 : Nat) : Int)), .int (iI ((k2 : Nat) : Int)), .int (iI ((k3 : Nat) : Int)), .int (iI ((k4 : Nat) : Int)), .int (iI ((k5 : Nat) : Int)), .ref y1, .ref y2, .ref y3, .ref y4, .ref y5, .ref y6, .ref y7, .int (iI ((ms : Nat) : Int)), .int (iI ((kw : Nat) : Int)), .int (iI ((kd : Nat) : Int)), .int (iI ((ma : Nat) : Int)), .int (iI (lk : Int))])), (y1, .inl (cI, 300, .inl (kA P))), (y2, .inl (cI, 300, .inl (kA L))), (y3, .inl (cI, 300, .inl (kA S))), (y4, .inl (cI, 300, .inl (kA A0))), (x6, .inl (cI, 300, .inl (upd (va_cpy (wrH P L S A0 g8 k g5 g6) g5 (P k).toNat (P k).toNat j) ((P k).toNat + j) (((wrH P L S A0 g8 k g5 g6) ((P k).toNat + j)))))), (x7, .inl (cI, 300, .inl (wrH P L S A0 g8 k g5 g6))), (y7, .inl (cI, 300, .inl g8))] := hD
                rw [show (upd (va_cpy (wrH P L S A0 g8 k g5 g6) g5 (P k).toNat (P k).toNat j) ((P k).toNat + j) (((wrH P L S A0 g8 k g5 g6) ((P k).toNat + j)))) = (va_cpy (wrH P L S A0 g8 k g5 g6) g5 (P k).toNat (P k).toNat (j + 1)) from cpy_s] at hP hD
                refine lv_iinc (v := iI ((j + 1 : Nat) : Int)) (lv' := [(2, .int (iI ((j + 1 : Nat) : Int))), (0, .ref hm), (1, .int (iI ((k : Nat) : Int)))]) hx hb dX5_write_117 hl (k := 2) rfl (iA (by omega)) (by decide) rfl (fun ls hl => ?_)
                refine lv_goto (tgt := 81) hx hb dX5_write_120 (by decide) ?_
                exact ih81 (j + 1) _ _ _ (by omega) (by omega) hP hD hS (lv_sub hl [1, 2, 0] rfl)
          have hP : va_P D vwCl [(hm, .inr (5, [.int cd, .ref x1, .ref x2, .ref x3, .ref x4, .ref x5, .ref x6, .ref x7, .int (iI ((kt : Nat) : Int)), .int (iI ((k1 : Nat) : Int)), .int (iI ((k2 : Nat) : Int)), .int (iI ((k3 : Nat) : Int)), .int (iI ((k4 : Nat) : Int)), .int (iI ((k5 : Nat) : Int)), .ref y1, .ref y2, .ref y3, .ref y4, .ref y5, .ref y6, .ref y7, .int (iI ((ms : Nat) : Int)), .int (iI ((kw : Nat) : Int)), .int (iI ((kd : Nat) : Int)), .int (iI ((ma : Nat) : Int)), .int (iI (lk : Int))])), (y1, .inl (cI, 300, .inl (kA P))), (y2, .inl (cI, 300, .inl (kA L))), (y3, .inl (cI, 300, .inl (kA S))), (y4, .inl (cI, 300, .inl (kA A0))), (x6, .inl (cI, 300, .inl (va_cpy (wrH P L S A0 g8 k g5 g6) g5 (P k).toNat (P k).toNat 0))), (x7, .inl (cI, 300, .inl (wrH P L S A0 g8 k g5 g6))), (y7, .inl (cI, 300, .inl g8))] H := by rw [cpy_0]; exact hP
          have hD : va_D A [(hm, .inr (5, [.int cd, .ref x1, .ref x2, .ref x3, .ref x4, .ref x5, .ref x6, .ref x7, .int (iI ((kt : Nat) : Int)), .int (iI ((k1 : Nat) : Int)), .int (iI ((k2 : Nat) : Int)), .int (iI ((k3 : Nat) : Int)), .int (iI ((k4 : Nat) : Int)), .int (iI ((k5 : Nat) : Int)), .ref y1, .ref y2, .ref y3, .ref y4, .ref y5, .ref y6, .ref y7, .int (iI ((ms : Nat) : Int)), .int (iI ((kw : Nat) : Int)), .int (iI ((kd : Nat) : Int)), .int (iI ((ma : Nat) : Int)), .int (iI (lk : Int))])), (y1, .inl (cI, 300, .inl (kA P))), (y2, .inl (cI, 300, .inl (kA L))), (y3, .inl (cI, 300, .inl (kA S))), (y4, .inl (cI, 300, .inl (kA A0))), (x6, .inl (cI, 300, .inl (va_cpy (wrH P L S A0 g8 k g5 g6) g5 (P k).toNat (P k).toNat 0))), (x7, .inl (cI, 300, .inl (wrH P L S A0 g8 k g5 g6))), (y7, .inl (cI, 300, .inl g8))] := by rw [cpy_0]; exact hD
          exact lp81 _ 0 _ _ _ (Nat.lt_succ_self _) (by omega) hP hD hS (lv_sub hl [1, 2, 0] rfl)
        · skip
          have c9 := iI_leF (a := (L k : Int)) (b := ((j : Nat) : Int)) c9 (by omega)
          refine lv_aload_n hx hb dX5_write_12 rfl (lv_at hl 0 rfl) ?_
          refine va_get (D := D) (ci := 5) (v := .ref y4) (C := RX5) (T := TX5) (N := 26) hx hb hts hi_X5 hown hK hP 0 rfl rfl 17 (by decide) fl40 (fun _ h9 => h9) rfl dX5_write_13 ?_
          refine lv_iload_n hx hb dX5_write_16 rfl (lv_at hl 1 rfl) ?_
          refine k_iald hx hb hK hP 4 0 rfl rfl k (by omega) dX5_write_17 ?_
          refine kn_i (y := iI (A0 k : Int)) (rfl) ?_
          refine lv_if_ne (tgt := 73) hx hb dX5_write_18 (by decide) (fun c18 => ?_) (fun c18 => ?_)
          · skip
            have c18 := iI_eqF (a := (A0 k : Int)) (b := (0 : Int)) c18 (by omega)
            omega
          · skip
            have c18 := iI_eqT (a := (A0 k : Int)) (b := (0 : Int)) c18 (by omega)
            refine lv_aload_n hx hb dX5_write_21 rfl (lv_at hl 0 rfl) ?_
            refine va_get (D := D) (ci := 5) (v := .ref x7) (C := RX5) (T := TX5) (N := 26) hx hb hts hi_X5 hown hK hP 0 rfl rfl 7 (by decide) fl28 (fun _ h9 => h9) rfl dX5_write_22 ?_
            refine lv_aload_n hx hb dX5_write_25 rfl (lv_at hl 0 rfl) ?_
            refine va_get (D := D) (ci := 5) (v := .ref y1) (C := RX5) (T := TX5) (N := 26) hx hb hts hi_X5 hown hK hP 0 rfl rfl 14 (by decide) fl31 (fun _ h9 => h9) rfl dX5_write_26 ?_
            refine lv_iload_n hx hb dX5_write_29 rfl (lv_at hl 1 rfl) ?_
            refine k_iald hx hb hK hP 1 0 rfl rfl k (by omega) dX5_write_30 ?_
            refine kn_i (y := iI (P k : Int)) (rfl) ?_
            refine lv_iload_n hx hb dX5_write_31 rfl (lv_at hl 2 rfl) ?_
            refine lv_iadd hx hb dX5_write_32 ?_
            refine kn_i (iA (c := (((P k).toNat + j : Nat) : Int)) (by omega)) ?_
            refine lv_aload_n hx hb dX5_write_33 rfl (lv_at hl 0 rfl) ?_
            refine va_get (D := D) (ci := 5) (v := .ref y3) (C := RX5) (T := TX5) (N := 26) hx hb hts hi_X5 hown hK hP 0 rfl rfl 16 (by decide) fl37 (fun _ h9 => h9) rfl dX5_write_34 ?_
            refine lv_iload_n hx hb dX5_write_37 rfl (lv_at hl 1 rfl) ?_
            refine k_iald hx hb hK hP 3 0 rfl rfl k (by omega) dX5_write_38 ?_
            refine kn_i (y := iI (S k : Int)) (rfl) ?_
            refine lv_iconst (v := iI (-1 : Int)) hx hb dX5_write_39 rfl ?_
            refine lv_icmp_ne (tgt := 59) hx hb dX5_write_40 (by decide) (fun c40 => ?_) (fun c40 => ?_)
            · skip
              have c40 := iI_eqF (a := (S k : Int)) (b := (-1 : Int)) c40 (by omega)
              omega
            · skip
              have c40 := iI_eqT (a := (S k : Int)) (b := (-1 : Int)) c40 (by omega)
              refine lv_aload_n hx hb dX5_write_43 rfl (lv_at hl 0 rfl) ?_
              refine va_get (D := D) (ci := 5) (v := .ref y7) (C := RX5) (T := TX5) (N := 26) hx hb hts hi_X5 hown hK hP 0 rfl rfl 20 (by decide) fl49 (fun _ h9 => h9) rfl dX5_write_44 ?_
              refine lv_aload_n hx hb dX5_write_47 rfl (lv_at hl 0 rfl) ?_
              refine va_get (D := D) (ci := 5) (v := .ref y1) (C := RX5) (T := TX5) (N := 26) hx hb hts hi_X5 hown hK hP 0 rfl rfl 14 (by decide) fl31 (fun _ h9 => h9) rfl dX5_write_48 ?_
              refine lv_iload_n hx hb dX5_write_51 rfl (lv_at hl 1 rfl) ?_
              refine k_iald hx hb hK hP 1 0 rfl rfl k (by omega) dX5_write_52 ?_
              refine kn_i (y := iI (P k : Int)) (rfl) ?_
              refine lv_iload_n hx hb dX5_write_53 rfl (lv_at hl 2 rfl) ?_
              refine lv_iadd hx hb dX5_write_54 ?_
              refine kn_i (iA (c := (((P k).toNat + j : Nat) : Int)) (by omega)) ?_
              refine k_iald hx hb hK hP 7 0 rfl rfl ((P k).toNat + j) (by omega) dX5_write_55 ?_
              refine lv_goto (tgt := 72) hx hb dX5_write_56 (by decide) ?_
              refine k_iast hx hb hK hP hD hS 6 0 rfl rfl ((P k).toNat + j) (by omega) dX5_write_72 (fun H locs hP hD hS => ?_)
              have hP : va_P D vwCl [(hm, .inr (5, [.int cd, .ref x1, .ref x2, .ref x3, .ref x4, .ref x5, .ref x6, .ref x7, .int (iI ((kt : Nat) : Int)), .int (iI ((k1 : Nat) : Int)), .int (iI ((k2 : Nat) : Int)), .int (iI ((k3 : Nat) : Int)), .int (iI ((k4 : Nat) : Int)), .int (iI ((k5 : Nat) : Int)), .ref y1, .ref y2, .ref y3, .ref y4, .ref y5, .ref y6, .ref y7, .int (iI ((ms : Nat) : Int)), .int (iI ((kw : Nat) : Int)), .int (iI ((kd : Nat) : Int)), .int (iI ((ma : Nat) : Int)), .int (iI (lk : Int))])), (y1, .inl (cI, 300, .inl (kA P))), (y2, .inl (cI, 300, .inl (kA L))), (y3, .inl (cI, 300, .inl (kA S))), (y4, .inl (cI, 300, .inl (kA A0))), (x6, .inl (cI, 300, .inl g5)), (x7, .inl (cI, 300, .inl (upd (va_cpy g8 g6 (P k).toNat (P k).toNat j) ((P k).toNat + j) ((g8 ((P k).toNat + j)))))), (y7, .inl (cI, 300, .inl g8))] H := hP
              have hD : va_D A [(hm, .inr (5, [.int cd, .ref x1, .ref x2, .ref x3, .ref x4, .ref x5, .ref x6, .ref x7, .int (iI ((kt : Nat) : Int)), .int (iI ((k1 : Nat) : Int)), .int (iI ((k2 : Nat) : Int)), .int (iI ((k3 : Nat) : Int)), .int (iI ((k4 : Nat) : Int)), .int (iI ((k5 : Nat) : Int)), .ref y1, .ref y2, .ref y3, .ref y4, .ref y5, .ref y6, .ref y7, .int (iI ((ms : Nat) : Int)), .int (iI ((kw : Nat) : Int)), .int (iI ((kd : Nat) : Int)), .int (iI ((ma : Nat) : Int)), .int (iI (lk : Int))])), (y1, .inl (cI, 300, .inl (kA P))), (y2, .inl (cI, 300, .inl (kA L))), (y3, .inl (cI, 300, .inl (kA S))), (y4, .inl (cI, 300, .inl (kA A0))), (x6, .inl (cI, 300, .inl g5)), (x7, .inl (cI, 300, .inl (upd (va_cpy g8 g6 (P k).toNat (P k).toNat j) ((P k).toNat + j) ((g8 ((P k).toNat + j)))))), (y7, .inl (cI, 300, .inl g8))] := hD
              rw [show (upd (va_cpy g8 g6 (P k).toNat (P k).toNat j) ((P k).toNat + j) ((g8 ((P k).toNat + j)))) = (va_cpy g8 g6 (P k).toNat (P k).toNat (j + 1)) from cpy_s] at hP hD
              refine lv_iinc (v := iI ((j + 1 : Nat) : Int)) (lv' := [(2, .int (iI ((j + 1 : Nat) : Int))), (0, .ref hm), (1, .int (iI ((k : Nat) : Int)))]) hx hb dX5_write_73 hl (k := 2) rfl (iA (by omega)) (by decide) rfl (fun ls hl => ?_)
              refine lv_goto (tgt := 2) hx hb dX5_write_76 (by decide) ?_
              exact ih2 (j + 1) _ _ _ (by omega) (by omega) hP hD hS (lv_sub hl [1, 2, 0] rfl)
    rw [show g6 = (va_cpy g8 g6 (P k).toNat (P k).toNat 0) from cpy_0.symm] at hP hD
    exact lp2 _ 0 _ _ _ (Nat.lt_succ_self _) (by omega) hP hD hS (lv_sub hl [1, 2, 0] rfl)
  · skip
    refine lv_iconst (v := iI ((0 : Nat) : Int)) hx hb dX5_write_0 rfl ?_
    refine lv_istore_n (lv' := [(2, .int (iI ((0 : Nat) : Int))), (0, .ref hm), (1, .int (iI ((k : Nat) : Int)))]) hx hb dX5_write_1 rfl hl (by decide) rfl (fun ls hl => ?_)
    have lp2 : ∀ (fu : Nat) (j : Nat) (H : Heap) (locs : List Loc) (ls : Array Slot), (L k).toNat - j < fu → (j ≤ (L k).toNat) → va_P D vwCl [(hm, .inr (5, [.int cd, .ref x1, .ref x2, .ref x3, .ref x4, .ref x5, .ref x6, .ref x7, .int (iI ((kt : Nat) : Int)), .int (iI ((k1 : Nat) : Int)), .int (iI ((k2 : Nat) : Int)), .int (iI ((k3 : Nat) : Int)), .int (iI ((k4 : Nat) : Int)), .int (iI ((k5 : Nat) : Int)), .ref y1, .ref y2, .ref y3, .ref y4, .ref y5, .ref y6, .ref y7, .int (iI ((ms : Nat) : Int)), .int (iI ((kw : Nat) : Int)), .int (iI ((kd : Nat) : Int)), .int (iI ((ma : Nat) : Int)), .int (iI (lk : Int))])), (y1, .inl (cI, 300, .inl (kA P))), (y2, .inl (cI, 300, .inl (kA L))), (y3, .inl (cI, 300, .inl (kA S))), (y4, .inl (cI, 300, .inl (kA A0))), (x6, .inl (cI, 300, .inl g5)), (x7, .inl (cI, 300, .inl (va_cpy g5 g6 (S k).toNat (P k).toNat j))), (y7, .inl (cI, 300, .inl g8))] H → va_D A [(hm, .inr (5, [.int cd, .ref x1, .ref x2, .ref x3, .ref x4, .ref x5, .ref x6, .ref x7, .int (iI ((kt : Nat) : Int)), .int (iI ((k1 : Nat) : Int)), .int (iI ((k2 : Nat) : Int)), .int (iI ((k3 : Nat) : Int)), .int (iI ((k4 : Nat) : Int)), .int (iI ((k5 : Nat) : Int)), .ref y1, .ref y2, .ref y3, .ref y4, .ref y5, .ref y6, .ref y7, .int (iI ((ms : Nat) : Int)), .int (iI ((kw : Nat) : Int)), .int (iI ((kd : Nat) : Int)), .int (iI ((ma : Nat) : Int)), .int (iI (lk : Int))])), (y1, .inl (cI, 300, .inl (kA P))), (y2, .inl (cI, 300, .inl (kA L))), (y3, .inl (cI, 300, .inl (kA S))), (y4, .inl (cI, 300, .inl (kA A0))), (x6, .inl (cI, 300, .inl g5)), (x7, .inl (cI, 300, .inl (va_cpy g5 g6 (S k).toNat (P k).toNat j))), (y7, .inl (cI, 300, .inl g8))] → va_S A s.heap H locs → lv_has ls 3 [(0, .ref hm), (1, .int (iI ((k : Nat) : Int))), (2, .int (iI ((j : Nat) : Int)))] → W p l e rm_c_Mo_write s m args below meth c H locs 0 0 Q (F0 m 2 ls []) := by
      intro fu
      induction fu with
      | zero => intro j H locs ls hfu; exact absurd hfu (Nat.not_lt_zero _)
      | succ fu ih2 =>
        intro j H locs ls hfu hj hP hD hS hl
        refine lv_iload_n hx hb dX5_write_2 rfl (lv_at hl 2 rfl) ?_
        refine lv_aload_n hx hb dX5_write_3 rfl (lv_at hl 0 rfl) ?_
        refine va_get (D := D) (ci := 5) (v := .ref y2) (C := RX5) (T := TX5) (N := 26) hx hb hts hi_X5 hown hK hP 0 rfl rfl 15 (by decide) fl34 (fun _ h9 => h9) rfl dX5_write_4 ?_
        refine lv_iload_n hx hb dX5_write_7 rfl (lv_at hl 1 rfl) ?_
        refine k_iald hx hb hK hP 2 0 rfl rfl k (by omega) dX5_write_8 ?_
        refine kn_i (y := iI (L k : Int)) (rfl) ?_
        refine lv_icmp_ge (tgt := 79) hx hb dX5_write_9 (by decide) (fun c9 => ?_) (fun c9 => ?_)
        · skip
          have c9 := iI_leT (a := (L k : Int)) (b := ((j : Nat) : Int)) c9 (by omega)
          rw [show (va_cpy g5 g6 (S k).toNat (P k).toNat j) = (wrH P L S A0 g8 k g5 g6) from (by unfold wrH; rw [if_pos (by omega), if_neg (by omega), show j = (L k).toNat by omega])] at hP hD
          refine lv_iconst (v := iI ((0 : Nat) : Int)) hx hb dX5_write_79 rfl ?_
          refine lv_istore_n (lv' := [(2, .int (iI ((0 : Nat) : Int))), (0, .ref hm), (1, .int (iI ((k : Nat) : Int)))]) hx hb dX5_write_80 rfl hl (by decide) rfl (fun ls hl => ?_)
          have lp81 : ∀ (fu : Nat) (j : Nat) (H : Heap) (locs : List Loc) (ls : Array Slot), (L k).toNat - j < fu → (j ≤ (L k).toNat) → va_P D vwCl [(hm, .inr (5, [.int cd, .ref x1, .ref x2, .ref x3, .ref x4, .ref x5, .ref x6, .ref x7, .int (iI ((kt : Nat) : Int)), .int (iI ((k1 : Nat) : Int)), .int (iI ((k2 : Nat) : Int)), .int (iI ((k3 : Nat) : Int)), .int (iI ((k4 : Nat) : Int)), .int (iI ((k5 : Nat) : Int)), .ref y1, .ref y2, .ref y3, .ref y4, .ref y5, .ref y6, .ref y7, .int (iI ((ms : Nat) : Int)), .int (iI ((kw : Nat) : Int)), .int (iI ((kd : Nat) : Int)), .int (iI ((ma : Nat) : Int)), .int (iI (lk : Int))])), (y1, .inl (cI, 300, .inl (kA P))), (y2, .inl (cI, 300, .inl (kA L))), (y3, .inl (cI, 300, .inl (kA S))), (y4, .inl (cI, 300, .inl (kA A0))), (x6, .inl (cI, 300, .inl (va_cpy (wrH P L S A0 g8 k g5 g6) g5 (P k).toNat (P k).toNat j))), (x7, .inl (cI, 300, .inl (wrH P L S A0 g8 k g5 g6))), (y7, .inl (cI, 300, .inl g8))] H → va_D A [(hm, .inr (5, [.int cd, .ref x1, .ref x2, .ref x3, .ref x4, .ref x5, .ref x6, .ref x7, .int (iI ((kt : Nat) : Int)), .int (iI ((k1 : Nat) : Int)), .int (iI ((k2 : Nat) : Int)), .int (iI ((k3 : Nat) : Int)), .int (iI ((k4 : Nat) : Int)), .int (iI ((k5 : Nat) : Int)), .ref y1, .ref y2, .ref y3, .ref y4, .ref y5, .ref y6, .ref y7, .int (iI ((ms : Nat) : Int)), .int (iI ((kw : Nat) : Int)), .int (iI ((kd : Nat) : Int)), .int (iI ((ma : Nat) : Int)), .int (iI (lk : Int))])), (y1, .inl (cI, 300, .inl (kA P))), (y2, .inl (cI, 300, .inl (kA L))), (y3, .inl (cI, 300, .inl (kA S))), (y4, .inl (cI, 300, .inl (kA A0))), (x6, .inl (cI, 300, .inl (va_cpy (wrH P L S A0 g8 k g5 g6) g5 (P k).toNat (P k).toNat j))), (x7, .inl (cI, 300, .inl (wrH P L S A0 g8 k g5 g6))), (y7, .inl (cI, 300, .inl g8))] → va_S A s.heap H locs → lv_has ls 3 [(0, .ref hm), (1, .int (iI ((k : Nat) : Int))), (2, .int (iI ((j : Nat) : Int)))] → W p l e rm_c_Mo_write s m args below meth c H locs 0 0 Q (F0 m 81 ls []) := by
            intro fu
            induction fu with
            | zero => intro j H locs ls hfu; exact absurd hfu (Nat.not_lt_zero _)
            | succ fu ih81 =>
              intro j H locs ls hfu hj hP hD hS hl
              refine lv_iload_n hx hb dX5_write_81 rfl (lv_at hl 2 rfl) ?_
              refine lv_aload_n hx hb dX5_write_82 rfl (lv_at hl 0 rfl) ?_
              refine va_get (D := D) (ci := 5) (v := .ref y2) (C := RX5) (T := TX5) (N := 26) hx hb hts hi_X5 hown hK hP 0 rfl rfl 15 (by decide) fl34 (fun _ h9 => h9) rfl dX5_write_83 ?_
              refine lv_iload_n hx hb dX5_write_86 rfl (lv_at hl 1 rfl) ?_
              refine k_iald hx hb hK hP 2 0 rfl rfl k (by omega) dX5_write_87 ?_
              refine kn_i (y := iI (L k : Int)) (rfl) ?_
              refine lv_icmp_ge (tgt := 123) hx hb dX5_write_88 (by decide) (fun c88 => ?_) (fun c88 => ?_)
              · skip
                have c88 := iI_leT (a := (L k : Int)) (b := ((j : Nat) : Int)) c88 (by omega)
                rw [show (va_cpy (wrH P L S A0 g8 k g5 g6) g5 (P k).toNat (P k).toNat j) = (va_cpy (wrH P L S A0 g8 k g5 g6) g5 (P k).toNat (P k).toNat (L k).toNat) from (by rw [show j = (L k).toNat by omega])] at hP hD
                exact k_vret () hx hb hr hlocks hK hP hD hS [0, 1, 2, 3, 4, 5, 6, 7] (by decide) rfl rfl (trivial) hAe hQ dX5_write_123
              · skip
                have c88 := iI_leF (a := (L k : Int)) (b := ((j : Nat) : Int)) c88 (by omega)
                refine lv_aload_n hx hb dX5_write_91 rfl (lv_at hl 0 rfl) ?_
                refine va_get (D := D) (ci := 5) (v := .ref x6) (C := RX5) (T := TX5) (N := 26) hx hb hts hi_X5 hown hK hP 0 rfl rfl 6 (by decide) fl25 (fun _ h9 => h9) rfl dX5_write_92 ?_
                refine lv_aload_n hx hb dX5_write_95 rfl (lv_at hl 0 rfl) ?_
                refine va_get (D := D) (ci := 5) (v := .ref y1) (C := RX5) (T := TX5) (N := 26) hx hb hts hi_X5 hown hK hP 0 rfl rfl 14 (by decide) fl31 (fun _ h9 => h9) rfl dX5_write_96 ?_
                refine lv_iload_n hx hb dX5_write_99 rfl (lv_at hl 1 rfl) ?_
                refine k_iald hx hb hK hP 1 0 rfl rfl k (by omega) dX5_write_100 ?_
                refine kn_i (y := iI (P k : Int)) (rfl) ?_
                refine lv_iload_n hx hb dX5_write_101 rfl (lv_at hl 2 rfl) ?_
                refine lv_iadd hx hb dX5_write_102 ?_
                refine kn_i (iA (c := (((P k).toNat + j : Nat) : Int)) (by omega)) ?_
                refine lv_aload_n hx hb dX5_write_103 rfl (lv_at hl 0 rfl) ?_
                refine va_get (D := D) (ci := 5) (v := .ref x7) (C := RX5) (T := TX5) (N := 26) hx hb hts hi_X5 hown hK hP 0 rfl rfl 7 (by decide) fl28 (fun _ h9 => h9) rfl dX5_write_104 ?_
                refine lv_aload_n hx hb dX5_write_107 rfl (lv_at hl 0 rfl) ?_
                refine va_get (D := D) (ci := 5) (v := .ref y1) (C := RX5) (T := TX5) (N := 26) hx hb hts hi_X5 hown hK hP 0 rfl rfl 14 (by decide) fl31 (fun _ h9 => h9) rfl dX5_write_108 ?_
                refine lv_iload_n hx hb dX5_write_111 rfl (lv_at hl 1 rfl) ?_
                refine k_iald hx hb hK hP 1 0 rfl rfl k (by omega) dX5_write_112 ?_
                refine kn_i (y := iI (P k : Int)) (rfl) ?_
                refine lv_iload_n hx hb dX5_write_113 rfl (lv_at hl 2 rfl) ?_
                refine lv_iadd hx hb dX5_write_114 ?_
                refine kn_i (iA (c := (((P k).toNat + j : Nat) : Int)) (by omega)) ?_
                refine k_iald hx hb hK hP 6 0 rfl rfl ((P k).toNat + j) (by omega) dX5_write_115 ?_
                refine k_iast hx hb hK hP hD hS 5 0 rfl rfl ((P k).toNat + j) (by omega) dX5_write_116 (fun H locs hP hD hS => ?_)
                have hP : va_P D vwCl [(hm, .inr (5, [.int cd, .ref x1, .ref x2, .ref x3, .ref x4, .ref x5, .ref x6, .ref x7, .int (iI ((kt : Nat) : Int)), .int (iI ((k1 : Nat) : Int)), .int (iI ((k2 : Nat) : Int)), .int (iI ((k3 : Nat) : Int)), .int (iI ((k4 : Nat) : Int)), .int (iI ((k5 : Nat) : Int)), .ref y1, .ref y2, .ref y3, .ref y4, .ref y5, .ref y6, .ref y7, .int (iI ((ms : Nat) : Int)), .int (iI ((kw : Nat) : Int)), .int (iI ((kd : Nat) : Int)), .int (iI ((ma : Nat) : Int)), .int (iI (lk : Int))])), (y1, .inl (cI, 300, .inl (kA P))), (y2, .inl (cI, 300, .inl (kA L))), (y3, .inl (cI, 300, .inl (kA S))), (y4, .inl (cI, 300, .inl (kA A0))), (x6, .inl (cI, 300, .inl (upd (va_cpy (wrH P L S A0 g8 k g5 g6) g5 (P k).toNat (P k).toNat j) ((P k).toNat + j) (((wrH P L S A0 g8 k g5 g6) ((P k).toNat + j)))))), (x7, .inl (cI, 300, .inl (wrH P L S A0 g8 k g5 g6))), (y7, .inl (cI, 300, .inl g8))] H := hP
                have hD : va_D A [(hm, .inr (5, [.int cd, .ref x1, .ref x2, .ref x3, .ref x4, .ref x5, .ref x6, .ref x7, .int (iI ((kt : Nat) : Int)), .int (iI ((k1 : Nat) : Int)), .int (iI ((k2 : Nat) : Int)), .int (iI ((k3 : Nat) : Int)), .int (iI ((k4 : Nat) : Int)), .int (iI ((k5 : Nat) : Int)), .ref y1, .ref y2, .ref y3, .ref y4, .ref y5, .ref y6, .ref y7, .int (iI ((ms : Nat) : Int)), .int (iI ((kw : Nat) : Int)), .int (iI ((kd : Nat) : Int)), .int (iI ((ma : Nat) : Int)), .int (iI (lk : Int))])), (y1, .inl (cI, 300, .inl (kA P))), (y2, .inl (cI, 300, .inl (kA L))), (y3, .inl (cI, 300, .inl (kA S))), (y4, .inl (cI, 300, .inl (kA A0))), (x6, .inl (cI, 300, .inl (upd (va_cpy (wrH P L S A0 g8 k g5 g6) g5 (P k).toNat (P k).toNat j) ((P k).toNat + j) (((wrH P L S A0 g8 k g5 g6) ((P k).toNat + j)))))), (x7, .inl (cI, 300, .inl (wrH P L S A0 g8 k g5 g6))), (y7, .inl (cI, 300, .inl g8))] := hD
                rw [show (upd (va_cpy (wrH P L S A0 g8 k g5 g6) g5 (P k).toNat (P k).toNat j) ((P k).toNat + j) (((wrH P L S A0 g8 k g5 g6) ((P k).toNat + j)))) = (va_cpy (wrH P L S A0 g8 k g5 g6) g5 (P k).toNat (P k).toNat (j + 1)) from cpy_s] at hP hD
                refine lv_iinc (v := iI ((j + 1 : Nat) : Int)) (lv' := [(2, .int (iI ((j + 1 : Nat) : Int))), (0, .ref hm), (1, .int (iI ((k : Nat) : Int)))]) hx hb dX5_write_117 hl (k := 2) rfl (iA (by omega)) (by decide) rfl (fun ls hl => ?_)
                refine lv_goto (tgt := 81) hx hb dX5_write_120 (by decide) ?_
                exact ih81 (j + 1) _ _ _ (by omega) (by omega) hP hD hS (lv_sub hl [1, 2, 0] rfl)
          have hP : va_P D vwCl [(hm, .inr (5, [.int cd, .ref x1, .ref x2, .ref x3, .ref x4, .ref x5, .ref x6, .ref x7, .int (iI ((kt : Nat) : Int)), .int (iI ((k1 : Nat) : Int)), .int (iI ((k2 : Nat) : Int)), .int (iI ((k3 : Nat) : Int)), .int (iI ((k4 : Nat) : Int)), .int (iI ((k5 : Nat) : Int)), .ref y1, .ref y2, .ref y3, .ref y4, .ref y5, .ref y6, .ref y7, .int (iI ((ms : Nat) : Int)), .int (iI ((kw : Nat) : Int)), .int (iI ((kd : Nat) : Int)), .int (iI ((ma : Nat) : Int)), .int (iI (lk : Int))])), (y1, .inl (cI, 300, .inl (kA P))), (y2, .inl (cI, 300, .inl (kA L))), (y3, .inl (cI, 300, .inl (kA S))), (y4, .inl (cI, 300, .inl (kA A0))), (x6, .inl (cI, 300, .inl (va_cpy (wrH P L S A0 g8 k g5 g6) g5 (P k).toNat (P k).toNat 0))), (x7, .inl (cI, 300, .inl (wrH P L S A0 g8 k g5 g6))), (y7, .inl (cI, 300, .inl g8))] H := by rw [cpy_0]; exact hP
          have hD : va_D A [(hm, .inr (5, [.int cd, .ref x1, .ref x2, .ref x3, .ref x4, .ref x5, .ref x6, .ref x7, .int (iI ((kt : Nat) : Int)), .int (iI ((k1 : Nat) : Int)), .int (iI ((k2 : Nat) : Int)), .int (iI ((k3 : Nat) : Int)), .int (iI ((k4 : Nat) : Int)), .int (iI ((k5 : Nat) : Int)), .ref y1, .ref y2, .ref y3, .ref y4, .ref y5, .ref y6, .ref y7, .int (iI ((ms : Nat) : Int)), .int (iI ((kw : Nat) : Int)), .int (iI ((kd : Nat) : Int)), .int (iI ((ma : Nat) : Int)), .int (iI (lk : Int))])), (y1, .inl (cI, 300, .inl (kA P))), (y2, .inl (cI, 300, .inl (kA L))), (y3, .inl (cI, 300, .inl (kA S))), (y4, .inl (cI, 300, .inl (kA A0))), (x6, .inl (cI, 300, .inl (va_cpy (wrH P L S A0 g8 k g5 g6) g5 (P k).toNat (P k).toNat 0))), (x7, .inl (cI, 300, .inl (wrH P L S A0 g8 k g5 g6))), (y7, .inl (cI, 300, .inl g8))] := by rw [cpy_0]; exact hD
          exact lp81 _ 0 _ _ _ (Nat.lt_succ_self _) (by omega) hP hD hS (lv_sub hl [1, 2, 0] rfl)
        · skip
          have c9 := iI_leF (a := (L k : Int)) (b := ((j : Nat) : Int)) c9 (by omega)
          refine lv_aload_n hx hb dX5_write_12 rfl (lv_at hl 0 rfl) ?_
          refine va_get (D := D) (ci := 5) (v := .ref y4) (C := RX5) (T := TX5) (N := 26) hx hb hts hi_X5 hown hK hP 0 rfl rfl 17 (by decide) fl40 (fun _ h9 => h9) rfl dX5_write_13 ?_
          refine lv_iload_n hx hb dX5_write_16 rfl (lv_at hl 1 rfl) ?_
          refine k_iald hx hb hK hP 4 0 rfl rfl k (by omega) dX5_write_17 ?_
          refine kn_i (y := iI (A0 k : Int)) (rfl) ?_
          refine lv_if_ne (tgt := 73) hx hb dX5_write_18 (by decide) (fun c18 => ?_) (fun c18 => ?_)
          · skip
            have c18 := iI_eqF (a := (A0 k : Int)) (b := (0 : Int)) c18 (by omega)
            omega
          · skip
            have c18 := iI_eqT (a := (A0 k : Int)) (b := (0 : Int)) c18 (by omega)
            refine lv_aload_n hx hb dX5_write_21 rfl (lv_at hl 0 rfl) ?_
            refine va_get (D := D) (ci := 5) (v := .ref x7) (C := RX5) (T := TX5) (N := 26) hx hb hts hi_X5 hown hK hP 0 rfl rfl 7 (by decide) fl28 (fun _ h9 => h9) rfl dX5_write_22 ?_
            refine lv_aload_n hx hb dX5_write_25 rfl (lv_at hl 0 rfl) ?_
            refine va_get (D := D) (ci := 5) (v := .ref y1) (C := RX5) (T := TX5) (N := 26) hx hb hts hi_X5 hown hK hP 0 rfl rfl 14 (by decide) fl31 (fun _ h9 => h9) rfl dX5_write_26 ?_
            refine lv_iload_n hx hb dX5_write_29 rfl (lv_at hl 1 rfl) ?_
            refine k_iald hx hb hK hP 1 0 rfl rfl k (by omega) dX5_write_30 ?_
            refine kn_i (y := iI (P k : Int)) (rfl) ?_
            refine lv_iload_n hx hb dX5_write_31 rfl (lv_at hl 2 rfl) ?_
            refine lv_iadd hx hb dX5_write_32 ?_
            refine kn_i (iA (c := (((P k).toNat + j : Nat) : Int)) (by omega)) ?_
            refine lv_aload_n hx hb dX5_write_33 rfl (lv_at hl 0 rfl) ?_
            refine va_get (D := D) (ci := 5) (v := .ref y3) (C := RX5) (T := TX5) (N := 26) hx hb hts hi_X5 hown hK hP 0 rfl rfl 16 (by decide) fl37 (fun _ h9 => h9) rfl dX5_write_34 ?_
            refine lv_iload_n hx hb dX5_write_37 rfl (lv_at hl 1 rfl) ?_
            refine k_iald hx hb hK hP 3 0 rfl rfl k (by omega) dX5_write_38 ?_
            refine kn_i (y := iI (S k : Int)) (rfl) ?_
            refine lv_iconst (v := iI (-1 : Int)) hx hb dX5_write_39 rfl ?_
            refine lv_icmp_ne (tgt := 59) hx hb dX5_write_40 (by decide) (fun c40 => ?_) (fun c40 => ?_)
            · skip
              have c40 := iI_eqF (a := (S k : Int)) (b := (-1 : Int)) c40 (by omega)
              refine lv_aload_n hx hb dX5_write_59 rfl (lv_at hl 0 rfl) ?_
              refine va_get (D := D) (ci := 5) (v := .ref x6) (C := RX5) (T := TX5) (N := 26) hx hb hts hi_X5 hown hK hP 0 rfl rfl 6 (by decide) fl25 (fun _ h9 => h9) rfl dX5_write_60 ?_
              refine lv_aload_n hx hb dX5_write_63 rfl (lv_at hl 0 rfl) ?_
              refine va_get (D := D) (ci := 5) (v := .ref y3) (C := RX5) (T := TX5) (N := 26) hx hb hts hi_X5 hown hK hP 0 rfl rfl 16 (by decide) fl37 (fun _ h9 => h9) rfl dX5_write_64 ?_
              refine lv_iload_n hx hb dX5_write_67 rfl (lv_at hl 1 rfl) ?_
              refine k_iald hx hb hK hP 3 0 rfl rfl k (by omega) dX5_write_68 ?_
              refine kn_i (y := iI (S k : Int)) (rfl) ?_
              refine lv_iload_n hx hb dX5_write_69 rfl (lv_at hl 2 rfl) ?_
              refine lv_iadd hx hb dX5_write_70 ?_
              refine kn_i (iA (c := (((S k).toNat + j : Nat) : Int)) (by omega)) ?_
              refine k_iald hx hb hK hP 5 0 rfl rfl ((S k).toNat + j) (by omega) dX5_write_71 ?_
              refine k_iast hx hb hK hP hD hS 6 0 rfl rfl ((P k).toNat + j) (by omega) dX5_write_72 (fun H locs hP hD hS => ?_)
              have hP : va_P D vwCl [(hm, .inr (5, [.int cd, .ref x1, .ref x2, .ref x3, .ref x4, .ref x5, .ref x6, .ref x7, .int (iI ((kt : Nat) : Int)), .int (iI ((k1 : Nat) : Int)), .int (iI ((k2 : Nat) : Int)), .int (iI ((k3 : Nat) : Int)), .int (iI ((k4 : Nat) : Int)), .int (iI ((k5 : Nat) : Int)), .ref y1, .ref y2, .ref y3, .ref y4, .ref y5, .ref y6, .ref y7, .int (iI ((ms : Nat) : Int)), .int (iI ((kw : Nat) : Int)), .int (iI ((kd : Nat) : Int)), .int (iI ((ma : Nat) : Int)), .int (iI (lk : Int))])), (y1, .inl (cI, 300, .inl (kA P))), (y2, .inl (cI, 300, .inl (kA L))), (y3, .inl (cI, 300, .inl (kA S))), (y4, .inl (cI, 300, .inl (kA A0))), (x6, .inl (cI, 300, .inl g5)), (x7, .inl (cI, 300, .inl (upd (va_cpy g5 g6 (S k).toNat (P k).toNat j) ((P k).toNat + j) ((g5 ((S k).toNat + j)))))), (y7, .inl (cI, 300, .inl g8))] H := hP
              have hD : va_D A [(hm, .inr (5, [.int cd, .ref x1, .ref x2, .ref x3, .ref x4, .ref x5, .ref x6, .ref x7, .int (iI ((kt : Nat) : Int)), .int (iI ((k1 : Nat) : Int)), .int (iI ((k2 : Nat) : Int)), .int (iI ((k3 : Nat) : Int)), .int (iI ((k4 : Nat) : Int)), .int (iI ((k5 : Nat) : Int)), .ref y1, .ref y2, .ref y3, .ref y4, .ref y5, .ref y6, .ref y7, .int (iI ((ms : Nat) : Int)), .int (iI ((kw : Nat) : Int)), .int (iI ((kd : Nat) : Int)), .int (iI ((ma : Nat) : Int)), .int (iI (lk : Int))])), (y1, .inl (cI, 300, .inl (kA P))), (y2, .inl (cI, 300, .inl (kA L))), (y3, .inl (cI, 300, .inl (kA S))), (y4, .inl (cI, 300, .inl (kA A0))), (x6, .inl (cI, 300, .inl g5)), (x7, .inl (cI, 300, .inl (upd (va_cpy g5 g6 (S k).toNat (P k).toNat j) ((P k).toNat + j) ((g5 ((S k).toNat + j)))))), (y7, .inl (cI, 300, .inl g8))] := hD
              rw [show (upd (va_cpy g5 g6 (S k).toNat (P k).toNat j) ((P k).toNat + j) ((g5 ((S k).toNat + j)))) = (va_cpy g5 g6 (S k).toNat (P k).toNat (j + 1)) from cpy_s] at hP hD
              refine lv_iinc (v := iI ((j + 1 : Nat) : Int)) (lv' := [(2, .int (iI ((j + 1 : Nat) : Int))), (0, .ref hm), (1, .int (iI ((k : Nat) : Int)))]) hx hb dX5_write_73 hl (k := 2) rfl (iA (by omega)) (by decide) rfl (fun ls hl => ?_)
              refine lv_goto (tgt := 2) hx hb dX5_write_76 (by decide) ?_
              exact ih2 (j + 1) _ _ _ (by omega) (by omega) hP hD hS (lv_sub hl [1, 2, 0] rfl)
            · skip
              have c40 := iI_eqT (a := (S k : Int)) (b := (-1 : Int)) c40 (by omega)
              omega
    rw [show g6 = (va_cpy g5 g6 (S k).toNat (P k).toNat 0) from cpy_0.symm] at hP hD
    exact lp2 _ 0 _ _ _ (Nat.lt_succ_self _) (by omega) hP hD hS (lv_sub hl [1, 2, 0] rfl)
  · skip
    refine lv_iconst (v := iI ((0 : Nat) : Int)) hx hb dX5_write_0 rfl ?_
    refine lv_istore_n (lv' := [(2, .int (iI ((0 : Nat) : Int))), (0, .ref hm), (1, .int (iI ((k : Nat) : Int)))]) hx hb dX5_write_1 rfl hl (by decide) rfl (fun ls hl => ?_)
    have lp2 : ∀ (fu : Nat) (j : Nat) (H : Heap) (locs : List Loc) (ls : Array Slot), (L k).toNat - j < fu → (j ≤ (L k).toNat) → va_P D vwCl [(hm, .inr (5, [.int cd, .ref x1, .ref x2, .ref x3, .ref x4, .ref x5, .ref x6, .ref x7, .int (iI ((kt : Nat) : Int)), .int (iI ((k1 : Nat) : Int)), .int (iI ((k2 : Nat) : Int)), .int (iI ((k3 : Nat) : Int)), .int (iI ((k4 : Nat) : Int)), .int (iI ((k5 : Nat) : Int)), .ref y1, .ref y2, .ref y3, .ref y4, .ref y5, .ref y6, .ref y7, .int (iI ((ms : Nat) : Int)), .int (iI ((kw : Nat) : Int)), .int (iI ((kd : Nat) : Int)), .int (iI ((ma : Nat) : Int)), .int (iI (lk : Int))])), (y1, .inl (cI, 300, .inl (kA P))), (y2, .inl (cI, 300, .inl (kA L))), (y3, .inl (cI, 300, .inl (kA S))), (y4, .inl (cI, 300, .inl (kA A0))), (x6, .inl (cI, 300, .inl g5)), (x7, .inl (cI, 300, .inl g6)), (y7, .inl (cI, 300, .inl g8))] H → va_D A [(hm, .inr (5, [.int cd, .ref x1, .ref x2, .ref x3, .ref x4, .ref x5, .ref x6, .ref x7, .int (iI ((kt : Nat) : Int)), .int (iI ((k1 : Nat) : Int)), .int (iI ((k2 : Nat) : Int)), .int (iI ((k3 : Nat) : Int)), .int (iI ((k4 : Nat) : Int)), .int (iI ((k5 : Nat) : Int)), .ref y1, .ref y2, .ref y3, .ref y4, .ref y5, .ref y6, .ref y7, .int (iI ((ms : Nat) : Int)), .int (iI ((kw : Nat) : Int)), .int (iI ((kd : Nat) : Int)), .int (iI ((ma : Nat) : Int)), .int (iI (lk : Int))])), (y1, .inl (cI, 300, .inl (kA P))), (y2, .inl (cI, 300, .inl (kA L))), (y3, .inl (cI, 300, .inl (kA S))), (y4, .inl (cI, 300, .inl (kA A0))), (x6, .inl (cI, 300, .inl g5)), (x7, .inl (cI, 300, .inl g6)), (y7, .inl (cI, 300, .inl g8))] → va_S A s.heap H locs → lv_has ls 3 [(0, .ref hm), (1, .int (iI ((k : Nat) : Int))), (2, .int (iI ((j : Nat) : Int)))] → W p l e rm_c_Mo_write s m args below meth c H locs 0 0 Q (F0 m 2 ls []) := by
      intro fu
      induction fu with
      | zero => intro j H locs ls hfu; exact absurd hfu (Nat.not_lt_zero _)
      | succ fu ih2 =>
        intro j H locs ls hfu hj hP hD hS hl
        refine lv_iload_n hx hb dX5_write_2 rfl (lv_at hl 2 rfl) ?_
        refine lv_aload_n hx hb dX5_write_3 rfl (lv_at hl 0 rfl) ?_
        refine va_get (D := D) (ci := 5) (v := .ref y2) (C := RX5) (T := TX5) (N := 26) hx hb hts hi_X5 hown hK hP 0 rfl rfl 15 (by decide) fl34 (fun _ h9 => h9) rfl dX5_write_4 ?_
        refine lv_iload_n hx hb dX5_write_7 rfl (lv_at hl 1 rfl) ?_
        refine k_iald hx hb hK hP 2 0 rfl rfl k (by omega) dX5_write_8 ?_
        refine kn_i (y := iI (L k : Int)) (rfl) ?_
        refine lv_icmp_ge (tgt := 79) hx hb dX5_write_9 (by decide) (fun c9 => ?_) (fun c9 => ?_)
        · skip
          have c9 := iI_leT (a := (L k : Int)) (b := ((j : Nat) : Int)) c9 (by omega)
          rw [show g6 = (wrH P L S A0 g8 k g5 g6) from (by unfold wrH; rw [if_neg (by omega)])] at hP hD
          refine lv_iconst (v := iI ((0 : Nat) : Int)) hx hb dX5_write_79 rfl ?_
          refine lv_istore_n (lv' := [(2, .int (iI ((0 : Nat) : Int))), (0, .ref hm), (1, .int (iI ((k : Nat) : Int)))]) hx hb dX5_write_80 rfl hl (by decide) rfl (fun ls hl => ?_)
          have lp81 : ∀ (fu : Nat) (j : Nat) (H : Heap) (locs : List Loc) (ls : Array Slot), (L k).toNat - j < fu → (j ≤ (L k).toNat) → va_P D vwCl [(hm, .inr (5, [.int cd, .ref x1, .ref x2, .ref x3, .ref x4, .ref x5, .ref x6, .ref x7, .int (iI ((kt : Nat) : Int)), .int (iI ((k1 : Nat) : Int)), .int (iI ((k2 : Nat) : Int)), .int (iI ((k3 : Nat) : Int)), .int (iI ((k4 : Nat) : Int)), .int (iI ((k5 : Nat) : Int)), .ref y1, .ref y2, .ref y3, .ref y4, .ref y5, .ref y6, .ref y7, .int (iI ((ms : Nat) : Int)), .int (iI ((kw : Nat) : Int)), .int (iI ((kd : Nat) : Int)), .int (iI ((ma : Nat) : Int)), .int (iI (lk : Int))])), (y1, .inl (cI, 300, .inl (kA P))), (y2, .inl (cI, 300, .inl (kA L))), (y3, .inl (cI, 300, .inl (kA S))), (y4, .inl (cI, 300, .inl (kA A0))), (x6, .inl (cI, 300, .inl (va_cpy (wrH P L S A0 g8 k g5 g6) g5 (P k).toNat (P k).toNat j))), (x7, .inl (cI, 300, .inl (wrH P L S A0 g8 k g5 g6))), (y7, .inl (cI, 300, .inl g8))] H → va_D A [(hm, .inr (5, [.int cd, .ref x1, .ref x2, .ref x3, .ref x4, .ref x5, .ref x6, .ref x7, .int (iI ((kt : Nat) : Int)), .int (iI ((k1 : Nat) : Int)), .int (iI ((k2 : Nat) : Int)), .int (iI ((k3 : Nat) : Int)), .int (iI ((k4 : Nat) : Int)), .int (iI ((k5 : Nat) : Int)), .ref y1, .ref y2, .ref y3, .ref y4, .ref y5, .ref y6, .ref y7, .int (iI ((ms : Nat) : Int)), .int (iI ((kw : Nat) : Int)), .int (iI ((kd : Nat) : Int)), .int (iI ((ma : Nat) : Int)), .int (iI (lk : Int))])), (y1, .inl (cI, 300, .inl (kA P))), (y2, .inl (cI, 300, .inl (kA L))), (y3, .inl (cI, 300, .inl (kA S))), (y4, .inl (cI, 300, .inl (kA A0))), (x6, .inl (cI, 300, .inl (va_cpy (wrH P L S A0 g8 k g5 g6) g5 (P k).toNat (P k).toNat j))), (x7, .inl (cI, 300, .inl (wrH P L S A0 g8 k g5 g6))), (y7, .inl (cI, 300, .inl g8))] → va_S A s.heap H locs → lv_has ls 3 [(0, .ref hm), (1, .int (iI ((k : Nat) : Int))), (2, .int (iI ((j : Nat) : Int)))] → W p l e rm_c_Mo_write s m args below meth c H locs 0 0 Q (F0 m 81 ls []) := by
            intro fu
            induction fu with
            | zero => intro j H locs ls hfu; exact absurd hfu (Nat.not_lt_zero _)
            | succ fu ih81 =>
              intro j H locs ls hfu hj hP hD hS hl
              refine lv_iload_n hx hb dX5_write_81 rfl (lv_at hl 2 rfl) ?_
              refine lv_aload_n hx hb dX5_write_82 rfl (lv_at hl 0 rfl) ?_
              refine va_get (D := D) (ci := 5) (v := .ref y2) (C := RX5) (T := TX5) (N := 26) hx hb hts hi_X5 hown hK hP 0 rfl rfl 15 (by decide) fl34 (fun _ h9 => h9) rfl dX5_write_83 ?_
              refine lv_iload_n hx hb dX5_write_86 rfl (lv_at hl 1 rfl) ?_
              refine k_iald hx hb hK hP 2 0 rfl rfl k (by omega) dX5_write_87 ?_
              refine kn_i (y := iI (L k : Int)) (rfl) ?_
              refine lv_icmp_ge (tgt := 123) hx hb dX5_write_88 (by decide) (fun c88 => ?_) (fun c88 => ?_)
              · skip
                have c88 := iI_leT (a := (L k : Int)) (b := ((j : Nat) : Int)) c88 (by omega)
                rw [show (va_cpy (wrH P L S A0 g8 k g5 g6) g5 (P k).toNat (P k).toNat j) = (va_cpy (wrH P L S A0 g8 k g5 g6) g5 (P k).toNat (P k).toNat (L k).toNat) from (by rw [show j = (L k).toNat by omega])] at hP hD
                exact k_vret () hx hb hr hlocks hK hP hD hS [0, 1, 2, 3, 4, 5, 6, 7] (by decide) rfl rfl (trivial) hAe hQ dX5_write_123
              · skip
                have c88 := iI_leF (a := (L k : Int)) (b := ((j : Nat) : Int)) c88 (by omega)
                refine lv_aload_n hx hb dX5_write_91 rfl (lv_at hl 0 rfl) ?_
                refine va_get (D := D) (ci := 5) (v := .ref x6) (C := RX5) (T := TX5) (N := 26) hx hb hts hi_X5 hown hK hP 0 rfl rfl 6 (by decide) fl25 (fun _ h9 => h9) rfl dX5_write_92 ?_
                refine lv_aload_n hx hb dX5_write_95 rfl (lv_at hl 0 rfl) ?_
                refine va_get (D := D) (ci := 5) (v := .ref y1) (C := RX5) (T := TX5) (N := 26) hx hb hts hi_X5 hown hK hP 0 rfl rfl 14 (by decide) fl31 (fun _ h9 => h9) rfl dX5_write_96 ?_
                refine lv_iload_n hx hb dX5_write_99 rfl (lv_at hl 1 rfl) ?_
                refine k_iald hx hb hK hP 1 0 rfl rfl k (by omega) dX5_write_100 ?_
                refine kn_i (y := iI (P k : Int)) (rfl) ?_
                refine lv_iload_n hx hb dX5_write_101 rfl (lv_at hl 2 rfl) ?_
                refine lv_iadd hx hb dX5_write_102 ?_
                refine kn_i (iA (c := (((P k).toNat + j : Nat) : Int)) (by omega)) ?_
                refine lv_aload_n hx hb dX5_write_103 rfl (lv_at hl 0 rfl) ?_
                refine va_get (D := D) (ci := 5) (v := .ref x7) (C := RX5) (T := TX5) (N := 26) hx hb hts hi_X5 hown hK hP 0 rfl rfl 7 (by decide) fl28 (fun _ h9 => h9) rfl dX5_write_104 ?_
                refine lv_aload_n hx hb dX5_write_107 rfl (lv_at hl 0 rfl) ?_
                refine va_get (D := D) (ci := 5) (v := .ref y1) (C := RX5) (T := TX5) (N := 26) hx hb hts hi_X5 hown hK hP 0 rfl rfl 14 (by decide) fl31 (fun _ h9 => h9) rfl dX5_write_108 ?_
                refine lv_iload_n hx hb dX5_write_111 rfl (lv_at hl 1 rfl) ?_
                refine k_iald hx hb hK hP 1 0 rfl rfl k (by omega) dX5_write_112 ?_
                refine kn_i (y := iI (P k : Int)) (rfl) ?_
                refine lv_iload_n hx hb dX5_write_113 rfl (lv_at hl 2 rfl) ?_
                refine lv_iadd hx hb dX5_write_114 ?_
                refine kn_i (iA (c := (((P k).toNat + j : Nat) : Int)) (by omega)) ?_
                refine k_iald hx hb hK hP 6 0 rfl rfl ((P k).toNat + j) (by omega) dX5_write_115 ?_
                refine k_iast hx hb hK hP hD hS 5 0 rfl rfl ((P k).toNat + j) (by omega) dX5_write_116 (fun H locs hP hD hS => ?_)
                have hP : va_P D vwCl [(hm, .inr (5, [.int cd, .ref x1, .ref x2, .ref x3, .ref x4, .ref x5, .ref x6, .ref x7, .int (iI ((kt : Nat) : Int)), .int (iI ((k1 : Nat) : Int)), .int (iI ((k2 : Nat) : Int)), .int (iI ((k3 : Nat) : Int)), .int (iI ((k4 : Nat) : Int)), .int (iI ((k5 : Nat) : Int)), .ref y1, .ref y2, .ref y3, .ref y4, .ref y5, .ref y6, .ref y7, .int (iI ((ms : Nat) : Int)), .int (iI ((kw : Nat) : Int)), .int (iI ((kd : Nat) : Int)), .int (iI ((ma : Nat) : Int)), .int (iI (lk : Int))])), (y1, .inl (cI, 300, .inl (kA P))), (y2, .inl (cI, 300, .inl (kA L))), (y3, .inl (cI, 300, .inl (kA S))), (y4, .inl (cI, 300, .inl (kA A0))), (x6, .inl (cI, 300, .inl (upd (va_cpy (wrH P L S A0 g8 k g5 g6) g5 (P k).toNat (P k).toNat j) ((P k).toNat + j) (((wrH P L S A0 g8 k g5 g6) ((P k).toNat + j)))))), (x7, .inl (cI, 300, .inl (wrH P L S A0 g8 k g5 g6))), (y7, .inl (cI, 300, .inl g8))] H := hP
                have hD : va_D A [(hm, .inr (5, [.int cd, .ref x1, .ref x2, .ref x3, .ref x4, .ref x5, .ref x6, .ref x7, .int (iI ((kt : Nat) : Int)), .int (iI ((k1 : Nat) : Int)), .int (iI ((k2 : Nat) : Int)), .int (iI ((k3 : Nat) : Int)), .int (iI ((k4 : Nat) : Int)), .int (iI ((k5 : Nat) : Int)), .ref y1, .ref y2, .ref y3, .ref y4, .ref y5, .ref y6, .ref y7, .int (iI ((ms : Nat) : Int)), .int (iI ((kw : Nat) : Int)), .int (iI ((kd : Nat) : Int)), .int (iI ((ma : Nat) : Int)), .int (iI (lk : Int))])), (y1, .inl (cI, 300, .inl (kA P))), (y2, .inl (cI, 300, .inl (kA L))), (y3, .inl (cI, 300, .inl (kA S))), (y4, .inl (cI, 300, .inl (kA A0))), (x6, .inl (cI, 300, .inl (upd (va_cpy (wrH P L S A0 g8 k g5 g6) g5 (P k).toNat (P k).toNat j) ((P k).toNat + j) (((wrH P L S A0 g8 k g5 g6) ((P k).toNat + j)))))), (x7, .inl (cI, 300, .inl (wrH P L S A0 g8 k g5 g6))), (y7, .inl (cI, 300, .inl g8))] := hD
                rw [show (upd (va_cpy (wrH P L S A0 g8 k g5 g6) g5 (P k).toNat (P k).toNat j) ((P k).toNat + j) (((wrH P L S A0 g8 k g5 g6) ((P k).toNat + j)))) = (va_cpy (wrH P L S A0 g8 k g5 g6) g5 (P k).toNat (P k).toNat (j + 1)) from cpy_s] at hP hD
                refine lv_iinc (v := iI ((j + 1 : Nat) : Int)) (lv' := [(2, .int (iI ((j + 1 : Nat) : Int))), (0, .ref hm), (1, .int (iI ((k : Nat) : Int)))]) hx hb dX5_write_117 hl (k := 2) rfl (iA (by omega)) (by decide) rfl (fun ls hl => ?_)
                refine lv_goto (tgt := 81) hx hb dX5_write_120 (by decide) ?_
                exact ih81 (j + 1) _ _ _ (by omega) (by omega) hP hD hS (lv_sub hl [1, 2, 0] rfl)
          have hP : va_P D vwCl [(hm, .inr (5, [.int cd, .ref x1, .ref x2, .ref x3, .ref x4, .ref x5, .ref x6, .ref x7, .int (iI ((kt : Nat) : Int)), .int (iI ((k1 : Nat) : Int)), .int (iI ((k2 : Nat) : Int)), .int (iI ((k3 : Nat) : Int)), .int (iI ((k4 : Nat) : Int)), .int (iI ((k5 : Nat) : Int)), .ref y1, .ref y2, .ref y3, .ref y4, .ref y5, .ref y6, .ref y7, .int (iI ((ms : Nat) : Int)), .int (iI ((kw : Nat) : Int)), .int (iI ((kd : Nat) : Int)), .int (iI ((ma : Nat) : Int)), .int (iI (lk : Int))])), (y1, .inl (cI, 300, .inl (kA P))), (y2, .inl (cI, 300, .inl (kA L))), (y3, .inl (cI, 300, .inl (kA S))), (y4, .inl (cI, 300, .inl (kA A0))), (x6, .inl (cI, 300, .inl (va_cpy (wrH P L S A0 g8 k g5 g6) g5 (P k).toNat (P k).toNat 0))), (x7, .inl (cI, 300, .inl (wrH P L S A0 g8 k g5 g6))), (y7, .inl (cI, 300, .inl g8))] H := by rw [cpy_0]; exact hP
          have hD : va_D A [(hm, .inr (5, [.int cd, .ref x1, .ref x2, .ref x3, .ref x4, .ref x5, .ref x6, .ref x7, .int (iI ((kt : Nat) : Int)), .int (iI ((k1 : Nat) : Int)), .int (iI ((k2 : Nat) : Int)), .int (iI ((k3 : Nat) : Int)), .int (iI ((k4 : Nat) : Int)), .int (iI ((k5 : Nat) : Int)), .ref y1, .ref y2, .ref y3, .ref y4, .ref y5, .ref y6, .ref y7, .int (iI ((ms : Nat) : Int)), .int (iI ((kw : Nat) : Int)), .int (iI ((kd : Nat) : Int)), .int (iI ((ma : Nat) : Int)), .int (iI (lk : Int))])), (y1, .inl (cI, 300, .inl (kA P))), (y2, .inl (cI, 300, .inl (kA L))), (y3, .inl (cI, 300, .inl (kA S))), (y4, .inl (cI, 300, .inl (kA A0))), (x6, .inl (cI, 300, .inl (va_cpy (wrH P L S A0 g8 k g5 g6) g5 (P k).toNat (P k).toNat 0))), (x7, .inl (cI, 300, .inl (wrH P L S A0 g8 k g5 g6))), (y7, .inl (cI, 300, .inl g8))] := by rw [cpy_0]; exact hD
          exact lp81 _ 0 _ _ _ (Nat.lt_succ_self _) (by omega) hP hD hS (lv_sub hl [1, 2, 0] rfl)
        · skip
          have c9 := iI_leF (a := (L k : Int)) (b := ((j : Nat) : Int)) c9 (by omega)
          refine lv_aload_n hx hb dX5_write_12 rfl (lv_at hl 0 rfl) ?_
          refine va_get (D := D) (ci := 5) (v := .ref y4) (C := RX5) (T := TX5) (N := 26) hx hb hts hi_X5 hown hK hP 0 rfl rfl 17 (by decide) fl40 (fun _ h9 => h9) rfl dX5_write_13 ?_
          refine lv_iload_n hx hb dX5_write_16 rfl (lv_at hl 1 rfl) ?_
          refine k_iald hx hb hK hP 4 0 rfl rfl k (by omega) dX5_write_17 ?_
          refine kn_i (y := iI (A0 k : Int)) (rfl) ?_
          refine lv_if_ne (tgt := 73) hx hb dX5_write_18 (by decide) (fun c18 => ?_) (fun c18 => ?_)
          · skip
            have c18 := iI_eqF (a := (A0 k : Int)) (b := (0 : Int)) c18 (by omega)
            refine lv_iinc (v := iI ((j + 1 : Nat) : Int)) (lv' := [(2, .int (iI ((j + 1 : Nat) : Int))), (0, .ref hm), (1, .int (iI ((k : Nat) : Int)))]) hx hb dX5_write_73 hl (k := 2) rfl (iA (by omega)) (by decide) rfl (fun ls hl => ?_)
            refine lv_goto (tgt := 2) hx hb dX5_write_76 (by decide) ?_
            exact ih2 (j + 1) _ _ _ (by omega) (by omega) hP hD hS (lv_sub hl [1, 2, 0] rfl)
          · skip
            have c18 := iI_eqT (a := (A0 k : Int)) (b := (0 : Int)) c18 (by omega)
            omega
    exact lp2 _ 0 _ _ _ (Nat.lt_succ_self _) (by omega) hP hD hS (lv_sub hl [1, 2, 0] rfl)
