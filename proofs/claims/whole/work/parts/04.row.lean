abbrev rm_c_Row_init300 : Room := { frames := 1, cells := 1, slots := 300, locals := 16 }
set_option maxHeartbeats 4000000 in
set_option maxRecDepth 100000 in
theorem c_Row_init300 (l : Launch) (D : va_G) (cI cZ : ClassId) (h : Nat) (v0 : Int32)  : MV l yX3_init wsX3_init rm_c_Row_init300 D (kT cI cZ) [.ref h, .int (iI ((300 : Nat) : Int))] [(h, .inr (3, [.null, .int v0]))] (fun (_ : Nat) => True) (fun (u : Nat) => match u with | a => [(h, .inr (3, [.ref a, .int (iI ((0 : Nat) : Int))])), (a, .inl (cI, 300, .inl (fun _ => (0 : Int32))))]) 1 300 := by
  intro sz
  refine k_of (cc := cX3_init) (maxL := 2) (ret := none) (by decide) rfl (Nat.le_of_ble_eq_true rfl) ?_
  intro p e s m args below meth c A Q hAe hQ hx hb hr hml hts hown hlocks hnm hP hK hD hS hA ls hl
  have hl : lv_has ls 2 [(0, .ref h), (1, .int (iI ((300 : Nat) : Int)))] := hl
  have hi_X3 : ∀ w ∈ u_ws RX3 TX3 2, w ∈ wsX3_init := fun w h => km (ikX3 w h)
  have fl15 := hts _ (km wm62)
  have fl21 := hts _ (km wm63)
  refine lv_aload_n hx hb dX3_init_0 rfl (lv_at hl 0 rfl) ?_
  refine W.objInit hx hb hown (hts _ (km wm58)) (hts _ (km wm51)) (hts _ (km wm52)) rfl (by rw [hml]; exact hl.1) rfl dX3_init_1 (Nat.le_of_ble_eq_true rfl) (Nat.le_of_ble_eq_true rfl) ?_
  refine W.eq (g2 := F0 m 4 ls []) rfl ?_
  refine lv_aload_n hx hb dX3_init_4 rfl (lv_at hl 0 rfl) ?_
  refine lv_iload_n hx hb dX3_init_5 rfl (lv_at hl 1 rfl) ?_
  refine lv_iconst (v := iI (0 : Int)) hx hb dX3_init_6 rfl ?_
  refine va_mmax hx hb (by rw [hml]; exact hl.1.symm) hown (hts _ (km wm59)) (hts _ (km wm60)) (hts _ (km wm40)) (hts _ (km wm61)) (Nat.le_of_ble_eq_true rfl) (Nat.le_of_ble_eq_true rfl) (Nat.zero_le _) (Nat.zero_le _) dX3_init_7 ?_
  refine kn_i (imax (c := ((300 : Nat) : Int)) (by omega) (by omega)) ?_
  refine k_newa (N' := 300) hx hb (hts _ (km wm69)) rfl hK 0 rfl (fun _ => rfl) hP hD hS hA (fun _ => rfl) (by omega) (Nat.le_of_ble_eq_true rfl) (Nat.le_of_ble_eq_true rfl) (Nat.le_of_ble_eq_true rfl) dX3_init_10 (fun q10 H hP hD hS => ?_)
  have hP : va_P D vwCl [(h, .inr (3, [.null, .int v0])), (q10, .inl (cI, 300, .inl (fun _ => (0 : Int32))))] H := hP
  have hD : va_D A [(h, .inr (3, [.null, .int v0])), (q10, .inl (cI, 300, .inl (fun _ => (0 : Int32))))] := hD
  refine W.widen (k := 1) (n := 300) (Nat.le_of_ble_eq_true rfl) (Nat.le_of_ble_eq_true rfl) ?_
  refine va_putF (D := D) (ci := 3) (v := .ref q10) (ty := (.array .int)) (C := RX3) (T := TX3) (N := 2) hx hb hts hi_X3 tyX3 tyX3_ok nmX3 hown hK hP hD hS 0 rfl rfl 0 (by decide) fl15 (fun _ h9 => h9) rfl hnm rfl (by decide +kernel) rfl rfl (Nat.le_of_ble_eq_true rfl) dX3_init_12 (fun H locs hP hD hS => ?_)
  have hP : va_P D vwCl [(h, .inr (3, [.ref q10, .int v0])), (q10, .inl (cI, 300, .inl (fun _ => (0 : Int32))))] H := hP
  have hD : va_D A [(h, .inr (3, [.ref q10, .int v0])), (q10, .inl (cI, 300, .inl (fun _ => (0 : Int32))))] := hD
  refine lv_aload_n hx hb dX3_init_15 rfl (lv_at hl 0 rfl) ?_
  refine lv_iconst (v := iI ((0 : Nat) : Int)) hx hb dX3_init_16 rfl ?_
  refine va_put (D := D) (ci := 3) (v := .int (iI ((0 : Nat) : Int))) (ty := .int) (C := RX3) (T := TX3) (N := 2) hx hb hts hi_X3 tyX3 tyX3_ok nmX3 hown hK hP hD hS 0 rfl rfl 1 (by decide) fl21 (fun _ h9 => h9) rfl (by decide +kernel) rfl rfl (Nat.le_of_ble_eq_true rfl) dX3_init_17 (fun H locs hP hD hS => ?_)
  have hP : va_P D vwCl [(h, .inr (3, [.ref q10, .int (iI ((0 : Nat) : Int))])), (q10, .inl (cI, 300, .inl (fun _ => (0 : Int32))))] H := hP
  have hD : va_D A [(h, .inr (3, [.ref q10, .int (iI ((0 : Nat) : Int))])), (q10, .inl (cI, 300, .inl (fun _ => (0 : Int32))))] := hD
  exact k_vret q10 hx hb hr hlocks hK hP hD hS [0, 1] (by decide) rfl rfl (trivial) hAe hQ dX3_init_20

abbrev rm_c_Row_init900 : Room := { frames := 1, cells := 1, slots := 900, locals := 16 }
set_option maxHeartbeats 4000000 in
set_option maxRecDepth 100000 in
theorem c_Row_init900 (l : Launch) (D : va_G) (cI cZ : ClassId) (h : Nat) (v0 : Int32)  : MV l yX3_init wsX3_init rm_c_Row_init900 D (kT cI cZ) [.ref h, .int (iI ((900 : Nat) : Int))] [(h, .inr (3, [.null, .int v0]))] (fun (_ : Nat) => True) (fun (u : Nat) => match u with | a => [(h, .inr (3, [.ref a, .int (iI ((0 : Nat) : Int))])), (a, .inl (cI, 900, .inl (fun _ => (0 : Int32))))]) 1 900 := by
  intro sz
  refine k_of (cc := cX3_init) (maxL := 2) (ret := none) (by decide) rfl (Nat.le_of_ble_eq_true rfl) ?_
  intro p e s m args below meth c A Q hAe hQ hx hb hr hml hts hown hlocks hnm hP hK hD hS hA ls hl
  have hl : lv_has ls 2 [(0, .ref h), (1, .int (iI ((900 : Nat) : Int)))] := hl
  have hi_X3 : ∀ w ∈ u_ws RX3 TX3 2, w ∈ wsX3_init := fun w h => km (ikX3 w h)
  have fl15 := hts _ (km wm62)
  have fl21 := hts _ (km wm63)
  refine lv_aload_n hx hb dX3_init_0 rfl (lv_at hl 0 rfl) ?_
  refine W.objInit hx hb hown (hts _ (km wm58)) (hts _ (km wm51)) (hts _ (km wm52)) rfl (by rw [hml]; exact hl.1) rfl dX3_init_1 (Nat.le_of_ble_eq_true rfl) (Nat.le_of_ble_eq_true rfl) ?_
  refine W.eq (g2 := F0 m 4 ls []) rfl ?_
  refine lv_aload_n hx hb dX3_init_4 rfl (lv_at hl 0 rfl) ?_
  refine lv_iload_n hx hb dX3_init_5 rfl (lv_at hl 1 rfl) ?_
  refine lv_iconst (v := iI (0 : Int)) hx hb dX3_init_6 rfl ?_
  refine va_mmax hx hb (by rw [hml]; exact hl.1.symm) hown (hts _ (km wm59)) (hts _ (km wm60)) (hts _ (km wm40)) (hts _ (km wm61)) (Nat.le_of_ble_eq_true rfl) (Nat.le_of_ble_eq_true rfl) (Nat.zero_le _) (Nat.zero_le _) dX3_init_7 ?_
  refine kn_i (imax (c := ((900 : Nat) : Int)) (by omega) (by omega)) ?_
  refine k_newa (N' := 900) hx hb (hts _ (km wm69)) rfl hK 0 rfl (fun _ => rfl) hP hD hS hA (fun _ => rfl) (by omega) (Nat.le_of_ble_eq_true rfl) (Nat.le_of_ble_eq_true rfl) (Nat.le_of_ble_eq_true rfl) dX3_init_10 (fun q10 H hP hD hS => ?_)
  have hP : va_P D vwCl [(h, .inr (3, [.null, .int v0])), (q10, .inl (cI, 900, .inl (fun _ => (0 : Int32))))] H := hP
  have hD : va_D A [(h, .inr (3, [.null, .int v0])), (q10, .inl (cI, 900, .inl (fun _ => (0 : Int32))))] := hD
  refine W.widen (k := 1) (n := 900) (Nat.le_of_ble_eq_true rfl) (Nat.le_of_ble_eq_true rfl) ?_
  refine va_putF (D := D) (ci := 3) (v := .ref q10) (ty := (.array .int)) (C := RX3) (T := TX3) (N := 2) hx hb hts hi_X3 tyX3 tyX3_ok nmX3 hown hK hP hD hS 0 rfl rfl 0 (by decide) fl15 (fun _ h9 => h9) rfl hnm rfl (by decide +kernel) rfl rfl (Nat.le_of_ble_eq_true rfl) dX3_init_12 (fun H locs hP hD hS => ?_)
  have hP : va_P D vwCl [(h, .inr (3, [.ref q10, .int v0])), (q10, .inl (cI, 900, .inl (fun _ => (0 : Int32))))] H := hP
  have hD : va_D A [(h, .inr (3, [.ref q10, .int v0])), (q10, .inl (cI, 900, .inl (fun _ => (0 : Int32))))] := hD
  refine lv_aload_n hx hb dX3_init_15 rfl (lv_at hl 0 rfl) ?_
  refine lv_iconst (v := iI ((0 : Nat) : Int)) hx hb dX3_init_16 rfl ?_
  refine va_put (D := D) (ci := 3) (v := .int (iI ((0 : Nat) : Int))) (ty := .int) (C := RX3) (T := TX3) (N := 2) hx hb hts hi_X3 tyX3 tyX3_ok nmX3 hown hK hP hD hS 0 rfl rfl 1 (by decide) fl21 (fun _ h9 => h9) rfl (by decide +kernel) rfl rfl (Nat.le_of_ble_eq_true rfl) dX3_init_17 (fun H locs hP hD hS => ?_)
  have hP : va_P D vwCl [(h, .inr (3, [.ref q10, .int (iI ((0 : Nat) : Int))])), (q10, .inl (cI, 900, .inl (fun _ => (0 : Int32))))] H := hP
  have hD : va_D A [(h, .inr (3, [.ref q10, .int (iI ((0 : Nat) : Int))])), (q10, .inl (cI, 900, .inl (fun _ => (0 : Int32))))] := hD
  exact k_vret q10 hx hb hr hlocks hK hP hD hS [0, 1] (by decide) rfl rfl (trivial) hAe hQ dX3_init_20

abbrev rm_c_Row_most : Room := { frames := 0, cells := 0, slots := 0, locals := 0 }
set_option maxHeartbeats 4000000 in
set_option maxRecDepth 100000 in
theorem c_Row_most (l : Launch) (D : va_G) (cI cZ : ClassId) (h : Nat) (a : Nat) (M : Nat) (n : Nat) (f : Nat → Int32)  : MI l yX3_most wsX3_most rm_c_Row_most D (kT cI cZ) [.ref h] [(h, .inr (3, [.ref a, .int (iI ((n : Nat) : Int))])), (a, .inl (cI, M, .inl f))] (fun (r : Int32) (_ : Unit) => r = iI ((M : Nat) : Int)) (fun (u : Unit) => match u with | _ => [(h, .inr (3, [.ref a, .int (iI ((n : Nat) : Int))])), (a, .inl (cI, M, .inl f))]) 0 0 := by
  intro sz
  refine k_of (cc := cX3_most) (maxL := 1) (ret := (some .int)) (by decide) rfl (Nat.le_of_ble_eq_true rfl) ?_
  intro p e s m args below meth c A Q hAe hQ hx hb hr hml hts hown hlocks hnm hP hK hD hS hA ls hl
  have hl : lv_has ls 1 [(0, .ref h)] := hl
  have hi_X3 : ∀ w ∈ u_ws RX3 TX3 2, w ∈ wsX3_most := fun w h => km (ikX3 w h)
  have fl15 := hts _ (km wm62)
  refine lv_aload_n hx hb dX3_most_0 rfl (lv_at hl 0 rfl) ?_
  refine va_get (D := D) (ci := 3) (v := .ref a) (C := RX3) (T := TX3) (N := 2) hx hb hts hi_X3 hown hK hP 0 rfl rfl 0 (by decide) fl15 (fun _ h9 => h9) rfl dX3_most_1 ?_
  refine k_alen hx hb hK hP 1 0 rfl rfl dX3_most_4 ?_
  exact k_iret () hx hb hr hlocks hK hP hD hS [0, 1] (by decide) rfl rfl (rfl) hAe hQ dX3_most_5

abbrev rm_c_Row_count : Room := { frames := 0, cells := 0, slots := 0, locals := 0 }
set_option maxHeartbeats 4000000 in
set_option maxRecDepth 100000 in
theorem c_Row_count (l : Launch) (D : va_G) (cI cZ : ClassId) (h : Nat) (a : Nat) (M : Nat) (n : Nat) (f : Nat → Int32)  : MI l yX3_count wsX3_count rm_c_Row_count D (kT cI cZ) [.ref h] [(h, .inr (3, [.ref a, .int (iI ((n : Nat) : Int))])), (a, .inl (cI, M, .inl f))] (fun (r : Int32) (_ : Unit) => r = iI ((n : Nat) : Int)) (fun (u : Unit) => match u with | _ => [(h, .inr (3, [.ref a, .int (iI ((n : Nat) : Int))])), (a, .inl (cI, M, .inl f))]) 0 0 := by
  intro sz
  refine k_of (cc := cX3_count) (maxL := 1) (ret := (some .int)) (by decide) rfl (Nat.le_of_ble_eq_true rfl) ?_
  intro p e s m args below meth c A Q hAe hQ hx hb hr hml hts hown hlocks hnm hP hK hD hS hA ls hl
  have hl : lv_has ls 1 [(0, .ref h)] := hl
  have hi_X3 : ∀ w ∈ u_ws RX3 TX3 2, w ∈ wsX3_count := fun w h => km (ikX3 w h)
  have fl21 := hts _ (km wm63)
  refine lv_aload_n hx hb dX3_count_0 rfl (lv_at hl 0 rfl) ?_
  refine va_get (D := D) (ci := 3) (v := .int (iI ((n : Nat) : Int))) (C := RX3) (T := TX3) (N := 2) hx hb hts hi_X3 hown hK hP 0 rfl rfl 1 (by decide) fl21 (fun _ h9 => h9) rfl dX3_count_1 ?_
  exact k_iret () hx hb hr hlocks hK hP hD hS [0, 1] (by decide) rfl rfl (rfl) hAe hQ dX3_count_4

abbrev rm_c_Row_at : Room := { frames := 0, cells := 0, slots := 0, locals := 0 }
set_option maxHeartbeats 4000000 in
set_option maxRecDepth 100000 in
theorem c_Row_at (l : Launch) (D : va_G) (cI cZ : ClassId) (h : Nat) (a : Nat) (M : Nat) (n : Nat) (f : Nat → Int32) (z : Int) (hM : M ≤ 900) (hn : n ≤ M) (hz : -2147483648 ≤ z ∧ z < 2147483648) : MI l yX3_at wsX3_at rm_c_Row_at D (kT cI cZ) [.ref h, .int (iI (z : Int))] [(h, .inr (3, [.ref a, .int (iI ((n : Nat) : Int))])), (a, .inl (cI, M, .inl f))] (fun (r : Int32) (_ : Unit) => r = (rAt f n z)) (fun (u : Unit) => match u with | _ => [(h, .inr (3, [.ref a, .int (iI ((n : Nat) : Int))])), (a, .inl (cI, M, .inl f))]) 0 0 := by
  intro sz
  refine k_of (cc := cX3_at) (maxL := 2) (ret := (some .int)) (by decide) rfl (Nat.le_of_ble_eq_true rfl) ?_
  intro p e s m args below meth c A Q hAe hQ hx hb hr hml hts hown hlocks hnm hP hK hD hS hA ls hl
  have hl : lv_has ls 2 [(0, .ref h), (1, .int (iI (z : Int)))] := hl
  have hi_X3 : ∀ w ∈ u_ws RX3 TX3 2, w ∈ wsX3_at := fun w h => km (ikX3 w h)
  have fl21 := hts _ (km wm63)
  have fl15 := hts _ (km wm62)
  refine lv_iload_n hx hb dX3_at_0 rfl (lv_at hl 1 rfl) ?_
  refine lv_if_lt (tgt := 21) hx hb dX3_at_1 (by decide) (fun c1 => ?_) (fun c1 => ?_)
  · skip
    have c1 := iI_ltT (a := (z : Int)) (b := (0 : Int)) c1 (by omega)
    refine lv_iconst (v := iI (-1 : Int)) hx hb dX3_at_21 rfl ?_
    exact k_iret () hx hb hr hlocks hK hP hD hS [0, 1] (by decide) rfl rfl (by unfold rAt; first | rw [if_pos (by omega)] | rw [if_neg (by omega)]) hAe hQ dX3_at_22
  · skip
    have c1 := iI_ltF (a := (z : Int)) (b := (0 : Int)) c1 (by omega)
    refine lv_iload_n hx hb dX3_at_4 rfl (lv_at hl 1 rfl) ?_
    refine lv_aload_n hx hb dX3_at_5 rfl (lv_at hl 0 rfl) ?_
    refine va_get (D := D) (ci := 3) (v := .int (iI ((n : Nat) : Int))) (C := RX3) (T := TX3) (N := 2) hx hb hts hi_X3 hown hK hP 0 rfl rfl 1 (by decide) fl21 (fun _ h9 => h9) rfl dX3_at_6 ?_
    refine lv_icmp_ge (tgt := 21) hx hb dX3_at_9 (by decide) (fun c9 => ?_) (fun c9 => ?_)
    · skip
      have c9 := iI_leT (a := ((n : Nat) : Int)) (b := (z : Int)) c9 (by omega)
      refine lv_iconst (v := iI (-1 : Int)) hx hb dX3_at_21 rfl ?_
      exact k_iret () hx hb hr hlocks hK hP hD hS [0, 1] (by decide) rfl rfl (by unfold rAt; first | rw [if_pos (by omega)] | rw [if_neg (by omega)]) hAe hQ dX3_at_22
    · skip
      have c9 := iI_leF (a := ((n : Nat) : Int)) (b := (z : Int)) c9 (by omega)
      refine lv_aload_n hx hb dX3_at_12 rfl (lv_at hl 0 rfl) ?_
      refine va_get (D := D) (ci := 3) (v := .ref a) (C := RX3) (T := TX3) (N := 2) hx hb hts hi_X3 hown hK hP 0 rfl rfl 0 (by decide) fl15 (fun _ h9 => h9) rfl dX3_at_13 ?_
      refine lv_iload_n hx hb dX3_at_16 rfl (lv_at hl 1 rfl) ?_
      refine k_iald hx hb hK hP 1 0 rfl rfl z.toNat (by omega) dX3_at_17 ?_
      refine lv_goto (tgt := 22) hx hb dX3_at_18 (by decide) ?_
      exact k_iret () hx hb hr hlocks hK hP hD hS [0, 1] (by decide) rfl rfl (by unfold rAt; first | rw [if_pos (by omega)] | rw [if_neg (by omega)]) hAe hQ dX3_at_22

abbrev rm_c_Row_atk : Room := { frames := 0, cells := 0, slots := 0, locals := 0 }
set_option maxHeartbeats 4000000 in
set_option maxRecDepth 100000 in
theorem c_Row_atk (l : Launch) (D : va_G) (cI cZ : ClassId) (h : Nat) (a : Nat) (M : Nat) (n : Nat) (f : Nat → Int32) (k : Nat) (hM : M ≤ 900) (hn : n ≤ M) (hk : k < n) : MI l yX3_at wsX3_at rm_c_Row_atk D (kT cI cZ) [.ref h, .int (iI ((k : Nat) : Int))] [(h, .inr (3, [.ref a, .int (iI ((n : Nat) : Int))])), (a, .inl (cI, M, .inl f))] (fun (r : Int32) (_ : Unit) => r = (f k)) (fun (u : Unit) => match u with | _ => [(h, .inr (3, [.ref a, .int (iI ((n : Nat) : Int))])), (a, .inl (cI, M, .inl f))]) 0 0 := by
  intro sz
  refine k_of (cc := cX3_at) (maxL := 2) (ret := (some .int)) (by decide) rfl (Nat.le_of_ble_eq_true rfl) ?_
  intro p e s m args below meth c A Q hAe hQ hx hb hr hml hts hown hlocks hnm hP hK hD hS hA ls hl
  have hl : lv_has ls 2 [(0, .ref h), (1, .int (iI ((k : Nat) : Int)))] := hl
  have hi_X3 : ∀ w ∈ u_ws RX3 TX3 2, w ∈ wsX3_at := fun w h => km (ikX3 w h)
  have fl21 := hts _ (km wm63)
  have fl15 := hts _ (km wm62)
  refine lv_iload_n hx hb dX3_at_0 rfl (lv_at hl 1 rfl) ?_
  refine lv_if_lt (tgt := 21) hx hb dX3_at_1 (by decide) (fun c1 => ?_) (fun c1 => ?_)
  · skip
    have c1 := iI_ltT (a := ((k : Nat) : Int)) (b := (0 : Int)) c1 (by omega)
    omega
  · skip
    have c1 := iI_ltF (a := ((k : Nat) : Int)) (b := (0 : Int)) c1 (by omega)
    refine lv_iload_n hx hb dX3_at_4 rfl (lv_at hl 1 rfl) ?_
    refine lv_aload_n hx hb dX3_at_5 rfl (lv_at hl 0 rfl) ?_
    refine va_get (D := D) (ci := 3) (v := .int (iI ((n : Nat) : Int))) (C := RX3) (T := TX3) (N := 2) hx hb hts hi_X3 hown hK hP 0 rfl rfl 1 (by decide) fl21 (fun _ h9 => h9) rfl dX3_at_6 ?_
    refine lv_icmp_ge (tgt := 21) hx hb dX3_at_9 (by decide) (fun c9 => ?_) (fun c9 => ?_)
    · skip
      have c9 := iI_leT (a := ((n : Nat) : Int)) (b := ((k : Nat) : Int)) c9 (by omega)
      omega
    · skip
      have c9 := iI_leF (a := ((n : Nat) : Int)) (b := ((k : Nat) : Int)) c9 (by omega)
      refine lv_aload_n hx hb dX3_at_12 rfl (lv_at hl 0 rfl) ?_
      refine va_get (D := D) (ci := 3) (v := .ref a) (C := RX3) (T := TX3) (N := 2) hx hb hts hi_X3 hown hK hP 0 rfl rfl 0 (by decide) fl15 (fun _ h9 => h9) rfl dX3_at_13 ?_
      refine lv_iload_n hx hb dX3_at_16 rfl (lv_at hl 1 rfl) ?_
      refine k_iald hx hb hK hP 1 0 rfl rfl k (by omega) dX3_at_17 ?_
      refine lv_goto (tgt := 22) hx hb dX3_at_18 (by decide) ?_
      exact k_iret () hx hb hr hlocks hK hP hD hS [0, 1] (by decide) rfl rfl (rfl) hAe hQ dX3_at_22

abbrev rm_c_Row_put : Room := { frames := 0, cells := 0, slots := 0, locals := 0 }
set_option maxHeartbeats 4000000 in
set_option maxRecDepth 100000 in
theorem c_Row_put (l : Launch) (D : va_G) (cI cZ : ClassId) (h : Nat) (a : Nat) (M : Nat) (n : Nat) (f : Nat → Int32) (k : Nat) (x : Int32) (hM : M ≤ 900) (hn : n ≤ M) (hk : k < n) : MV l yX3_put wsX3_put rm_c_Row_put D (kT cI cZ) [.ref h, .int (iI ((k : Nat) : Int)), .int x] [(h, .inr (3, [.ref a, .int (iI ((n : Nat) : Int))])), (a, .inl (cI, M, .inl f))] (fun (_ : Unit) => True) (fun (u : Unit) => match u with | _ => [(h, .inr (3, [.ref a, .int (iI ((n : Nat) : Int))])), (a, .inl (cI, M, .inl (upd f k x)))]) 0 0 := by
  intro sz
  refine k_of (cc := cX3_put) (maxL := 3) (ret := none) (by decide) rfl (Nat.le_of_ble_eq_true rfl) ?_
  intro p e s m args below meth c A Q hAe hQ hx hb hr hml hts hown hlocks hnm hP hK hD hS hA ls hl
  have hl : lv_has ls 3 [(0, .ref h), (1, .int (iI ((k : Nat) : Int))), (2, .int x)] := hl
  have hi_X3 : ∀ w ∈ u_ws RX3 TX3 2, w ∈ wsX3_put := fun w h => km (ikX3 w h)
  have fl21 := hts _ (km wm63)
  have fl15 := hts _ (km wm62)
  refine lv_iload_n hx hb dX3_put_0 rfl (lv_at hl 1 rfl) ?_
  refine lv_if_lt (tgt := 19) hx hb dX3_put_1 (by decide) (fun c1 => ?_) (fun c1 => ?_)
  · skip
    have c1 := iI_ltT (a := ((k : Nat) : Int)) (b := (0 : Int)) c1 (by omega)
    omega
  · skip
    have c1 := iI_ltF (a := ((k : Nat) : Int)) (b := (0 : Int)) c1 (by omega)
    refine lv_iload_n hx hb dX3_put_4 rfl (lv_at hl 1 rfl) ?_
    refine lv_aload_n hx hb dX3_put_5 rfl (lv_at hl 0 rfl) ?_
    refine va_get (D := D) (ci := 3) (v := .int (iI ((n : Nat) : Int))) (C := RX3) (T := TX3) (N := 2) hx hb hts hi_X3 hown hK hP 0 rfl rfl 1 (by decide) fl21 (fun _ h9 => h9) rfl dX3_put_6 ?_
    refine lv_icmp_ge (tgt := 19) hx hb dX3_put_9 (by decide) (fun c9 => ?_) (fun c9 => ?_)
    · skip
      have c9 := iI_leT (a := ((n : Nat) : Int)) (b := ((k : Nat) : Int)) c9 (by omega)
      omega
    · skip
      have c9 := iI_leF (a := ((n : Nat) : Int)) (b := ((k : Nat) : Int)) c9 (by omega)
      refine lv_aload_n hx hb dX3_put_12 rfl (lv_at hl 0 rfl) ?_
      refine va_get (D := D) (ci := 3) (v := .ref a) (C := RX3) (T := TX3) (N := 2) hx hb hts hi_X3 hown hK hP 0 rfl rfl 0 (by decide) fl15 (fun _ h9 => h9) rfl dX3_put_13 ?_
      refine lv_iload_n hx hb dX3_put_16 rfl (lv_at hl 1 rfl) ?_
      refine lv_iload_n hx hb dX3_put_17 rfl (lv_at hl 2 rfl) ?_
      refine k_iast hx hb hK hP hD hS 1 0 rfl rfl k (by omega) dX3_put_18 (fun H locs hP hD hS => ?_)
      have hP : va_P D vwCl [(h, .inr (3, [.ref a, .int (iI ((n : Nat) : Int))])), (a, .inl (cI, M, .inl (upd f k (x))))] H := hP
      have hD : va_D A [(h, .inr (3, [.ref a, .int (iI ((n : Nat) : Int))])), (a, .inl (cI, M, .inl (upd f k (x))))] := hD
      exact k_vret () hx hb hr hlocks hK hP hD hS [0, 1] (by decide) rfl rfl (trivial) hAe hQ dX3_put_19

abbrev rm_c_Row_clear : Room := { frames := 0, cells := 0, slots := 0, locals := 0 }
set_option maxHeartbeats 4000000 in
set_option maxRecDepth 100000 in
theorem c_Row_clear (l : Launch) (D : va_G) (cI cZ : ClassId) (h : Nat) (a : Nat) (M : Nat) (n : Nat) (f : Nat → Int32)  : MV l yX3_clear wsX3_clear rm_c_Row_clear D (kT cI cZ) [.ref h] [(h, .inr (3, [.ref a, .int (iI ((n : Nat) : Int))])), (a, .inl (cI, M, .inl f))] (fun (_ : Unit) => True) (fun (u : Unit) => match u with | _ => [(h, .inr (3, [.ref a, .int (iI ((0 : Nat) : Int))])), (a, .inl (cI, M, .inl f))]) 0 0 := by
  intro sz
  refine k_of (cc := cX3_clear) (maxL := 1) (ret := none) (by decide) rfl (Nat.le_of_ble_eq_true rfl) ?_
  intro p e s m args below meth c A Q hAe hQ hx hb hr hml hts hown hlocks hnm hP hK hD hS hA ls hl
  have hl : lv_has ls 1 [(0, .ref h)] := hl
  have hi_X3 : ∀ w ∈ u_ws RX3 TX3 2, w ∈ wsX3_clear := fun w h => km (ikX3 w h)
  have fl21 := hts _ (km wm63)
  refine lv_aload_n hx hb dX3_clear_0 rfl (lv_at hl 0 rfl) ?_
  refine lv_iconst (v := iI ((0 : Nat) : Int)) hx hb dX3_clear_1 rfl ?_
  refine va_put (D := D) (ci := 3) (v := .int (iI ((0 : Nat) : Int))) (ty := .int) (C := RX3) (T := TX3) (N := 2) hx hb hts hi_X3 tyX3 tyX3_ok nmX3 hown hK hP hD hS 0 rfl rfl 1 (by decide) fl21 (fun _ h9 => h9) rfl (by decide +kernel) rfl rfl (Nat.le_of_ble_eq_true rfl) dX3_clear_2 (fun H locs hP hD hS => ?_)
  have hP : va_P D vwCl [(h, .inr (3, [.ref a, .int (iI ((0 : Nat) : Int))])), (a, .inl (cI, M, .inl f))] H := hP
  have hD : va_D A [(h, .inr (3, [.ref a, .int (iI ((0 : Nat) : Int))])), (a, .inl (cI, M, .inl f))] := hD
  exact k_vret () hx hb hr hlocks hK hP hD hS [0, 1] (by decide) rfl rfl (trivial) hAe hQ dX3_clear_5

abbrev rm_c_Row_setCount : Room := { frames := 1, cells := 0, slots := 0, locals := 17 }
set_option maxHeartbeats 4000000 in
set_option maxRecDepth 100000 in
theorem c_Row_setCount (l : Launch) (D : va_G) (cI cZ : ClassId) (h : Nat) (a : Nat) (M : Nat) (n : Nat) (f : Nat → Int32) (k : Nat) (hM : M ≤ 900) (hk : k ≤ M) : MV l yX3_setCount wsX3_setCount rm_c_Row_setCount D (kT cI cZ) [.ref h, .int (iI ((k : Nat) : Int))] [(h, .inr (3, [.ref a, .int (iI ((n : Nat) : Int))])), (a, .inl (cI, M, .inl f))] (fun (_ : Unit) => True) (fun (u : Unit) => match u with | _ => [(h, .inr (3, [.ref a, .int (iI ((k : Nat) : Int))])), (a, .inl (cI, M, .inl f))]) 0 0 := by
  intro sz
  refine k_of (cc := cX3_setCount) (maxL := 2) (ret := none) (by decide) rfl (Nat.le_of_ble_eq_true rfl) ?_
  intro p e s m args below meth c A Q hAe hQ hx hb hr hml hts hown hlocks hnm hP hK hD hS hA ls hl
  have hl : lv_has ls 2 [(0, .ref h), (1, .int (iI ((k : Nat) : Int)))] := hl
  have hi_X3 : ∀ w ∈ u_ws RX3 TX3 2, w ∈ wsX3_setCount := fun w h => km (ikX3 w h)
  have fl15 := hts _ (km wm62)
  have fl21 := hts _ (km wm63)
  refine lv_aload_n hx hb dX3_setCount_0 rfl (lv_at hl 0 rfl) ?_
  refine lv_iconst (v := iI (0 : Int)) hx hb dX3_setCount_1 rfl ?_
  refine lv_iload_n hx hb dX3_setCount_2 rfl (lv_at hl 1 rfl) ?_
  refine lv_aload_n hx hb dX3_setCount_3 rfl (lv_at hl 0 rfl) ?_
  refine va_get (D := D) (ci := 3) (v := .ref a) (C := RX3) (T := TX3) (N := 2) hx hb hts hi_X3 hown hK hP 0 rfl rfl 0 (by decide) fl15 (fun _ h9 => h9) rfl dX3_setCount_4 ?_
  refine k_alen hx hb hK hP 1 0 rfl rfl dX3_setCount_7 ?_
  refine va_mmin hx hb (by rw [hml]; exact hl.1.symm) hown (hts _ (km wm221)) (hts _ (km wm222)) (hts _ (km wm40)) (hts _ (km wm223)) (Nat.le_of_ble_eq_true rfl) (Nat.le_of_ble_eq_true rfl) (Nat.zero_le _) (Nat.zero_le _) dX3_setCount_8 ?_
  refine kn_i (imin (c := ((k : Nat) : Int)) (by omega) (by omega)) ?_
  refine va_mmax hx hb (by rw [hml]; exact hl.1.symm) hown (hts _ (km wm59)) (hts _ (km wm60)) (hts _ (km wm40)) (hts _ (km wm61)) (Nat.le_of_ble_eq_true rfl) (Nat.le_of_ble_eq_true rfl) (Nat.zero_le _) (Nat.zero_le _) dX3_setCount_11 ?_
  refine kn_i (imax (c := ((k : Nat) : Int)) (by omega) (by omega)) ?_
  refine va_put (D := D) (ci := 3) (v := .int (iI ((k : Nat) : Int))) (ty := .int) (C := RX3) (T := TX3) (N := 2) hx hb hts hi_X3 tyX3 tyX3_ok nmX3 hown hK hP hD hS 0 rfl rfl 1 (by decide) fl21 (fun _ h9 => h9) rfl (by decide +kernel) rfl rfl (Nat.le_of_ble_eq_true rfl) dX3_setCount_14 (fun H locs hP hD hS => ?_)
  have hP : va_P D vwCl [(h, .inr (3, [.ref a, .int (iI ((k : Nat) : Int))])), (a, .inl (cI, M, .inl f))] H := hP
  have hD : va_D A [(h, .inr (3, [.ref a, .int (iI ((k : Nat) : Int))])), (a, .inl (cI, M, .inl f))] := hD
  exact k_vret () hx hb hr hlocks hK hP hD hS [0, 1] (by decide) rfl rfl (trivial) hAe hQ dX3_setCount_17

abbrev rm_c_Row_add : Room := { frames := 0, cells := 0, slots := 0, locals := 0 }
set_option maxHeartbeats 4000000 in
set_option maxRecDepth 100000 in
theorem c_Row_add (l : Launch) (D : va_G) (cI cZ : ClassId) (h : Nat) (a : Nat) (M : Nat) (n : Nat) (f : Nat → Int32) (x : Int32) (hM : M ≤ 900) (hn : n < M) : MV l yX3_add wsX3_add rm_c_Row_add D (kT cI cZ) [.ref h, .int x] [(h, .inr (3, [.ref a, .int (iI ((n : Nat) : Int))])), (a, .inl (cI, M, .inl f))] (fun (_ : Unit) => True) (fun (u : Unit) => match u with | _ => [(h, .inr (3, [.ref a, .int (iI ((n + 1 : Nat) : Int))])), (a, .inl (cI, M, .inl (apL f n [x])))]) 0 0 := by
  intro sz
  refine k_of (cc := cX3_add) (maxL := 2) (ret := none) (by decide) rfl (Nat.le_of_ble_eq_true rfl) ?_
  intro p e s m args below meth c A Q hAe hQ hx hb hr hml hts hown hlocks hnm hP hK hD hS hA ls hl
  have hl : lv_has ls 2 [(0, .ref h), (1, .int x)] := hl
  have hi_X3 : ∀ w ∈ u_ws RX3 TX3 2, w ∈ wsX3_add := fun w h => km (ikX3 w h)
  have fl21 := hts _ (km wm63)
  have fl15 := hts _ (km wm62)
  refine lv_aload_n hx hb dX3_add_0 rfl (lv_at hl 0 rfl) ?_
  refine va_get (D := D) (ci := 3) (v := .int (iI ((n : Nat) : Int))) (C := RX3) (T := TX3) (N := 2) hx hb hts hi_X3 hown hK hP 0 rfl rfl 1 (by decide) fl21 (fun _ h9 => h9) rfl dX3_add_1 ?_
  refine lv_aload_n hx hb dX3_add_4 rfl (lv_at hl 0 rfl) ?_
  refine va_get (D := D) (ci := 3) (v := .ref a) (C := RX3) (T := TX3) (N := 2) hx hb hts hi_X3 hown hK hP 0 rfl rfl 0 (by decide) fl15 (fun _ h9 => h9) rfl dX3_add_5 ?_
  refine k_alen hx hb hK hP 1 0 rfl rfl dX3_add_8 ?_
  refine lv_icmp_ge (tgt := 32) hx hb dX3_add_9 (by decide) (fun c9 => ?_) (fun c9 => ?_)
  · skip
    have c9 := iI_leT (a := ((M : Nat) : Int)) (b := ((n : Nat) : Int)) c9 (by omega)
    omega
  · skip
    have c9 := iI_leF (a := ((M : Nat) : Int)) (b := ((n : Nat) : Int)) c9 (by omega)
    refine lv_aload_n hx hb dX3_add_12 rfl (lv_at hl 0 rfl) ?_
    refine va_get (D := D) (ci := 3) (v := .ref a) (C := RX3) (T := TX3) (N := 2) hx hb hts hi_X3 hown hK hP 0 rfl rfl 0 (by decide) fl15 (fun _ h9 => h9) rfl dX3_add_13 ?_
    refine lv_aload_n hx hb dX3_add_16 rfl (lv_at hl 0 rfl) ?_
    refine va_get (D := D) (ci := 3) (v := .int (iI ((n : Nat) : Int))) (C := RX3) (T := TX3) (N := 2) hx hb hts hi_X3 hown hK hP 0 rfl rfl 1 (by decide) fl21 (fun _ h9 => h9) rfl dX3_add_17 ?_
    refine lv_iload_n hx hb dX3_add_20 rfl (lv_at hl 1 rfl) ?_
    refine k_iast hx hb hK hP hD hS 1 0 rfl rfl n (by omega) dX3_add_21 (fun H locs hP hD hS => ?_)
    have hP : va_P D vwCl [(h, .inr (3, [.ref a, .int (iI ((n : Nat) : Int))])), (a, .inl (cI, M, .inl (upd f n (x))))] H := hP
    have hD : va_D A [(h, .inr (3, [.ref a, .int (iI ((n : Nat) : Int))])), (a, .inl (cI, M, .inl (upd f n (x))))] := hD
    rw [show (upd f n (x)) = (apL f n [x]) from apL_one f n x] at hP hD
    refine lv_aload_n hx hb dX3_add_22 rfl (lv_at hl 0 rfl) ?_
    refine lv_dup hx hb dX3_add_23 rfl ?_
    refine va_get (D := D) (ci := 3) (v := .int (iI ((n : Nat) : Int))) (C := RX3) (T := TX3) (N := 2) hx hb hts hi_X3 hown hK hP 0 rfl rfl 1 (by decide) fl21 (fun _ h9 => h9) rfl dX3_add_24 ?_
    refine lv_iconst (v := iI (1 : Int)) hx hb dX3_add_27 rfl ?_
    refine lv_iadd hx hb dX3_add_28 ?_
    refine kn_i (iA (c := ((n + 1 : Nat) : Int)) (by omega)) ?_
    refine va_put (D := D) (ci := 3) (v := .int (iI ((n + 1 : Nat) : Int))) (ty := .int) (C := RX3) (T := TX3) (N := 2) hx hb hts hi_X3 tyX3 tyX3_ok nmX3 hown hK hP hD hS 0 rfl rfl 1 (by decide) fl21 (fun _ h9 => h9) rfl (by decide +kernel) rfl rfl (Nat.le_of_ble_eq_true rfl) dX3_add_29 (fun H locs hP hD hS => ?_)
    have hP : va_P D vwCl [(h, .inr (3, [.ref a, .int (iI ((n + 1 : Nat) : Int))])), (a, .inl (cI, M, .inl (apL f n [x])))] H := hP
    have hD : va_D A [(h, .inr (3, [.ref a, .int (iI ((n + 1 : Nat) : Int))])), (a, .inl (cI, M, .inl (apL f n [x])))] := hD
    exact k_vret () hx hb hr hlocks hK hP hD hS [0, 1] (by decide) rfl rfl (trivial) hAe hQ dX3_add_32

abbrev rm_c_Row_addFrom : Room := { frames := 1, cells := 0, slots := 0, locals := 21 }
set_option maxHeartbeats 4000000 in
set_option maxRecDepth 100000 in
theorem c_Row_addFrom (l : Launch) (D : va_G) (cI cZ : ClassId) (h : Nat) (a : Nat) (M : Nat) (n : Nat) (f : Nat → Int32) (h2 : Nat) (a2 : Nat) (M2 : Nat) (n2 : Nat) (g : Nat → Int32) (st : Nat) (k : Nat) (hM : M ≤ 900) (hM2 : M2 ≤ 900) (hn2 : n2 ≤ M2) (hst : st + k ≤ n2) (hk : n + k ≤ M) : MV l yX3_addFrom wsX3_addFrom rm_c_Row_addFrom D (kT cI cZ) [.ref h, .ref h2, .int (iI ((st : Nat) : Int)), .int (iI ((k : Nat) : Int))] [(h, .inr (3, [.ref a, .int (iI ((n : Nat) : Int))])), (a, .inl (cI, M, .inl f)), (h2, .inr (3, [.ref a2, .int (iI ((n2 : Nat) : Int))])), (a2, .inl (cI, M2, .inl g))] (fun (_ : Unit) => True) (fun (u : Unit) => match u with | _ => [(h, .inr (3, [.ref a, .int (iI ((n + k : Nat) : Int))])), (a, .inl (cI, M, .inl (apL f n (sl g st k)))), (h2, .inr (3, [.ref a2, .int (iI ((n2 : Nat) : Int))])), (a2, .inl (cI, M2, .inl g))]) 0 0 := by
  intro sz
  refine k_of (cc := cX3_addFrom) (maxL := 6) (ret := none) (by decide) rfl (Nat.le_of_ble_eq_true rfl) ?_
  intro p e s m args below meth c A Q hAe hQ hx hb hr hml hts hown hlocks hnm hP hK hD hS hA ls hl
  have hl : lv_has ls 6 [(0, .ref h), (1, .ref h2), (2, .int (iI ((st : Nat) : Int))), (3, .int (iI ((k : Nat) : Int)))] := hl
  refine lv_iload_n hx hb dX3_addFrom_0 rfl (lv_at hl 3 rfl) ?_
  refine lv_aload_n hx hb dX3_addFrom_1 rfl (lv_at hl 1 rfl) ?_
  refine k_calli (wc := [(h2, .inr (3, [.ref a2, .int (iI ((n2 : Nat) : Int))])), (a2, .inl (cI, M2, .inl g))]) (wr := [(h, .inr (3, [.ref a, .int (iI ((n : Nat) : Int))])), (a, .inl (cI, M, .inl f))]) (wf := fun _ => [(h, .inr (3, [.ref a, .int (iI ((n : Nat) : Int))])), (a, .inl (cI, M, .inl f)), (h2, .inr (3, [.ref a2, .int (iI ((n2 : Nat) : Int))])), (a2, .inl (cI, M2, .inl g))]) hK hP hD hS hA [2, 3] [0, 1] [0, 1, 2, 3] ⟨⟨rfl, rfl, by decide⟩, rfl, by decide, by decide⟩ (fun _ => ⟨rfl, rfl⟩) (by decide) (fun hPc hDc => va_runV (As := []) (rest := [.int (iI ((k : Nat) : Int))]) ⟨hx, hb, hml, hown, hts⟩ (c_Row_count l D cI cZ (h := h2) (a := a2) (M := M2) (n := n2) (f := g)  _) (cwV 0 hts (kgV wm216 wm193 wm194 wm39 wmcX3_count) rfl rfl rfl (by decide +kernel) ⟨Nat.le_of_ble_eq_true rfl, Nat.le_of_ble_eq_true rfl⟩) (k_preV hK hPc hDc (ci := 3) (q0 := 0) rfl rfl) rfl rfl hl.1 rfl (lv_room (Nat.le_of_ble_eq_true rfl)) dX3_addFrom_2 ⟨Nat.le_of_ble_eq_true rfl, Nat.le_of_ble_eq_true rfl⟩) (fun r2 u H locs hw hP hD hS => ?_)
  have hP : va_P D vwCl [(h, .inr (3, [.ref a, .int (iI ((n : Nat) : Int))])), (a, .inl (cI, M, .inl f)), (h2, .inr (3, [.ref a2, .int (iI ((n2 : Nat) : Int))])), (a2, .inl (cI, M2, .inl g))] H := hP
  have hD : va_D A [(h, .inr (3, [.ref a, .int (iI ((n : Nat) : Int))])), (a, .inl (cI, M, .inl f)), (h2, .inr (3, [.ref a2, .int (iI ((n2 : Nat) : Int))])), (a2, .inl (cI, M2, .inl g))] := hD
  refine W.widen (k := 0) (n := 0) (Nat.le_of_ble_eq_true rfl) (Nat.le_of_ble_eq_true rfl) ?_
  have hw : r2 = iI ((n2 : Nat) : Int) := hw
  subst hw
  refine lv_iload_n hx hb dX3_addFrom_5 rfl (lv_at hl 2 rfl) ?_
  refine lv_isub hx hb dX3_addFrom_6 ?_
  refine kn_i (iB (c := (((n2 : Nat) : Int) - ((st : Nat) : Int) : Int)) (by omega)) ?_
  refine va_mmin hx hb (by rw [hml]; exact hl.1.symm) hown (hts _ (km wm221)) (hts _ (km wm222)) (hts _ (km wm40)) (hts _ (km wm223)) (Nat.le_of_ble_eq_true rfl) (Nat.le_of_ble_eq_true rfl) (Nat.zero_le _) (Nat.zero_le _) dX3_addFrom_7 ?_
  refine kn_i (imin (c := ((k : Nat) : Int)) (by omega) (by omega)) ?_
  refine lv_istore (lv' := [(4, .int (iI ((k : Nat) : Int))), (0, .ref h), (1, .ref h2), (2, .int (iI ((st : Nat) : Int))), (3, .int (iI ((k : Nat) : Int)))]) hx hb dX3_addFrom_10 hl (by decide) rfl (fun ls hl => ?_)
  refine lv_iconst (v := iI ((0 : Nat) : Int)) hx hb dX3_addFrom_12 rfl ?_
  refine lv_istore (lv' := [(5, .int (iI ((0 : Nat) : Int))), (4, .int (iI ((k : Nat) : Int))), (0, .ref h), (1, .ref h2), (2, .int (iI ((st : Nat) : Int))), (3, .int (iI ((k : Nat) : Int)))]) hx hb dX3_addFrom_13 hl (by decide) rfl (fun ls hl => ?_)
  have lp15 : ∀ (fu : Nat) (i : Nat) (H : Heap) (locs : List Loc) (ls : Array Slot), k - i < fu → (i ≤ k) → va_P D vwCl [(h, .inr (3, [.ref a, .int (iI ((n + i : Nat) : Int))])), (a, .inl (cI, M, .inl (apL f n (sl g st i)))), (h2, .inr (3, [.ref a2, .int (iI ((n2 : Nat) : Int))])), (a2, .inl (cI, M2, .inl g))] H → va_D A [(h, .inr (3, [.ref a, .int (iI ((n + i : Nat) : Int))])), (a, .inl (cI, M, .inl (apL f n (sl g st i)))), (h2, .inr (3, [.ref a2, .int (iI ((n2 : Nat) : Int))])), (a2, .inl (cI, M2, .inl g))] → va_S A s.heap H locs → lv_has ls 6 [(0, .ref h), (1, .ref h2), (2, .int (iI ((st : Nat) : Int))), (4, .int (iI ((k : Nat) : Int))), (5, .int (iI ((i : Nat) : Int)))] → W p l e rm_c_Row_addFrom s m args below meth c H locs 0 0 Q (F0 m 15 ls []) := by
    intro fu
    induction fu with
    | zero => intro i H locs ls hfu; exact absurd hfu (Nat.not_lt_zero _)
    | succ fu ih15 =>
      intro i H locs ls hfu hi hP hD hS hl
      refine lv_iload hx hb dX3_addFrom_15 (lv_at hl 4 rfl) ?_
      refine lv_iload hx hb dX3_addFrom_17 (lv_at hl 3 rfl) ?_
      refine lv_icmp_ge (tgt := 40) hx hb dX3_addFrom_19 (by decide) (fun c19 => ?_) (fun c19 => ?_)
      · skip
        have c19 := iI_leT (a := ((k : Nat) : Int)) (b := ((i : Nat) : Int)) c19 (by omega)
        obtain rfl : i = k := by omega
        exact k_vret () hx hb hr hlocks hK hP hD hS [0, 1, 2, 3] (by decide) rfl rfl (trivial) hAe hQ dX3_addFrom_40
      · skip
        have c19 := iI_leF (a := ((k : Nat) : Int)) (b := ((i : Nat) : Int)) c19 (by omega)
        refine lv_aload_n hx hb dX3_addFrom_22 rfl (lv_at hl 0 rfl) ?_
        refine lv_aload_n hx hb dX3_addFrom_23 rfl (lv_at hl 1 rfl) ?_
        refine lv_iload_n hx hb dX3_addFrom_24 rfl (lv_at hl 2 rfl) ?_
        refine lv_iload hx hb dX3_addFrom_25 (lv_at hl 4 rfl) ?_
        refine lv_iadd hx hb dX3_addFrom_27 ?_
        refine kn_i (iA (c := (((st + i) : Nat) : Int)) (by omega)) ?_
        refine k_calli (wc := [(h2, .inr (3, [.ref a2, .int (iI ((n2 : Nat) : Int))])), (a2, .inl (cI, M2, .inl g))]) (wr := [(h, .inr (3, [.ref a, .int (iI ((n + i : Nat) : Int))])), (a, .inl (cI, M, .inl (apL f n (sl g st i))))]) (wf := fun _ => [(h, .inr (3, [.ref a, .int (iI ((n + i : Nat) : Int))])), (a, .inl (cI, M, .inl (apL f n (sl g st i)))), (h2, .inr (3, [.ref a2, .int (iI ((n2 : Nat) : Int))])), (a2, .inl (cI, M2, .inl g))]) hK hP hD hS hA [2, 3] [0, 1] [0, 1, 2, 3] ⟨⟨rfl, rfl, by decide⟩, rfl, by decide, by decide⟩ (fun _ => ⟨rfl, rfl⟩) (by decide) (fun hPc hDc => va_runV (As := [.int (iI (((st + i) : Nat) : Int))]) (rest := [.ref h]) ⟨hx, hb, hml, hown, hts⟩ (c_Row_atk l D cI cZ (h := h2) (a := a2) (M := M2) (n := n2) (f := g) (k := (st + i)) (hM := by omega) (hn := by omega) (hk := by omega) _) (cwV 1 hts (kgV wm224 wm225 wm226 wm39 wmcX3_at) rfl rfl rfl (by decide +kernel) ⟨Nat.le_of_ble_eq_true rfl, Nat.le_of_ble_eq_true rfl⟩) (k_preV hK hPc hDc (ci := 3) (q0 := 0) rfl rfl) rfl rfl hl.1 rfl (lv_room (Nat.le_of_ble_eq_true rfl)) dX3_addFrom_28 ⟨Nat.le_of_ble_eq_true rfl, Nat.le_of_ble_eq_true rfl⟩) (fun r28 u H locs hw hP hD hS => ?_)
        have hP : va_P D vwCl [(h, .inr (3, [.ref a, .int (iI ((n + i : Nat) : Int))])), (a, .inl (cI, M, .inl (apL f n (sl g st i)))), (h2, .inr (3, [.ref a2, .int (iI ((n2 : Nat) : Int))])), (a2, .inl (cI, M2, .inl g))] H := hP
        have hD : va_D A [(h, .inr (3, [.ref a, .int (iI ((n + i : Nat) : Int))])), (a, .inl (cI, M, .inl (apL f n (sl g st i)))), (h2, .inr (3, [.ref a2, .int (iI ((n2 : Nat) : Int))])), (a2, .inl (cI, M2, .inl g))] := hD
        refine W.widen (k := 0) (n := 0) (Nat.le_of_ble_eq_true rfl) (Nat.le_of_ble_eq_true rfl) ?_
        have hw : r28 = (g (st + i)) := hw
        subst hw
        refine k_callv (wc := [(h, .inr (3, [.ref a, .int (iI ((n + i : Nat) : Int))])), (a, .inl (cI, M, .inl (apL f n (sl g st i))))]) (wr := [(h2, .inr (3, [.ref a2, .int (iI ((n2 : Nat) : Int))])), (a2, .inl (cI, M2, .inl g))]) (wf := fun _ => [(h, .inr (3, [.ref a, .int (iI (((n + i) + 1 : Nat) : Int))])), (a, .inl (cI, M, .inl (apL (apL f n (sl g st i)) (n + i) [(g (st + i))]))), (h2, .inr (3, [.ref a2, .int (iI ((n2 : Nat) : Int))])), (a2, .inl (cI, M2, .inl g))]) hK hP hD hS hA [0, 1] [2, 3] [2, 3, 0, 1] ⟨⟨rfl, rfl, by decide⟩, rfl, by decide, by decide⟩ (fun _ => ⟨rfl, rfl⟩) (by decide) (fun hPc hDc => va_runV (As := [.int (g (st + i))]) (rest := []) ⟨hx, hb, hml, hown, hts⟩ (c_Row_add l D cI cZ (h := h) (a := a) (M := M) (n := n + i) (f := (apL f n (sl g st i))) (x := (g (st + i))) (hM := by omega) (hn := by omega) _) (cwV 1 hts (kgV wm228 wm197 wm198 wm39 wmcX3_add) rfl rfl rfl (by decide +kernel) ⟨Nat.le_of_ble_eq_true rfl, Nat.le_of_ble_eq_true rfl⟩) (k_preV hK hPc hDc (ci := 3) (q0 := 0) rfl rfl) rfl rfl hl.1 rfl (lv_room (Nat.le_of_ble_eq_true rfl)) dX3_addFrom_31 ⟨Nat.le_of_ble_eq_true rfl, Nat.le_of_ble_eq_true rfl⟩) (fun u H locs hw hP hD hS => ?_)
        have hP : va_P D vwCl [(h, .inr (3, [.ref a, .int (iI (((n + i) + 1 : Nat) : Int))])), (a, .inl (cI, M, .inl (apL (apL f n (sl g st i)) (n + i) [(g (st + i))]))), (h2, .inr (3, [.ref a2, .int (iI ((n2 : Nat) : Int))])), (a2, .inl (cI, M2, .inl g))] H := hP
        have hD : va_D A [(h, .inr (3, [.ref a, .int (iI (((n + i) + 1 : Nat) : Int))])), (a, .inl (cI, M, .inl (apL (apL f n (sl g st i)) (n + i) [(g (st + i))]))), (h2, .inr (3, [.ref a2, .int (iI ((n2 : Nat) : Int))])), (a2, .inl (cI, M2, .inl g))] := hD
        refine W.widen (k := 0) (n := 0) (Nat.le_of_ble_eq_true rfl) (Nat.le_of_ble_eq_true rfl) ?_
        rw [show (apL (apL f n (sl g st i)) (n + i) [(g (st + i))]) = (apL f n (sl g st (i + 1))) from apL_sl] at hP hD
        refine lv_iinc (v := iI ((i + 1 : Nat) : Int)) (lv' := [(5, .int (iI ((i + 1 : Nat) : Int))), (0, .ref h), (1, .ref h2), (2, .int (iI ((st : Nat) : Int))), (4, .int (iI ((k : Nat) : Int)))]) hx hb dX3_addFrom_34 hl (k := 4) rfl (iA (by omega)) (by decide) rfl (fun ls hl => ?_)
        refine lv_goto (tgt := 15) hx hb dX3_addFrom_37 (by decide) ?_
        exact ih15 (i + 1) _ _ _ (by omega) (by omega) hP hD hS (lv_sub hl [1, 2, 3, 4, 0] rfl)
  rw [show f = (apL f n (sl g st 0)) from (apL_nil f n).symm] at hP hD
  exact lp15 _ 0 _ _ _ (Nat.lt_succ_self _) (by omega) hP hD hS (lv_sub hl [2, 3, 4, 1, 0] rfl)

abbrev rm_c_Row_become : Room := { frames := 2, cells := 0, slots := 0, locals := 46 }
set_option maxHeartbeats 4000000 in
set_option maxRecDepth 100000 in
theorem c_Row_become (l : Launch) (D : va_G) (cI cZ : ClassId) (h : Nat) (a : Nat) (M : Nat) (n : Nat) (f : Nat → Int32) (h2 : Nat) (a2 : Nat) (M2 : Nat) (n2 : Nat) (g : Nat → Int32) (hM : M ≤ 900) (hM2 : M2 ≤ 900) (hn2 : n2 ≤ M2) (hk : n2 ≤ M) : MV l yX3_become wsX3_become rm_c_Row_become D (kT cI cZ) [.ref h, .ref h2] [(h, .inr (3, [.ref a, .int (iI ((n : Nat) : Int))])), (a, .inl (cI, M, .inl f)), (h2, .inr (3, [.ref a2, .int (iI ((n2 : Nat) : Int))])), (a2, .inl (cI, M2, .inl g))] (fun (_ : Unit) => True) (fun (u : Unit) => match u with | _ => [(h, .inr (3, [.ref a, .int (iI ((n2 : Nat) : Int))])), (a, .inl (cI, M, .inl (apL f 0 (sl g 0 n2)))), (h2, .inr (3, [.ref a2, .int (iI ((n2 : Nat) : Int))])), (a2, .inl (cI, M2, .inl g))]) 0 0 := by
  intro sz
  refine k_of (cc := cX3_become) (maxL := 2) (ret := none) (by decide) rfl (Nat.le_of_ble_eq_true rfl) ?_
  intro p e s m args below meth c A Q hAe hQ hx hb hr hml hts hown hlocks hnm hP hK hD hS hA ls hl
  have hl : lv_has ls 2 [(0, .ref h), (1, .ref h2)] := hl
  refine lv_aload_n hx hb dX3_become_0 rfl (lv_at hl 0 rfl) ?_
  refine k_callv (wc := [(h, .inr (3, [.ref a, .int (iI ((n : Nat) : Int))])), (a, .inl (cI, M, .inl f))]) (wr := [(h2, .inr (3, [.ref a2, .int (iI ((n2 : Nat) : Int))])), (a2, .inl (cI, M2, .inl g))]) (wf := fun _ => [(h, .inr (3, [.ref a, .int (iI ((0 : Nat) : Int))])), (a, .inl (cI, M, .inl f)), (h2, .inr (3, [.ref a2, .int (iI ((n2 : Nat) : Int))])), (a2, .inl (cI, M2, .inl g))]) hK hP hD hS hA [0, 1] [2, 3] [2, 3, 0, 1] ⟨⟨rfl, rfl, by decide⟩, rfl, by decide, by decide⟩ (fun _ => ⟨rfl, rfl⟩) (by decide) (fun hPc hDc => va_runV (As := []) (rest := []) ⟨hx, hb, hml, hown, hts⟩ (c_Row_clear l D cI cZ (h := h) (a := a) (M := M) (n := n) (f := f)  _) (cwV 0 hts (kgV wm212 wm213 wm214 wm39 wmcX3_clear) rfl rfl rfl (by decide +kernel) ⟨Nat.le_of_ble_eq_true rfl, Nat.le_of_ble_eq_true rfl⟩) (k_preV hK hPc hDc (ci := 3) (q0 := 0) rfl rfl) rfl rfl hl.1 rfl (lv_room (Nat.le_of_ble_eq_true rfl)) dX3_become_1 ⟨Nat.le_of_ble_eq_true rfl, Nat.le_of_ble_eq_true rfl⟩) (fun u H locs hw hP hD hS => ?_)
  have hP : va_P D vwCl [(h, .inr (3, [.ref a, .int (iI ((0 : Nat) : Int))])), (a, .inl (cI, M, .inl f)), (h2, .inr (3, [.ref a2, .int (iI ((n2 : Nat) : Int))])), (a2, .inl (cI, M2, .inl g))] H := hP
  have hD : va_D A [(h, .inr (3, [.ref a, .int (iI ((0 : Nat) : Int))])), (a, .inl (cI, M, .inl f)), (h2, .inr (3, [.ref a2, .int (iI ((n2 : Nat) : Int))])), (a2, .inl (cI, M2, .inl g))] := hD
  refine W.widen (k := 0) (n := 0) (Nat.le_of_ble_eq_true rfl) (Nat.le_of_ble_eq_true rfl) ?_
  refine lv_aload_n hx hb dX3_become_4 rfl (lv_at hl 0 rfl) ?_
  refine lv_aload_n hx hb dX3_become_5 rfl (lv_at hl 1 rfl) ?_
  refine lv_iconst (v := iI ((0 : Nat) : Int)) hx hb dX3_become_6 rfl ?_
  refine lv_aload_n hx hb dX3_become_7 rfl (lv_at hl 1 rfl) ?_
  refine k_calli (wc := [(h2, .inr (3, [.ref a2, .int (iI ((n2 : Nat) : Int))])), (a2, .inl (cI, M2, .inl g))]) (wr := [(h, .inr (3, [.ref a, .int (iI ((0 : Nat) : Int))])), (a, .inl (cI, M, .inl f))]) (wf := fun _ => [(h, .inr (3, [.ref a, .int (iI ((0 : Nat) : Int))])), (a, .inl (cI, M, .inl f)), (h2, .inr (3, [.ref a2, .int (iI ((n2 : Nat) : Int))])), (a2, .inl (cI, M2, .inl g))]) hK hP hD hS hA [2, 3] [0, 1] [0, 1, 2, 3] ⟨⟨rfl, rfl, by decide⟩, rfl, by decide, by decide⟩ (fun _ => ⟨rfl, rfl⟩) (by decide) (fun hPc hDc => va_runV (As := []) (rest := [.int (iI ((0 : Nat) : Int)), .ref h2, .ref h]) ⟨hx, hb, hml, hown, hts⟩ (c_Row_count l D cI cZ (h := h2) (a := a2) (M := M2) (n := n2) (f := g)  _) (cwV 0 hts (kgV wm216 wm193 wm194 wm39 wmcX3_count) rfl rfl rfl (by decide +kernel) ⟨Nat.le_of_ble_eq_true rfl, Nat.le_of_ble_eq_true rfl⟩) (k_preV hK hPc hDc (ci := 3) (q0 := 0) rfl rfl) rfl rfl hl.1 rfl (lv_room (Nat.le_of_ble_eq_true rfl)) dX3_become_8 ⟨Nat.le_of_ble_eq_true rfl, Nat.le_of_ble_eq_true rfl⟩) (fun r8 u H locs hw hP hD hS => ?_)
  have hP : va_P D vwCl [(h, .inr (3, [.ref a, .int (iI ((0 : Nat) : Int))])), (a, .inl (cI, M, .inl f)), (h2, .inr (3, [.ref a2, .int (iI ((n2 : Nat) : Int))])), (a2, .inl (cI, M2, .inl g))] H := hP
  have hD : va_D A [(h, .inr (3, [.ref a, .int (iI ((0 : Nat) : Int))])), (a, .inl (cI, M, .inl f)), (h2, .inr (3, [.ref a2, .int (iI ((n2 : Nat) : Int))])), (a2, .inl (cI, M2, .inl g))] := hD
  refine W.widen (k := 0) (n := 0) (Nat.le_of_ble_eq_true rfl) (Nat.le_of_ble_eq_true rfl) ?_
  have hw : r8 = iI ((n2 : Nat) : Int) := hw
  subst hw
  refine k_callv (wc := [(h, .inr (3, [.ref a, .int (iI ((0 : Nat) : Int))])), (a, .inl (cI, M, .inl f)), (h2, .inr (3, [.ref a2, .int (iI ((n2 : Nat) : Int))])), (a2, .inl (cI, M2, .inl g))]) (wr := []) (wf := fun _ => [(h, .inr (3, [.ref a, .int (iI ((0 + n2 : Nat) : Int))])), (a, .inl (cI, M, .inl (apL f 0 (sl g 0 n2)))), (h2, .inr (3, [.ref a2, .int (iI ((n2 : Nat) : Int))])), (a2, .inl (cI, M2, .inl g))]) hK hP hD hS hA [0, 1, 2, 3] [] [0, 1, 2, 3] ⟨⟨rfl, rfl, by decide⟩, rfl, by decide, by decide⟩ (fun _ => ⟨rfl, rfl⟩) (by decide) (fun hPc hDc => va_runV (As := [.ref h2, .int (iI ((0 : Nat) : Int)), .int (iI ((n2 : Nat) : Int))]) (rest := []) ⟨hx, hb, hml, hown, hts⟩ (c_Row_addFrom l D cI cZ (h := h) (a := a) (M := M) (n := 0) (f := f) (h2 := h2) (a2 := a2) (M2 := M2) (n2 := n2) (g := g) (st := 0) (k := n2) (hM := by omega) (hM2 := by omega) (hn2 := by omega) (hst := by omega) (hk := by omega) _) (cwV 3 hts (kgV wm217 wm218 wm219 wm39 wmcX3_addFrom) rfl rfl rfl (by decide +kernel) ⟨Nat.le_of_ble_eq_true rfl, Nat.le_of_ble_eq_true rfl⟩) (k_preV hK hPc hDc (ci := 3) (q0 := 0) rfl rfl) rfl rfl hl.1 rfl (lv_room (Nat.le_of_ble_eq_true rfl)) dX3_become_11 ⟨Nat.le_of_ble_eq_true rfl, Nat.le_of_ble_eq_true rfl⟩) (fun u H locs hw hP hD hS => ?_)
  have hP : va_P D vwCl [(h, .inr (3, [.ref a, .int (iI ((0 + n2 : Nat) : Int))])), (a, .inl (cI, M, .inl (apL f 0 (sl g 0 n2)))), (h2, .inr (3, [.ref a2, .int (iI ((n2 : Nat) : Int))])), (a2, .inl (cI, M2, .inl g))] H := hP
  have hD : va_D A [(h, .inr (3, [.ref a, .int (iI ((0 + n2 : Nat) : Int))])), (a, .inl (cI, M, .inl (apL f 0 (sl g 0 n2)))), (h2, .inr (3, [.ref a2, .int (iI ((n2 : Nat) : Int))])), (a2, .inl (cI, M2, .inl g))] := hD
  refine W.widen (k := 0) (n := 0) (Nat.le_of_ble_eq_true rfl) (Nat.le_of_ble_eq_true rfl) ?_
  rw [show iI ((0 + n2 : Nat) : Int) = iI ((n2 : Nat) : Int) from by rw [Nat.zero_add]] at hP hD
  exact k_vret () hx hb hr hlocks hK hP hD hS [0, 1, 2, 3] (by decide) rfl rfl (trivial) hAe hQ dX3_become_14

abbrev rm_c_Row_sameFrom : Room := { frames := 1, cells := 0, slots := 0, locals := 15 }
set_option maxHeartbeats 4000000 in
set_option maxRecDepth 100000 in
theorem c_Row_sameFrom (l : Launch) (D : va_G) (cI cZ : ClassId) (h : Nat) (a : Nat) (M : Nat) (n : Nat) (f : Nat → Int32) (h2 : Nat) (a2 : Nat) (M2 : Nat) (n2 : Nat) (g : Nat → Int32) (i : Nat) (j : Nat) (hM : M ≤ 900) (hn : n ≤ M) (hM2 : M2 ≤ 900) (hn2 : n2 ≤ M2) (hi : i ≤ n) (hj : j ≤ n2) : MI l yX3_sameFrom wsX3_sameFrom rm_c_Row_sameFrom D (kT cI cZ) [.ref h, .int (iI ((i : Nat) : Int)), .ref h2, .int (iI ((j : Nat) : Int))] [(h, .inr (3, [.ref a, .int (iI ((n : Nat) : Int))])), (a, .inl (cI, M, .inl f)), (h2, .inr (3, [.ref a2, .int (iI ((n2 : Nat) : Int))])), (a2, .inl (cI, M2, .inl g))] (fun (r : Int32) (_ : Unit) => r = iI ((lcp f g i j (min (n - i) (n2 - j)) : Nat) : Int)) (fun (u : Unit) => match u with | _ => [(h, .inr (3, [.ref a, .int (iI ((n : Nat) : Int))])), (a, .inl (cI, M, .inl f)), (h2, .inr (3, [.ref a2, .int (iI ((n2 : Nat) : Int))])), (a2, .inl (cI, M2, .inl g))]) 0 0 := by
  intro sz
  refine k_of (cc := cX3_sameFrom) (maxL := 6) (ret := (some .int)) (by decide) rfl (Nat.le_of_ble_eq_true rfl) ?_
  intro p e s m args below meth c A Q hAe hQ hx hb hr hml hts hown hlocks hnm hP hK hD hS hA ls hl
  have hl : lv_has ls 6 [(0, .ref h), (1, .int (iI ((i : Nat) : Int))), (2, .ref h2), (3, .int (iI ((j : Nat) : Int)))] := hl
  have hi_X3 : ∀ w ∈ u_ws RX3 TX3 2, w ∈ wsX3_sameFrom := fun w h => km (ikX3 w h)
  have fl21 := hts _ (km wm63)
  have fl15 := hts _ (km wm62)
  refine lv_iload_n hx hb dX3_sameFrom_0 rfl (lv_at hl 1 rfl) ?_
  refine lv_if_lt (tgt := 8) hx hb dX3_sameFrom_1 (by decide) (fun c1 => ?_) (fun c1 => ?_)
  · skip
    have c1 := iI_ltT (a := ((i : Nat) : Int)) (b := (0 : Int)) c1 (by omega)
    omega
  · skip
    have c1 := iI_ltF (a := ((i : Nat) : Int)) (b := (0 : Int)) c1 (by omega)
    refine lv_iload_n hx hb dX3_sameFrom_4 rfl (lv_at hl 3 rfl) ?_
    refine lv_if_ge (tgt := 10) hx hb dX3_sameFrom_5 (by decide) (fun c5 => ?_) (fun c5 => ?_)
    · skip
      have c5 := iI_leT (a := (0 : Int)) (b := ((j : Nat) : Int)) c5 (by omega)
      refine lv_aload_n hx hb dX3_sameFrom_10 rfl (lv_at hl 0 rfl) ?_
      refine va_get (D := D) (ci := 3) (v := .int (iI ((n : Nat) : Int))) (C := RX3) (T := TX3) (N := 2) hx hb hts hi_X3 hown hK hP 0 rfl rfl 1 (by decide) fl21 (fun _ h9 => h9) rfl dX3_sameFrom_11 ?_
      refine lv_iload_n hx hb dX3_sameFrom_14 rfl (lv_at hl 1 rfl) ?_
      refine lv_isub hx hb dX3_sameFrom_15 ?_
      refine kn_i (iB (c := (((n - i) : Nat) : Int)) (by omega)) ?_
      refine lv_aload_n hx hb dX3_sameFrom_16 rfl (lv_at hl 2 rfl) ?_
      refine va_get (D := D) (ci := 3) (v := .int (iI ((n2 : Nat) : Int))) (C := RX3) (T := TX3) (N := 2) hx hb hts hi_X3 hown hK hP 2 rfl rfl 1 (by decide) fl21 (fun _ h9 => h9) rfl dX3_sameFrom_17 ?_
      refine lv_iload_n hx hb dX3_sameFrom_20 rfl (lv_at hl 3 rfl) ?_
      refine lv_isub hx hb dX3_sameFrom_21 ?_
      refine kn_i (iB (c := (((n2 - j) : Nat) : Int)) (by omega)) ?_
      refine va_mmin hx hb (by rw [hml]; exact hl.1.symm) hown (hts _ (km wm221)) (hts _ (km wm222)) (hts _ (km wm40)) (hts _ (km wm223)) (Nat.le_of_ble_eq_true rfl) (Nat.le_of_ble_eq_true rfl) (Nat.zero_le _) (Nat.zero_le _) dX3_sameFrom_22 ?_
      refine kn_i (imin (c := ((min (n - i) (n2 - j) : Nat) : Int)) (by omega) (by omega)) ?_
      refine lv_istore (lv' := [(4, .int (iI ((min (n - i) (n2 - j) : Nat) : Int))), (0, .ref h), (1, .int (iI ((i : Nat) : Int))), (2, .ref h2), (3, .int (iI ((j : Nat) : Int)))]) hx hb dX3_sameFrom_25 hl (by decide) rfl (fun ls hl => ?_)
      refine lv_iconst (v := iI ((0 : Nat) : Int)) hx hb dX3_sameFrom_27 rfl ?_
      refine lv_istore (lv' := [(5, .int (iI ((0 : Nat) : Int))), (4, .int (iI ((min (n - i) (n2 - j) : Nat) : Int))), (0, .ref h), (1, .int (iI ((i : Nat) : Int))), (2, .ref h2), (3, .int (iI ((j : Nat) : Int)))]) hx hb dX3_sameFrom_28 hl (by decide) rfl (fun ls hl => ?_)
      have lp30 : ∀ (fu : Nat) (t : Nat) (H : Heap) (locs : List Loc) (ls : Array Slot), min (n - i) (n2 - j) - t < fu → (t ≤ min (n - i) (n2 - j)) → (lcp f g i j (min (n - i) (n2 - j)) = t + lcp f g (i + t) (j + t) (min (n - i) (n2 - j) - t)) → va_P D vwCl [(h, .inr (3, [.ref a, .int (iI ((n : Nat) : Int))])), (a, .inl (cI, M, .inl f)), (h2, .inr (3, [.ref a2, .int (iI ((n2 : Nat) : Int))])), (a2, .inl (cI, M2, .inl g))] H → va_D A [(h, .inr (3, [.ref a, .int (iI ((n : Nat) : Int))])), (a, .inl (cI, M, .inl f)), (h2, .inr (3, [.ref a2, .int (iI ((n2 : Nat) : Int))])), (a2, .inl (cI, M2, .inl g))] → va_S A s.heap H locs → lv_has ls 6 [(0, .ref h), (1, .int (iI ((i : Nat) : Int))), (2, .ref h2), (3, .int (iI ((j : Nat) : Int))), (4, .int (iI ((min (n - i) (n2 - j) : Nat) : Int))), (5, .int (iI ((t : Nat) : Int)))] → W p l e rm_c_Row_sameFrom s m args below meth c H locs 0 0 Q (F0 m 30 ls []) := by
        intro fu
        induction fu with
        | zero => intro t H locs ls hfu; exact absurd hfu (Nat.not_lt_zero _)
        | succ fu ih30 =>
          intro t H locs ls hfu ht hI hP hD hS hl
          refine lv_iload hx hb dX3_sameFrom_30 (lv_at hl 5 rfl) ?_
          refine lv_iload hx hb dX3_sameFrom_32 (lv_at hl 4 rfl) ?_
          refine lv_icmp_ge (tgt := 64) hx hb dX3_sameFrom_34 (by decide) (fun c34 => ?_) (fun c34 => ?_)
          · skip
            have c34 := iI_leT (a := ((min (n - i) (n2 - j) : Nat) : Int)) (b := ((t : Nat) : Int)) c34 (by omega)
            refine lv_iload hx hb dX3_sameFrom_64 (lv_at hl 5 rfl) ?_
            exact k_iret () hx hb hr hlocks hK hP hD hS [0, 1, 2, 3] (by decide) rfl rfl (by rw [hI]; first | rw [lcp_n c55] | rw [lcp_0 (by omega)]; rfl) hAe hQ dX3_sameFrom_66
          · skip
            have c34 := iI_leF (a := ((min (n - i) (n2 - j) : Nat) : Int)) (b := ((t : Nat) : Int)) c34 (by omega)
            refine lv_aload_n hx hb dX3_sameFrom_37 rfl (lv_at hl 0 rfl) ?_
            refine va_get (D := D) (ci := 3) (v := .ref a) (C := RX3) (T := TX3) (N := 2) hx hb hts hi_X3 hown hK hP 0 rfl rfl 0 (by decide) fl15 (fun _ h9 => h9) rfl dX3_sameFrom_38 ?_
            refine lv_iload_n hx hb dX3_sameFrom_41 rfl (lv_at hl 1 rfl) ?_
            refine lv_iload hx hb dX3_sameFrom_42 (lv_at hl 5 rfl) ?_
            refine lv_iadd hx hb dX3_sameFrom_44 ?_
            refine kn_i (iA (c := (((i + t) : Nat) : Int)) (by omega)) ?_
            refine k_iald hx hb hK hP 1 0 rfl rfl (i + t) (by omega) dX3_sameFrom_45 ?_
            refine lv_aload_n hx hb dX3_sameFrom_46 rfl (lv_at hl 2 rfl) ?_
            refine va_get (D := D) (ci := 3) (v := .ref a2) (C := RX3) (T := TX3) (N := 2) hx hb hts hi_X3 hown hK hP 2 rfl rfl 0 (by decide) fl15 (fun _ h9 => h9) rfl dX3_sameFrom_47 ?_
            refine lv_iload_n hx hb dX3_sameFrom_50 rfl (lv_at hl 3 rfl) ?_
            refine lv_iload hx hb dX3_sameFrom_51 (lv_at hl 5 rfl) ?_
            refine lv_iadd hx hb dX3_sameFrom_53 ?_
            refine kn_i (iA (c := (((j + t) : Nat) : Int)) (by omega)) ?_
            refine k_iald hx hb hK hP 3 0 rfl rfl (j + t) (by omega) dX3_sameFrom_54 ?_
            refine lv_icmp_ne (tgt := 64) hx hb dX3_sameFrom_55 (by decide) (fun c55 => ?_) (fun c55 => ?_)
            · skip
              refine lv_iload hx hb dX3_sameFrom_64 (lv_at hl 5 rfl) ?_
              exact k_iret () hx hb hr hlocks hK hP hD hS [0, 1, 2, 3] (by decide) rfl rfl (by rw [hI]; first | rw [lcp_n c55] | rw [lcp_0 (by omega)]; rfl) hAe hQ dX3_sameFrom_66
            · skip
              refine lv_iinc (v := iI ((t + 1 : Nat) : Int)) (lv' := [(5, .int (iI ((t + 1 : Nat) : Int))), (0, .ref h), (1, .int (iI ((i : Nat) : Int))), (2, .ref h2), (3, .int (iI ((j : Nat) : Int))), (4, .int (iI ((min (n - i) (n2 - j) : Nat) : Int)))]) hx hb dX3_sameFrom_58 hl (k := 5) rfl (iA (by omega)) (by decide) rfl (fun ls hl => ?_)
              refine lv_goto (tgt := 30) hx hb dX3_sameFrom_61 (by decide) ?_
              exact ih30 (t + 1) _ _ _ (by omega) (by omega) (by rw [hI, lcp_s (by omega) c55]; simp only [Nat.sub_sub, Nat.add_assoc]; omega) hP hD hS (lv_sub hl [1, 2, 3, 4, 5, 0] rfl)
      exact lp30 _ 0 _ _ _ (Nat.lt_succ_self _) (by omega) (by simp) hP hD hS (lv_sub hl [2, 3, 4, 5, 1, 0] rfl)
    · skip
      have c5 := iI_leF (a := (0 : Int)) (b := ((j : Nat) : Int)) c5 (by omega)
      omega

abbrev rm_c_Row_addVarint : Room := { frames := 1, cells := 0, slots := 0, locals := 21 }
set_option maxHeartbeats 4000000 in
set_option maxRecDepth 100000 in
theorem c_Row_addVarint (l : Launch) (D : va_G) (cI cZ : ClassId) (h : Nat) (a : Nat) (M : Nat) (n : Nat) (f : Nat → Int32) (v : Nat) (hM : M ≤ 900) (hn : n + 4 ≤ M) (hv : v < 268435456) : MV l yX3_addVarint wsX3_addVarint rm_c_Row_addVarint D (kT cI cZ) [.ref h, .int (iI ((v : Nat) : Int))] [(h, .inr (3, [.ref a, .int (iI ((n : Nat) : Int))])), (a, .inl (cI, M, .inl f))] (fun (_ : Unit) => True) (fun (u : Unit) => match u with | _ => [(h, .inr (3, [.ref a, .int (iI ((n + (vb 3 v).length : Nat) : Int))])), (a, .inl (cI, M, .inl (apL f n (vb 3 v))))]) 0 0 := by
  intro sz
  refine k_of (cc := cX3_addVarint) (maxL := 4) (ret := none) (by decide) rfl (Nat.le_of_ble_eq_true rfl) ?_
  intro p e s m args below meth c A Q hAe hQ hx hb hr hml hts hown hlocks hnm hP hK hD hS hA ls hl
  have hl : lv_has ls 4 [(0, .ref h), (1, .int (iI ((v : Nat) : Int)))] := hl
  refine lv_iload_n hx hb dX3_addVarint_0 rfl (lv_at hl 1 rfl) ?_
  refine lv_istore_n (lv' := [(2, .int (iI ((v : Nat) : Int))), (0, .ref h), (1, .int (iI ((v : Nat) : Int)))]) hx hb dX3_addVarint_1 rfl hl (by decide) rfl (fun ls hl => ?_)
  refine lv_iconst (v := iI ((1 : Nat) : Int)) hx hb dX3_addVarint_2 rfl ?_
  refine lv_istore_n (lv' := [(3, .int (iI ((1 : Nat) : Int))), (2, .int (iI ((v : Nat) : Int))), (0, .ref h), (1, .int (iI ((v : Nat) : Int)))]) hx hb dX3_addVarint_3 rfl hl (by decide) rfl (fun ls hl => ?_)
  have lp4 : ∀ (fu : Nat) (k : Nat) (w : Nat) (P : List Int32) (H : Heap) (locs : List Loc) (ls : Array Slot), 4 - k < fu → (1 ≤ k ∧ k ≤ 4) → (w < 268435456) → (vb 3 v = P ++ vb (4 - k) w) → (P.length + 1 = k) → va_P D vwCl [(h, .inr (3, [.ref a, .int (iI ((n + P.length : Nat) : Int))])), (a, .inl (cI, M, .inl (apL f n P)))] H → va_D A [(h, .inr (3, [.ref a, .int (iI ((n + P.length : Nat) : Int))])), (a, .inl (cI, M, .inl (apL f n P)))] → va_S A s.heap H locs → lv_has ls 4 [(0, .ref h), (2, .int (iI ((w : Nat) : Int))), (3, .int (iI ((k : Nat) : Int)))] → W p l e rm_c_Row_addVarint s m args below meth c H locs 0 0 Q (F0 m 4 ls []) := by
    intro fu
    induction fu with
    | zero => intro k w P H locs ls hfu; exact absurd hfu (Nat.not_lt_zero _)
    | succ fu ih4 =>
      intro k w P H locs ls hfu hk hw hPv hL hP hD hS hl
      refine lv_iload_n hx hb dX3_addVarint_4 rfl (lv_at hl 2 rfl) ?_
      refine lv_iconst (v := iI (4 : Int)) hx hb dX3_addVarint_5 rfl ?_
      refine lv_icmp_ge (tgt := 38) hx hb dX3_addVarint_6 (by decide) (fun c6 => ?_) (fun c6 => ?_)
      · skip
        have c6 := iI_leT (a := (4 : Int)) (b := ((k : Nat) : Int)) c6 (by omega)
        refine lv_aload_n hx hb dX3_addVarint_38 rfl (lv_at hl 0 rfl) ?_
        refine lv_iload_n hx hb dX3_addVarint_39 rfl (lv_at hl 1 rfl) ?_
        refine lv_bipush (v := iI (127 : Int)) hx hb dX3_addVarint_40 (by decide) ?_
        refine lv_iand hx hb dX3_addVarint_42 ?_
        refine kn_i (y := iI ((w % 128 : Nat) : Int)) (b_and127 (by omega)) ?_
        have hE : vb 3 v = P ++ [iI ((w % 128 : Nat) : Int)] := by rw [hPv, vb_stop (by omega)]
        refine k_callv (wc := [(h, .inr (3, [.ref a, .int (iI ((n + P.length : Nat) : Int))])), (a, .inl (cI, M, .inl (apL f n P)))]) (wr := []) (wf := fun _ => [(h, .inr (3, [.ref a, .int (iI (((n + P.length) + 1 : Nat) : Int))])), (a, .inl (cI, M, .inl (apL (apL f n P) (n + P.length) [(iI ((w % 128 : Nat) : Int))])))]) hK hP hD hS hA [0, 1] [] [0, 1] ⟨⟨rfl, rfl, by decide⟩, rfl, by decide, by decide⟩ (fun _ => ⟨rfl, rfl⟩) (by decide) (fun hPc hDc => va_runV (As := [.int (iI ((w % 128 : Nat) : Int))]) (rest := []) ⟨hx, hb, hml, hown, hts⟩ (c_Row_add l D cI cZ (h := h) (a := a) (M := M) (n := n + P.length) (f := (apL f n P)) (x := iI ((w % 128 : Nat) : Int)) (hM := by omega) (hn := by omega) _) (cwV 1 hts (kgV wm228 wm197 wm198 wm39 wmcX3_add) rfl rfl rfl (by decide +kernel) ⟨Nat.le_of_ble_eq_true rfl, Nat.le_of_ble_eq_true rfl⟩) (k_preV hK hPc hDc (ci := 3) (q0 := 0) rfl rfl) rfl rfl hl.1 rfl (lv_room (Nat.le_of_ble_eq_true rfl)) dX3_addVarint_43 ⟨Nat.le_of_ble_eq_true rfl, Nat.le_of_ble_eq_true rfl⟩) (fun u H locs hw hP hD hS => ?_)
        have hP : va_P D vwCl [(h, .inr (3, [.ref a, .int (iI (((n + P.length) + 1 : Nat) : Int))])), (a, .inl (cI, M, .inl (apL (apL f n P) (n + P.length) [(iI ((w % 128 : Nat) : Int))])))] H := hP
        have hD : va_D A [(h, .inr (3, [.ref a, .int (iI (((n + P.length) + 1 : Nat) : Int))])), (a, .inl (cI, M, .inl (apL (apL f n P) (n + P.length) [(iI ((w % 128 : Nat) : Int))])))] := hD
        refine W.widen (k := 0) (n := 0) (Nat.le_of_ble_eq_true rfl) (Nat.le_of_ble_eq_true rfl) ?_
        rw [show (apL (apL f n P) (n + P.length) [(iI ((w % 128 : Nat) : Int))]) = (apL f n (vb 3 v)) from (by rw [hE]; exact apL_at rfl _)] at hP hD
        rw [show iI (((n + P.length) + 1 : Nat) : Int) = iI ((n + (vb 3 v).length : Nat) : Int) from (by rw [hE, List.length_append]; rfl)] at hP hD
        exact k_vret () hx hb hr hlocks hK hP hD hS [0, 1] (by decide) rfl rfl (trivial) hAe hQ dX3_addVarint_46
      · skip
        have c6 := iI_leF (a := (4 : Int)) (b := ((k : Nat) : Int)) c6 (by omega)
        refine lv_iload_n hx hb dX3_addVarint_9 rfl (lv_at hl 1 rfl) ?_
        refine lv_bipush (v := iI (127 : Int)) hx hb dX3_addVarint_10 (by decide) ?_
        refine lv_icmp_le (tgt := 38) hx hb dX3_addVarint_12 (by decide) (fun c12 => ?_) (fun c12 => ?_)
        · skip
          have c12 := iI_leT (a := ((w : Nat) : Int)) (b := (127 : Int)) c12 (by omega)
          refine lv_aload_n hx hb dX3_addVarint_38 rfl (lv_at hl 0 rfl) ?_
          refine lv_iload_n hx hb dX3_addVarint_39 rfl (lv_at hl 1 rfl) ?_
          refine lv_bipush (v := iI (127 : Int)) hx hb dX3_addVarint_40 (by decide) ?_
          refine lv_iand hx hb dX3_addVarint_42 ?_
          refine kn_i (y := iI ((w % 128 : Nat) : Int)) (b_and127 (by omega)) ?_
          have hE : vb 3 v = P ++ [iI ((w % 128 : Nat) : Int)] := by rw [hPv, vb_stop (by omega)]
          refine k_callv (wc := [(h, .inr (3, [.ref a, .int (iI ((n + P.length : Nat) : Int))])), (a, .inl (cI, M, .inl (apL f n P)))]) (wr := []) (wf := fun _ => [(h, .inr (3, [.ref a, .int (iI (((n + P.length) + 1 : Nat) : Int))])), (a, .inl (cI, M, .inl (apL (apL f n P) (n + P.length) [(iI ((w % 128 : Nat) : Int))])))]) hK hP hD hS hA [0, 1] [] [0, 1] ⟨⟨rfl, rfl, by decide⟩, rfl, by decide, by decide⟩ (fun _ => ⟨rfl, rfl⟩) (by decide) (fun hPc hDc => va_runV (As := [.int (iI ((w % 128 : Nat) : Int))]) (rest := []) ⟨hx, hb, hml, hown, hts⟩ (c_Row_add l D cI cZ (h := h) (a := a) (M := M) (n := n + P.length) (f := (apL f n P)) (x := iI ((w % 128 : Nat) : Int)) (hM := by omega) (hn := by omega) _) (cwV 1 hts (kgV wm228 wm197 wm198 wm39 wmcX3_add) rfl rfl rfl (by decide +kernel) ⟨Nat.le_of_ble_eq_true rfl, Nat.le_of_ble_eq_true rfl⟩) (k_preV hK hPc hDc (ci := 3) (q0 := 0) rfl rfl) rfl rfl hl.1 rfl (lv_room (Nat.le_of_ble_eq_true rfl)) dX3_addVarint_43 ⟨Nat.le_of_ble_eq_true rfl, Nat.le_of_ble_eq_true rfl⟩) (fun u H locs hw hP hD hS => ?_)
          have hP : va_P D vwCl [(h, .inr (3, [.ref a, .int (iI (((n + P.length) + 1 : Nat) : Int))])), (a, .inl (cI, M, .inl (apL (apL f n P) (n + P.length) [(iI ((w % 128 : Nat) : Int))])))] H := hP
          have hD : va_D A [(h, .inr (3, [.ref a, .int (iI (((n + P.length) + 1 : Nat) : Int))])), (a, .inl (cI, M, .inl (apL (apL f n P) (n + P.length) [(iI ((w % 128 : Nat) : Int))])))] := hD
          refine W.widen (k := 0) (n := 0) (Nat.le_of_ble_eq_true rfl) (Nat.le_of_ble_eq_true rfl) ?_
          rw [show (apL (apL f n P) (n + P.length) [(iI ((w % 128 : Nat) : Int))]) = (apL f n (vb 3 v)) from (by rw [hE]; exact apL_at rfl _)] at hP hD
          rw [show iI (((n + P.length) + 1 : Nat) : Int) = iI ((n + (vb 3 v).length : Nat) : Int) from (by rw [hE, List.length_append]; rfl)] at hP hD
          exact k_vret () hx hb hr hlocks hK hP hD hS [0, 1] (by decide) rfl rfl (trivial) hAe hQ dX3_addVarint_46
        · skip
          have c12 := iI_leF (a := ((w : Nat) : Int)) (b := (127 : Int)) c12 (by omega)
          refine lv_aload_n hx hb dX3_addVarint_15 rfl (lv_at hl 0 rfl) ?_
          refine lv_iload_n hx hb dX3_addVarint_16 rfl (lv_at hl 1 rfl) ?_
          refine lv_bipush (v := iI (127 : Int)) hx hb dX3_addVarint_17 (by decide) ?_
          refine lv_iand hx hb dX3_addVarint_19 ?_
          refine kn_i (y := iI ((w % 128 : Nat) : Int)) (b_and127 (by omega)) ?_
          refine lv_sipush (v := iI (128 : Int)) hx hb dX3_addVarint_20 (by decide) ?_
          refine lv_ior hx hb dX3_addVarint_23 ?_
          refine kn_i (y := iI ((w % 128 + 128 : Nat) : Int)) (b_or128 _ (Nat.mod_lt _ (by decide))) ?_
          refine k_callv (wc := [(h, .inr (3, [.ref a, .int (iI ((n + P.length : Nat) : Int))])), (a, .inl (cI, M, .inl (apL f n P)))]) (wr := []) (wf := fun _ => [(h, .inr (3, [.ref a, .int (iI (((n + P.length) + 1 : Nat) : Int))])), (a, .inl (cI, M, .inl (apL (apL f n P) (n + P.length) [(iI ((w % 128 + 128 : Nat) : Int))])))]) hK hP hD hS hA [0, 1] [] [0, 1] ⟨⟨rfl, rfl, by decide⟩, rfl, by decide, by decide⟩ (fun _ => ⟨rfl, rfl⟩) (by decide) (fun hPc hDc => va_runV (As := [.int (iI ((w % 128 + 128 : Nat) : Int))]) (rest := []) ⟨hx, hb, hml, hown, hts⟩ (c_Row_add l D cI cZ (h := h) (a := a) (M := M) (n := n + P.length) (f := (apL f n P)) (x := iI ((w % 128 + 128 : Nat) : Int)) (hM := by omega) (hn := by omega) _) (cwV 1 hts (kgV wm228 wm197 wm198 wm39 wmcX3_add) rfl rfl rfl (by decide +kernel) ⟨Nat.le_of_ble_eq_true rfl, Nat.le_of_ble_eq_true rfl⟩) (k_preV hK hPc hDc (ci := 3) (q0 := 0) rfl rfl) rfl rfl hl.1 rfl (lv_room (Nat.le_of_ble_eq_true rfl)) dX3_addVarint_24 ⟨Nat.le_of_ble_eq_true rfl, Nat.le_of_ble_eq_true rfl⟩) (fun u H locs hw hP hD hS => ?_)
          have hP : va_P D vwCl [(h, .inr (3, [.ref a, .int (iI (((n + P.length) + 1 : Nat) : Int))])), (a, .inl (cI, M, .inl (apL (apL f n P) (n + P.length) [(iI ((w % 128 + 128 : Nat) : Int))])))] H := hP
          have hD : va_D A [(h, .inr (3, [.ref a, .int (iI (((n + P.length) + 1 : Nat) : Int))])), (a, .inl (cI, M, .inl (apL (apL f n P) (n + P.length) [(iI ((w % 128 + 128 : Nat) : Int))])))] := hD
          refine W.widen (k := 0) (n := 0) (Nat.le_of_ble_eq_true rfl) (Nat.le_of_ble_eq_true rfl) ?_
          rw [show (apL (apL f n P) (n + P.length) [(iI ((w % 128 + 128 : Nat) : Int))]) = (apL f n (P ++ [iI ((w % 128 + 128 : Nat) : Int)])) from apL_at rfl _] at hP hD
          rw [show iI (((n + P.length) + 1 : Nat) : Int) = iI ((n + (P ++ [iI ((w % 128 + 128 : Nat) : Int)]).length : Nat) : Int) from by rw [List.length_append]; rfl] at hP hD
          refine lv_iload_n hx hb dX3_addVarint_27 rfl (lv_at hl 1 rfl) ?_
          refine lv_bipush (v := iI (7 : Int)) hx hb dX3_addVarint_28 (by decide) ?_
          refine lv_iushr hx hb dX3_addVarint_30 rfl ?_
          refine kn_i (y := iI ((w / 128 : Nat) : Int)) (b_ushr7 (by omega)) ?_
          refine lv_istore_n (lv' := [(2, .int (iI ((w / 128 : Nat) : Int))), (0, .ref h), (3, .int (iI ((k : Nat) : Int)))]) hx hb dX3_addVarint_31 rfl hl (by decide) rfl (fun ls hl => ?_)
          refine lv_iinc (v := iI ((k + 1 : Nat) : Int)) (lv' := [(3, .int (iI ((k + 1 : Nat) : Int))), (2, .int (iI ((w / 128 : Nat) : Int))), (0, .ref h)]) hx hb dX3_addVarint_32 hl (k := 2) rfl (iA (by omega)) (by decide) rfl (fun ls hl => ?_)
          refine lv_goto (tgt := 4) hx hb dX3_addVarint_35 (by decide) ?_
          exact ih4 (k + 1) (w / 128) (P ++ [iI ((w % 128 + 128 : Nat) : Int)]) _ _ _ (by omega) (by omega) (by omega) (by rw [hPv, vb_step (by omega) (by omega), List.append_assoc]; rfl) (by rw [List.length_append]; show P.length + 1 + 1 = k + 1; omega) hP hD hS (lv_sub hl [2, 1, 0] rfl)
  rw [show f = (apL f n []) from (apL_nil f n).symm] at hP hD
  exact lp4 _ 1 v ([]) _ _ _ (Nat.lt_succ_self _) (by omega) (by omega) (by rfl) (by rfl) hP hD hS (lv_sub hl [2, 1, 0] rfl)

abbrev rm_c_Row_addWord : Room := { frames := 1, cells := 0, slots := 0, locals := 21 }
set_option maxHeartbeats 4000000 in
set_option maxRecDepth 100000 in
theorem c_Row_addWord (l : Launch) (D : va_G) (cI cZ : ClassId) (h : Nat) (a : Nat) (M : Nat) (n : Nat) (f : Nat → Int32) (w : Int32) (hM : M ≤ 900) (hn : n + 4 ≤ M) : MV l yX3_addWord wsX3_addWord rm_c_Row_addWord D (kT cI cZ) [.ref h, .int w] [(h, .inr (3, [.ref a, .int (iI ((n : Nat) : Int))])), (a, .inl (cI, M, .inl f))] (fun (_ : Unit) => True) (fun (u : Unit) => match u with | _ => [(h, .inr (3, [.ref a, .int (iI ((n + 4 : Nat) : Int))])), (a, .inl (cI, M, .inl (apL f n (wL w))))]) 0 0 := by
  intro sz
  refine k_of (cc := cX3_addWord) (maxL := 3) (ret := none) (by decide) rfl (Nat.le_of_ble_eq_true rfl) ?_
  intro p e s m args below meth c A Q hAe hQ hx hb hr hml hts hown hlocks hnm hP hK hD hS hA ls hl
  have hl : lv_has ls 3 [(0, .ref h), (1, .int w)] := hl
  refine lv_iconst (v := iI (3 : Int)) hx hb dX3_addWord_0 rfl ?_
  refine lv_istore_n (lv' := [(2, .int (iI (3 : Int))), (0, .ref h), (1, .int w)]) hx hb dX3_addWord_1 rfl hl (by decide) rfl (fun ls hl => ?_)
  refine lv_iload_n hx hb dX3_addWord_2 rfl (lv_at hl 0 rfl) ?_
  refine lv_if_lt (tgt := 26) hx hb dX3_addWord_3 (by decide) (fun c3 => ?_) (fun c3 => ?_)
  · skip
    have c3 := iI_ltT (a := (3 : Int)) (b := (0 : Int)) c3 (by omega)
    omega
  · skip
    have c3 := iI_ltF (a := (3 : Int)) (b := (0 : Int)) c3 (by omega)
    refine lv_aload_n hx hb dX3_addWord_6 rfl (lv_at hl 1 rfl) ?_
    refine lv_iload_n hx hb dX3_addWord_7 rfl (lv_at hl 2 rfl) ?_
    refine lv_bipush (v := iI (8 : Int)) hx hb dX3_addWord_8 (by decide) ?_
    refine lv_iload_n hx hb dX3_addWord_10 rfl (lv_at hl 0 rfl) ?_
    refine lv_imul hx hb dX3_addWord_11 ?_
    refine kn_i (iM (c := (24 : Int)) (by omega)) ?_
    refine lv_iushr hx hb dX3_addWord_12 rfl ?_
    refine lv_sipush (v := iI (255 : Int)) hx hb dX3_addWord_13 (by decide) ?_
    refine lv_iand hx hb dX3_addWord_16 ?_
    refine kn_i (y := (wB w 24)) (rfl) ?_
    refine k_callv (wc := [(h, .inr (3, [.ref a, .int (iI ((n : Nat) : Int))])), (a, .inl (cI, M, .inl f))]) (wr := []) (wf := fun _ => [(h, .inr (3, [.ref a, .int (iI ((n + 1 : Nat) : Int))])), (a, .inl (cI, M, .inl (apL f n [(wB w 24)])))]) hK hP hD hS hA [0, 1] [] [0, 1] ⟨⟨rfl, rfl, by decide⟩, rfl, by decide, by decide⟩ (fun _ => ⟨rfl, rfl⟩) (by decide) (fun hPc hDc => va_runV (As := [.int (wB w 24)]) (rest := []) ⟨hx, hb, hml, hown, hts⟩ (c_Row_add l D cI cZ (h := h) (a := a) (M := M) (n := n) (f := f) (x := (wB w 24)) (hM := by omega) (hn := by omega) _) (cwV 1 hts (kgV wm228 wm197 wm198 wm39 wmcX3_add) rfl rfl rfl (by decide +kernel) ⟨Nat.le_of_ble_eq_true rfl, Nat.le_of_ble_eq_true rfl⟩) (k_preV hK hPc hDc (ci := 3) (q0 := 0) rfl rfl) rfl rfl hl.1 rfl (lv_room (Nat.le_of_ble_eq_true rfl)) dX3_addWord_17 ⟨Nat.le_of_ble_eq_true rfl, Nat.le_of_ble_eq_true rfl⟩) (fun u H locs hw hP hD hS => ?_)
    have hP : va_P D vwCl [(h, .inr (3, [.ref a, .int (iI ((n + 1 : Nat) : Int))])), (a, .inl (cI, M, .inl (apL f n [(wB w 24)])))] H := hP
    have hD : va_D A [(h, .inr (3, [.ref a, .int (iI ((n + 1 : Nat) : Int))])), (a, .inl (cI, M, .inl (apL f n [(wB w 24)])))] := hD
    refine W.widen (k := 0) (n := 0) (Nat.le_of_ble_eq_true rfl) (Nat.le_of_ble_eq_true rfl) ?_
    refine lv_iinc (v := iI (2 : Int)) (lv' := [(2, .int (iI (2 : Int))), (0, .ref h), (1, .int w)]) hx hb dX3_addWord_20 hl (k := 0) rfl (iA (by omega)) (by decide) rfl (fun ls hl => ?_)
    refine lv_goto (tgt := 2) hx hb dX3_addWord_23 (by decide) ?_
    refine lv_iload_n hx hb dX3_addWord_2 rfl (lv_at hl 0 rfl) ?_
    refine lv_if_lt (tgt := 26) hx hb dX3_addWord_3 (by decide) (fun c3 => ?_) (fun c3 => ?_)
    · skip
      have c3 := iI_ltT (a := (2 : Int)) (b := (0 : Int)) c3 (by omega)
      omega
    · skip
      have c3 := iI_ltF (a := (2 : Int)) (b := (0 : Int)) c3 (by omega)
      refine lv_aload_n hx hb dX3_addWord_6 rfl (lv_at hl 1 rfl) ?_
      refine lv_iload_n hx hb dX3_addWord_7 rfl (lv_at hl 2 rfl) ?_
      refine lv_bipush (v := iI (8 : Int)) hx hb dX3_addWord_8 (by decide) ?_
      refine lv_iload_n hx hb dX3_addWord_10 rfl (lv_at hl 0 rfl) ?_
      refine lv_imul hx hb dX3_addWord_11 ?_
      refine kn_i (iM (c := (16 : Int)) (by omega)) ?_
      refine lv_iushr hx hb dX3_addWord_12 rfl ?_
      refine lv_sipush (v := iI (255 : Int)) hx hb dX3_addWord_13 (by decide) ?_
      refine lv_iand hx hb dX3_addWord_16 ?_
      refine kn_i (y := (wB w 16)) (rfl) ?_
      refine k_callv (wc := [(h, .inr (3, [.ref a, .int (iI ((n + 1 : Nat) : Int))])), (a, .inl (cI, M, .inl (apL f n [(wB w 24)])))]) (wr := []) (wf := fun _ => [(h, .inr (3, [.ref a, .int (iI (((n + 1) + 1 : Nat) : Int))])), (a, .inl (cI, M, .inl (apL (apL f n [(wB w 24)]) (n + 1) [(wB w 16)])))]) hK hP hD hS hA [0, 1] [] [0, 1] ⟨⟨rfl, rfl, by decide⟩, rfl, by decide, by decide⟩ (fun _ => ⟨rfl, rfl⟩) (by decide) (fun hPc hDc => va_runV (As := [.int (wB w 16)]) (rest := []) ⟨hx, hb, hml, hown, hts⟩ (c_Row_add l D cI cZ (h := h) (a := a) (M := M) (n := n + 1) (f := (apL f n [(wB w 24)])) (x := (wB w 16)) (hM := by omega) (hn := by omega) _) (cwV 1 hts (kgV wm228 wm197 wm198 wm39 wmcX3_add) rfl rfl rfl (by decide +kernel) ⟨Nat.le_of_ble_eq_true rfl, Nat.le_of_ble_eq_true rfl⟩) (k_preV hK hPc hDc (ci := 3) (q0 := 0) rfl rfl) rfl rfl hl.1 rfl (lv_room (Nat.le_of_ble_eq_true rfl)) dX3_addWord_17 ⟨Nat.le_of_ble_eq_true rfl, Nat.le_of_ble_eq_true rfl⟩) (fun u H locs hw hP hD hS => ?_)
      have hP : va_P D vwCl [(h, .inr (3, [.ref a, .int (iI (((n + 1) + 1 : Nat) : Int))])), (a, .inl (cI, M, .inl (apL (apL f n [(wB w 24)]) (n + 1) [(wB w 16)])))] H := hP
      have hD : va_D A [(h, .inr (3, [.ref a, .int (iI (((n + 1) + 1 : Nat) : Int))])), (a, .inl (cI, M, .inl (apL (apL f n [(wB w 24)]) (n + 1) [(wB w 16)])))] := hD
      refine W.widen (k := 0) (n := 0) (Nat.le_of_ble_eq_true rfl) (Nat.le_of_ble_eq_true rfl) ?_
      rw [show (apL (apL f n [(wB w 24)]) (n + 1) [(wB w 16)]) = (apL f n [wB w 24, wB w 16]) from apL_at rfl _] at hP hD
      refine lv_iinc (v := iI (1 : Int)) (lv' := [(2, .int (iI (1 : Int))), (0, .ref h), (1, .int w)]) hx hb dX3_addWord_20 hl (k := 0) rfl (iA (by omega)) (by decide) rfl (fun ls hl => ?_)
      refine lv_goto (tgt := 2) hx hb dX3_addWord_23 (by decide) ?_
      refine lv_iload_n hx hb dX3_addWord_2 rfl (lv_at hl 0 rfl) ?_
      refine lv_if_lt (tgt := 26) hx hb dX3_addWord_3 (by decide) (fun c3 => ?_) (fun c3 => ?_)
      · skip
        have c3 := iI_ltT (a := (1 : Int)) (b := (0 : Int)) c3 (by omega)
        omega
      · skip
        have c3 := iI_ltF (a := (1 : Int)) (b := (0 : Int)) c3 (by omega)
        refine lv_aload_n hx hb dX3_addWord_6 rfl (lv_at hl 1 rfl) ?_
        refine lv_iload_n hx hb dX3_addWord_7 rfl (lv_at hl 2 rfl) ?_
        refine lv_bipush (v := iI (8 : Int)) hx hb dX3_addWord_8 (by decide) ?_
        refine lv_iload_n hx hb dX3_addWord_10 rfl (lv_at hl 0 rfl) ?_
        refine lv_imul hx hb dX3_addWord_11 ?_
        refine kn_i (iM (c := (8 : Int)) (by omega)) ?_
        refine lv_iushr hx hb dX3_addWord_12 rfl ?_
        refine lv_sipush (v := iI (255 : Int)) hx hb dX3_addWord_13 (by decide) ?_
        refine lv_iand hx hb dX3_addWord_16 ?_
        refine kn_i (y := (wB w 8)) (rfl) ?_
        refine k_callv (wc := [(h, .inr (3, [.ref a, .int (iI (((n + 1) + 1 : Nat) : Int))])), (a, .inl (cI, M, .inl (apL f n [wB w 24, wB w 16])))]) (wr := []) (wf := fun _ => [(h, .inr (3, [.ref a, .int (iI ((((n + 1) + 1) + 1 : Nat) : Int))])), (a, .inl (cI, M, .inl (apL (apL f n [wB w 24, wB w 16]) ((n + 1) + 1) [(wB w 8)])))]) hK hP hD hS hA [0, 1] [] [0, 1] ⟨⟨rfl, rfl, by decide⟩, rfl, by decide, by decide⟩ (fun _ => ⟨rfl, rfl⟩) (by decide) (fun hPc hDc => va_runV (As := [.int (wB w 8)]) (rest := []) ⟨hx, hb, hml, hown, hts⟩ (c_Row_add l D cI cZ (h := h) (a := a) (M := M) (n := (n + 1) + 1) (f := (apL f n [wB w 24, wB w 16])) (x := (wB w 8)) (hM := by omega) (hn := by omega) _) (cwV 1 hts (kgV wm228 wm197 wm198 wm39 wmcX3_add) rfl rfl rfl (by decide +kernel) ⟨Nat.le_of_ble_eq_true rfl, Nat.le_of_ble_eq_true rfl⟩) (k_preV hK hPc hDc (ci := 3) (q0 := 0) rfl rfl) rfl rfl hl.1 rfl (lv_room (Nat.le_of_ble_eq_true rfl)) dX3_addWord_17 ⟨Nat.le_of_ble_eq_true rfl, Nat.le_of_ble_eq_true rfl⟩) (fun u H locs hw hP hD hS => ?_)
        have hP : va_P D vwCl [(h, .inr (3, [.ref a, .int (iI ((((n + 1) + 1) + 1 : Nat) : Int))])), (a, .inl (cI, M, .inl (apL (apL f n [wB w 24, wB w 16]) ((n + 1) + 1) [(wB w 8)])))] H := hP
        have hD : va_D A [(h, .inr (3, [.ref a, .int (iI ((((n + 1) + 1) + 1 : Nat) : Int))])), (a, .inl (cI, M, .inl (apL (apL f n [wB w 24, wB w 16]) ((n + 1) + 1) [(wB w 8)])))] := hD
        refine W.widen (k := 0) (n := 0) (Nat.le_of_ble_eq_true rfl) (Nat.le_of_ble_eq_true rfl) ?_
        rw [show (apL (apL f n [wB w 24, wB w 16]) ((n + 1) + 1) [(wB w 8)]) = (apL f n [wB w 24, wB w 16, wB w 8]) from apL_at rfl _] at hP hD
        refine lv_iinc (v := iI (0 : Int)) (lv' := [(2, .int (iI (0 : Int))), (0, .ref h), (1, .int w)]) hx hb dX3_addWord_20 hl (k := 0) rfl (iA (by omega)) (by decide) rfl (fun ls hl => ?_)
        refine lv_goto (tgt := 2) hx hb dX3_addWord_23 (by decide) ?_
        refine lv_iload_n hx hb dX3_addWord_2 rfl (lv_at hl 0 rfl) ?_
        refine lv_if_lt (tgt := 26) hx hb dX3_addWord_3 (by decide) (fun c3 => ?_) (fun c3 => ?_)
        · skip
          have c3 := iI_ltT (a := (0 : Int)) (b := (0 : Int)) c3 (by omega)
          omega
        · skip
          have c3 := iI_ltF (a := (0 : Int)) (b := (0 : Int)) c3 (by omega)
          refine lv_aload_n hx hb dX3_addWord_6 rfl (lv_at hl 1 rfl) ?_
          refine lv_iload_n hx hb dX3_addWord_7 rfl (lv_at hl 2 rfl) ?_
          refine lv_bipush (v := iI (8 : Int)) hx hb dX3_addWord_8 (by decide) ?_
          refine lv_iload_n hx hb dX3_addWord_10 rfl (lv_at hl 0 rfl) ?_
          refine lv_imul hx hb dX3_addWord_11 ?_
          refine kn_i (iM (c := (0 : Int)) (by omega)) ?_
          refine lv_iushr hx hb dX3_addWord_12 rfl ?_
          refine lv_sipush (v := iI (255 : Int)) hx hb dX3_addWord_13 (by decide) ?_
          refine lv_iand hx hb dX3_addWord_16 ?_
          refine kn_i (y := (wB w 0)) (rfl) ?_
          refine k_callv (wc := [(h, .inr (3, [.ref a, .int (iI ((((n + 1) + 1) + 1 : Nat) : Int))])), (a, .inl (cI, M, .inl (apL f n [wB w 24, wB w 16, wB w 8])))]) (wr := []) (wf := fun _ => [(h, .inr (3, [.ref a, .int (iI (((((n + 1) + 1) + 1) + 1 : Nat) : Int))])), (a, .inl (cI, M, .inl (apL (apL f n [wB w 24, wB w 16, wB w 8]) (((n + 1) + 1) + 1) [(wB w 0)])))]) hK hP hD hS hA [0, 1] [] [0, 1] ⟨⟨rfl, rfl, by decide⟩, rfl, by decide, by decide⟩ (fun _ => ⟨rfl, rfl⟩) (by decide) (fun hPc hDc => va_runV (As := [.int (wB w 0)]) (rest := []) ⟨hx, hb, hml, hown, hts⟩ (c_Row_add l D cI cZ (h := h) (a := a) (M := M) (n := ((n + 1) + 1) + 1) (f := (apL f n [wB w 24, wB w 16, wB w 8])) (x := (wB w 0)) (hM := by omega) (hn := by omega) _) (cwV 1 hts (kgV wm228 wm197 wm198 wm39 wmcX3_add) rfl rfl rfl (by decide +kernel) ⟨Nat.le_of_ble_eq_true rfl, Nat.le_of_ble_eq_true rfl⟩) (k_preV hK hPc hDc (ci := 3) (q0 := 0) rfl rfl) rfl rfl hl.1 rfl (lv_room (Nat.le_of_ble_eq_true rfl)) dX3_addWord_17 ⟨Nat.le_of_ble_eq_true rfl, Nat.le_of_ble_eq_true rfl⟩) (fun u H locs hw hP hD hS => ?_)
          have hP : va_P D vwCl [(h, .inr (3, [.ref a, .int (iI (((((n + 1) + 1) + 1) + 1 : Nat) : Int))])), (a, .inl (cI, M, .inl (apL (apL f n [wB w 24, wB w 16, wB w 8]) (((n + 1) + 1) + 1) [(wB w 0)])))] H := hP
          have hD : va_D A [(h, .inr (3, [.ref a, .int (iI (((((n + 1) + 1) + 1) + 1 : Nat) : Int))])), (a, .inl (cI, M, .inl (apL (apL f n [wB w 24, wB w 16, wB w 8]) (((n + 1) + 1) + 1) [(wB w 0)])))] := hD
          refine W.widen (k := 0) (n := 0) (Nat.le_of_ble_eq_true rfl) (Nat.le_of_ble_eq_true rfl) ?_
          rw [show (apL (apL f n [wB w 24, wB w 16, wB w 8]) (((n + 1) + 1) + 1) [(wB w 0)]) = (apL f n [wB w 24, wB w 16, wB w 8, wB w 0]) from apL_at rfl _] at hP hD
          refine lv_iinc (v := iI (-1 : Int)) (lv' := [(2, .int (iI (-1 : Int))), (0, .ref h), (1, .int w)]) hx hb dX3_addWord_20 hl (k := 0) rfl (iA (by omega)) (by decide) rfl (fun ls hl => ?_)
          refine lv_goto (tgt := 2) hx hb dX3_addWord_23 (by decide) ?_
          refine lv_iload_n hx hb dX3_addWord_2 rfl (lv_at hl 0 rfl) ?_
          refine lv_if_lt (tgt := 26) hx hb dX3_addWord_3 (by decide) (fun c3 => ?_) (fun c3 => ?_)
          · skip
            have c3 := iI_ltT (a := (-1 : Int)) (b := (0 : Int)) c3 (by omega)
            exact k_vret () hx hb hr hlocks hK hP hD hS [0, 1] (by decide) rfl rfl (trivial) hAe hQ dX3_addWord_26
          · skip
            have c3 := iI_ltF (a := (-1 : Int)) (b := (0 : Int)) c3 (by omega)
            omega

abbrev rm_c_Row_digest : Room := { frames := 0, cells := 0, slots := 0, locals := 0 }
set_option maxHeartbeats 4000000 in
set_option maxRecDepth 100000 in
theorem c_Row_digest (l : Launch) (D : va_G) (cI cZ : ClassId) (h : Nat) (a : Nat) (M : Nat) (n : Nat) (f : Nat → Int32) (hM : M ≤ 900) (hn : n ≤ M) : MI l yX3_digest wsX3_digest rm_c_Row_digest D (kT cI cZ) [.ref h] [(h, .inr (3, [.ref a, .int (iI ((n : Nat) : Int))])), (a, .inl (cI, M, .inl f))] (fun (r : Int32) (_ : Unit) => r = (dg f n)) (fun (u : Unit) => match u with | _ => [(h, .inr (3, [.ref a, .int (iI ((n : Nat) : Int))])), (a, .inl (cI, M, .inl f))]) 0 0 := by
  intro sz
  refine k_of (cc := cX3_digest) (maxL := 4) (ret := (some .int)) (by decide) rfl (Nat.le_of_ble_eq_true rfl) ?_
  intro p e s m args below meth c A Q hAe hQ hx hb hr hml hts hown hlocks hnm hP hK hD hS hA ls hl
  have hl : lv_has ls 4 [(0, .ref h)] := hl
  have hi_X3 : ∀ w ∈ u_ws RX3 TX3 2, w ∈ wsX3_digest := fun w h => km (ikX3 w h)
  have fl21 := hts _ (km wm63)
  have fl15 := hts _ (km wm62)
  refine lv_iconst (v := iI (0 : Int)) hx hb dX3_digest_0 rfl ?_
  refine lv_istore_n (lv' := [(1, .int (iI (0 : Int))), (0, .ref h)]) hx hb dX3_digest_1 rfl hl (by decide) rfl (fun ls hl => ?_)
  refine lv_iconst (v := iI ((0 : Nat) : Int)) hx hb dX3_digest_2 rfl ?_
  refine lv_istore_n (lv' := [(2, .int (iI ((0 : Nat) : Int))), (1, .int (iI (0 : Int))), (0, .ref h)]) hx hb dX3_digest_3 rfl hl (by decide) rfl (fun ls hl => ?_)
  have lp4 : ∀ (fu : Nat) (k : Nat) (H : Heap) (locs : List Loc) (ls : Array Slot), n - k < fu → (k ≤ n) → va_P D vwCl [(h, .inr (3, [.ref a, .int (iI ((n : Nat) : Int))])), (a, .inl (cI, M, .inl f))] H → va_D A [(h, .inr (3, [.ref a, .int (iI ((n : Nat) : Int))])), (a, .inl (cI, M, .inl f))] → va_S A s.heap H locs → lv_has ls 4 [(0, .ref h), (1, .int (dg f k)), (2, .int (iI ((k : Nat) : Int)))] → W p l e rm_c_Row_digest s m args below meth c H locs 0 0 Q (F0 m 4 ls []) := by
    intro fu
    induction fu with
    | zero => intro k H locs ls hfu; exact absurd hfu (Nat.not_lt_zero _)
    | succ fu ih4 =>
      intro k H locs ls hfu hk hP hD hS hl
      refine lv_iload_n hx hb dX3_digest_4 rfl (lv_at hl 2 rfl) ?_
      refine lv_aload_n hx hb dX3_digest_5 rfl (lv_at hl 0 rfl) ?_
      refine va_get (D := D) (ci := 3) (v := .int (iI ((n : Nat) : Int))) (C := RX3) (T := TX3) (N := 2) hx hb hts hi_X3 hown hK hP 0 rfl rfl 1 (by decide) fl21 (fun _ h9 => h9) rfl dX3_digest_6 ?_
      refine lv_icmp_ge (tgt := 48) hx hb dX3_digest_9 (by decide) (fun c9 => ?_) (fun c9 => ?_)
      · skip
        have c9 := iI_leT (a := ((n : Nat) : Int)) (b := ((k : Nat) : Int)) c9 (by omega)
        refine lv_iload_n hx hb dX3_digest_48 rfl (lv_at hl 1 rfl) ?_
        exact k_iret () hx hb hr hlocks hK hP hD hS [0, 1] (by decide) rfl rfl ((by rw [show k = n by omega])) hAe hQ dX3_digest_49
      · skip
        have c9 := iI_leF (a := ((n : Nat) : Int)) (b := ((k : Nat) : Int)) c9 (by omega)
        refine lv_iload_n hx hb dX3_digest_12 rfl (lv_at hl 2 rfl) ?_
        refine lv_aload_n hx hb dX3_digest_13 rfl (lv_at hl 0 rfl) ?_
        refine va_get (D := D) (ci := 3) (v := .ref a) (C := RX3) (T := TX3) (N := 2) hx hb hts hi_X3 hown hK hP 0 rfl rfl 0 (by decide) fl15 (fun _ h9 => h9) rfl dX3_digest_14 ?_
        refine k_alen hx hb hK hP 1 0 rfl rfl dX3_digest_17 ?_
        refine lv_icmp_ge (tgt := 48) hx hb dX3_digest_18 (by decide) (fun c18 => ?_) (fun c18 => ?_)
        · skip
          have c18 := iI_leT (a := ((M : Nat) : Int)) (b := ((k : Nat) : Int)) c18 (by omega)
          omega
        · skip
          have c18 := iI_leF (a := ((M : Nat) : Int)) (b := ((k : Nat) : Int)) c18 (by omega)
          refine lv_iload_n hx hb dX3_digest_21 rfl (lv_at hl 1 rfl) ?_
          refine lv_aload_n hx hb dX3_digest_22 rfl (lv_at hl 0 rfl) ?_
          refine va_get (D := D) (ci := 3) (v := .ref a) (C := RX3) (T := TX3) (N := 2) hx hb hts hi_X3 hown hK hP 0 rfl rfl 0 (by decide) fl15 (fun _ h9 => h9) rfl dX3_digest_23 ?_
          refine lv_iload_n hx hb dX3_digest_26 rfl (lv_at hl 2 rfl) ?_
          refine k_iald hx hb hK hP 1 0 rfl rfl k (by omega) dX3_digest_27 ?_
          refine lv_ixor hx hb dX3_digest_28 ?_
          refine lv_istore_n (lv' := [(3, .int (((dg f k)) ^^^ ((f k)))), (0, .ref h), (1, .int (dg f k)), (2, .int (iI ((k : Nat) : Int)))]) hx hb dX3_digest_29 rfl hl (by decide) rfl (fun ls hl => ?_)
          refine lv_iload_n hx hb dX3_digest_30 rfl (lv_at hl 0 rfl) ?_
          refine lv_iconst (v := iI (5 : Int)) hx hb dX3_digest_31 rfl ?_
          refine lv_ishl hx hb dX3_digest_32 ?_
          refine lv_iload_n hx hb dX3_digest_33 rfl (lv_at hl 0 rfl) ?_
          refine lv_bipush (v := iI (27 : Int)) hx hb dX3_digest_34 (by decide) ?_
          refine lv_iushr hx hb dX3_digest_36 rfl ?_
          refine lv_ior hx hb dX3_digest_37 ?_
          refine lv_ldc (v := (-2048144777)) hx hb hown (hts _ (km wm289)) dX3_digest_38 ?_
          refine lv_imul hx hb dX3_digest_40 ?_
          refine kn_i (y := (dg f (k + 1))) (rfl) ?_
          refine lv_istore_n (lv' := [(1, .int (dg f (k + 1))), (3, .int (((dg f k)) ^^^ ((f k)))), (0, .ref h), (2, .int (iI ((k : Nat) : Int)))]) hx hb dX3_digest_41 rfl hl (by decide) rfl (fun ls hl => ?_)
          refine lv_iinc (v := iI ((k + 1 : Nat) : Int)) (lv' := [(2, .int (iI ((k + 1 : Nat) : Int))), (1, .int (dg f (k + 1))), (3, .int (((dg f k)) ^^^ ((f k)))), (0, .ref h)]) hx hb dX3_digest_42 hl (k := 3) rfl (iA (by omega)) (by decide) rfl (fun ls hl => ?_)
          refine lv_goto (tgt := 4) hx hb dX3_digest_45 (by decide) ?_
          exact ih4 (k + 1) _ _ _ (by omega) (by omega) hP hD hS (lv_sub hl [3, 1, 0] rfl)
  exact lp4 _ 0 _ _ _ (Nat.lt_succ_self _) (by omega) hP hD hS (lv_sub hl [2, 1, 0] rfl)
