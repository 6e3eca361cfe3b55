abbrev rm_c_Row_most : Room := { frames := 0, cells := 0, slots := 0, locals := 0 }
set_option maxHeartbeats 4000000 in
set_option maxRecDepth 100000 in
theorem c_Row_most (l : Launch) (D : va_G) (cI cZ : ClassId) (h : Nat) (a : Nat) (M : Nat) (n : Nat) (f : Nat → Int32)  : MI l yX3_most wsX3_most rm_c_Row_most D (kT cI cZ) [.ref h] [(h, .inr (3, [.ref a, .int (iI ((n : Nat) : Int))])), (a, .inl (cI, M, .inl f))] (fun (r : Int32) (_ : Unit) => r = iI ((M : Nat) : Int)) (fun (u : Unit) => match u with | _ => [(h, .inr (3, [.ref a, .int (iI ((n : Nat) : Int))])), (a, .inl (cI, M, .inl f))]) 0 0 := by
  intro sz
  refine k_of (cc := cX3_most) (maxL := 1) (ret := (some .int)) (by decide) rfl (Nat.le_of_ble_eq_true rfl) ?_
  intro p e s m args below meth c A Q hAe hQ hx hb hr hml hts hown hlocks hnm hP hK hD hS hA ls hl
  have hl : lv_has ls 1 [(0, .ref h)] := hl
  have hi_X3 : ∀ w ∈ u_ws RX3 TX3 2, w ∈ wsX3_most := fun w h => km (ikX3 w h)
  have fl15 := hts _ (km wm62)
  refine lv_aload_n hx hb dX3_most_0 rfl (lv_at hl 0 rfl) ?_
  refine va_get (D := D) (ci := 3) (v := .ref a) (C := RX3) (T := TX3) (N := 2) hx hb hts hi_X3 hown hK hP 0 rfl rfl 0 (by decide) fl15 (fun _ h9 => h9) rfl dX3_most_1 ?_
  refine k_alen hx hb hK hP 1 0 rfl rfl dX3_most_4 ?_
  exact k_iret () hx hb hr hlocks hK hP hD hS [0, 1] (by decide) rfl rfl (rfl) hAe hQ dX3_most_5

abbrev rm_c_Row_count : Room := { frames := 0, cells := 0, slots := 0, locals := 0 }
set_option maxHeartbeats 4000000 in
set_option maxRecDepth 100000 in
theorem c_Row_count (l : Launch) (D : va_G) (cI cZ : ClassId) (h : Nat) (a : Nat) (M : Nat) (n : Nat) (f : Nat → Int32)  : MI l yX3_count wsX3_count rm_c_Row_count D (kT cI cZ) [.ref h] [(h, .inr (3, [.ref a, .int (iI ((n : Nat) : Int))])), (a, .inl (cI, M, .inl f))] (fun (r : Int32) (_ : Unit) => r = iI ((n : Nat) : Int)) (fun (u : Unit) => match u with | _ => [(h, .inr (3, [.ref a, .int (iI ((n : Nat) : Int))])), (a, .inl (cI, M, .inl f))]) 0 0 := by
  intro sz
  refine k_of (cc := cX3_count) (maxL := 1) (ret := (some .int)) (by decide) rfl (Nat.le_of_ble_eq_true rfl) ?_
  intro p e s m args below meth c A Q hAe hQ hx hb hr hml hts hown hlocks hnm hP hK hD hS hA ls hl
  have hl : lv_has ls 1 [(0, .ref h)] := hl
  have hi_X3 : ∀ w ∈ u_ws RX3 TX3 2, w ∈ wsX3_count := fun w h => km (ikX3 w h)
  have fl21 := hts _ (km wm63)
  refine lv_aload_n hx hb dX3_count_0 rfl (lv_at hl 0 rfl) ?_
  refine va_get (D := D) (ci := 3) (v := .int (iI ((n : Nat) : Int))) (C := RX3) (T := TX3) (N := 2) hx hb hts hi_X3 hown hK hP 0 rfl rfl 1 (by decide) fl21 (fun _ h9 => h9) rfl dX3_count_1 ?_
  exact k_iret () hx hb hr hlocks hK hP hD hS [0, 1] (by decide) rfl rfl (rfl) hAe hQ dX3_count_4

abbrev rm_c_Row_at : Room := { frames := 0, cells := 0, slots := 0, locals := 0 }
set_option maxHeartbeats 4000000 in
set_option maxRecDepth 100000 in
theorem c_Row_at (l : Launch) (D : va_G) (cI cZ : ClassId) (h : Nat) (a : Nat) (M : Nat) (n : Nat) (f : Nat → Int32) (z : Int) (hM : M ≤ 900) (hn : n ≤ M) (hz : -2147483648 ≤ z ∧ z < 2147483648) : MI l yX3_at wsX3_at rm_c_Row_at D (kT cI cZ) [.ref h, .int (iI (z : Int))] [(h, .inr (3, [.ref a, .int (iI ((n : Nat) : Int))])), (a, .inl (cI, M, .inl f))] (fun (r : Int32) (_ : Unit) => r = (rAt f n z)) (fun (u : Unit) => match u with | _ => [(h, .inr (3, [.ref a, .int (iI ((n : Nat) : Int))])), (a, .inl (cI, M, .inl f))]) 0 0 := by
  intro sz
  refine k_of (cc := cX3_at) (maxL := 2) (ret := (some .int)) (by decide) rfl (Nat.le_of_ble_eq_true rfl) ?_
  intro p e s m args below meth c A Q hAe hQ hx hb hr hml hts hown hlocks hnm hP hK hD hS hA ls hl
  have hl : lv_has ls 2 [(0, .ref h), (1, .int (iI (z : Int)))] := hl
  have hi_X3 : ∀ w ∈ u_ws RX3 TX3 2, w ∈ wsX3_at := fun w h => km (ikX3 w h)
  have fl21 := hts _ (km wm63)
  have fl15 := hts _ (km wm62)
  refine lv_iload_n hx hb dX3_at_0 rfl (lv_at hl 1 rfl) ?_
  refine lv_if_lt (tgt := 21) hx hb dX3_at_1 (by decide) (fun c1 => ?_) (fun c1 => ?_)
  · skip
    have c1 := iI_ltT (a := (z : Int)) (b := (0 : Int)) c1 (by omega)
    refine lv_iconst (v := iI (-1 : Int)) hx hb dX3_at_21 rfl ?_
    exact k_iret () hx hb hr hlocks hK hP hD hS [0, 1] (by decide) rfl rfl (by unfold rAt; first | rw [if_pos (by omega)] | rw [if_neg (by omega)]) hAe hQ dX3_at_22
  · skip
    have c1 := iI_ltF (a := (z : Int)) (b := (0 : Int)) c1 (by omega)
    refine lv_iload_n hx hb dX3_at_4 rfl (lv_at hl 1 rfl) ?_
    refine lv_aload_n hx hb dX3_at_5 rfl (lv_at hl 0 rfl) ?_
    refine va_get (D := D) (ci := 3) (v := .int (iI ((n : Nat) : Int))) (C := RX3) (T := TX3) (N := 2) hx hb hts hi_X3 hown hK hP 0 rfl rfl 1 (by decide) fl21 (fun _ h9 => h9) rfl dX3_at_6 ?_
    refine lv_icmp_ge (tgt := 21) hx hb dX3_at_9 (by decide) (fun c9 => ?_) (fun c9 => ?_)
    · skip
      have c9 := iI_leT (a := ((n : Nat) : Int)) (b := (z : Int)) c9 (by omega)
      refine lv_iconst (v := iI (-1 : Int)) hx hb dX3_at_21 rfl ?_
      exact k_iret () hx hb hr hlocks hK hP hD hS [0, 1] (by decide) rfl rfl (by unfold rAt; first | rw [if_pos (by omega)] | rw [if_neg (by omega)]) hAe hQ dX3_at_22
    · skip
      have c9 := iI_leF (a := ((n : Nat) : Int)) (b := (z : Int)) c9 (by omega)
      refine lv_aload_n hx hb dX3_at_12 rfl (lv_at hl 0 rfl) ?_
      refine va_get (D := D) (ci := 3) (v := .ref a) (C := RX3) (T := TX3) (N := 2) hx hb hts hi_X3 hown hK hP 0 rfl rfl 0 (by decide) fl15 (fun _ h9 => h9) rfl dX3_at_13 ?_
      refine lv_iload_n hx hb dX3_at_16 rfl (lv_at hl 1 rfl) ?_
      refine k_iald hx hb hK hP 1 0 rfl rfl z.toNat (by omega) dX3_at_17 ?_
      refine lv_goto (tgt := 22) hx hb dX3_at_18 (by decide) ?_
      exact k_iret () hx hb hr hlocks hK hP hD hS [0, 1] (by decide) rfl rfl (by unfold rAt; first | rw [if_pos (by omega)] | rw [if_neg (by omega)]) hAe hQ dX3_at_22

abbrev rm_c_Row_atk : Room := { frames := 0, cells := 0, slots := 0, locals := 0 }
set_option maxHeartbeats 4000000 in
set_option maxRecDepth 100000 in
theorem c_Row_atk (l : Launch) (D : va_G) (cI cZ : ClassId) (h : Nat) (a : Nat) (M : Nat) (n : Nat) (f : Nat → Int32) (k : Nat) (hM : M ≤ 900) (hn : n ≤ M) (hk : k < n) : MI l yX3_at wsX3_at rm_c_Row_atk D (kT cI cZ) [.ref h, .int (iI ((k : Nat) : Int))] [(h, .inr (3, [.ref a, .int (iI ((n : Nat) : Int))])), (a, .inl (cI, M, .inl f))] (fun (r : Int32) (_ : Unit) => r = (f k)) (fun (u : Unit) => match u with | _ => [(h, .inr (3, [.ref a, .int (iI ((n : Nat) : Int))])), (a, .inl (cI, M, .inl f))]) 0 0 := by
  intro sz
  refine k_of (cc := cX3_at) (maxL := 2) (ret := (some .int)) (by decide) rfl (Nat.le_of_ble_eq_true rfl) ?_
  intro p e s m args below meth c A Q hAe hQ hx hb hr hml hts hown hlocks hnm hP hK hD hS hA ls hl
  have hl : lv_has ls 2 [(0, .ref h), (1, .int (iI ((k : Nat) : Int)))] := hl
  have hi_X3 : ∀ w ∈ u_ws RX3 TX3 2, w ∈ wsX3_at := fun w h => km (ikX3 w h)
  have fl21 := hts _ (km wm63)
  have fl15 := hts _ (km wm62)
  refine lv_iload_n hx hb dX3_at_0 rfl (lv_at hl 1 rfl) ?_
  refine lv_if_lt (tgt := 21) hx hb dX3_at_1 (by decide) (fun c1 => ?_) (fun c1 => ?_)
  · skip
    have c1 := iI_ltT (a := ((k : Nat) : Int)) (b := (0 : Int)) c1 (by omega)
    omega
  · skip
    have c1 := iI_ltF (a := ((k : Nat) : Int)) (b := (0 : Int)) c1 (by omega)
    refine lv_iload_n hx hb dX3_at_4 rfl (lv_at hl 1 rfl) ?_
    refine lv_aload_n hx hb dX3_at_5 rfl (lv_at hl 0 rfl) ?_
    refine va_get (D := D) (ci := 3) (v := .int (iI ((n : Nat) : Int))) (C := RX3) (T := TX3) (N := 2) hx hb hts hi_X3 hown hK hP 0 rfl rfl 1 (by decide) fl21 (fun _ h9 => h9) rfl dX3_at_6 ?_
    refine lv_icmp_ge (tgt := 21) hx hb dX3_at_9 (by decide) (fun c9 => ?_) (fun c9 => ?_)
    · skip
      have c9 := iI_leT (a := ((n : Nat) : Int)) (b := ((k : Nat) : Int)) c9 (by omega)
      omega
    · skip
      have c9 := iI_leF (a := ((n : Nat) : Int)) (b := ((k : Nat) : Int)) c9 (by omega)
      refine lv_aload_n hx hb dX3_at_12 rfl (lv_at hl 0 rfl) ?_
      refine va_get (D := D) (ci := 3) (v := .ref a) (C := RX3) (T := TX3) (N := 2) hx hb hts hi_X3 hown hK hP 0 rfl rfl 0 (by decide) fl15 (fun _ h9 => h9) rfl dX3_at_13 ?_
      refine lv_iload_n hx hb dX3_at_16 rfl (lv_at hl 1 rfl) ?_
      refine k_iald hx hb hK hP 1 0 rfl rfl k (by omega) dX3_at_17 ?_
      refine lv_goto (tgt := 22) hx hb dX3_at_18 (by decide) ?_
      exact k_iret () hx hb hr hlocks hK hP hD hS [0, 1] (by decide) rfl rfl (rfl) hAe hQ dX3_at_22

abbrev rm_c_Row_put : Room := { frames := 0, cells := 0, slots := 0, locals := 0 }
set_option maxHeartbeats 4000000 in
set_option maxRecDepth 100000 in
theorem c_Row_put (l : Launch) (D : va_G) (cI cZ : ClassId) (h : Nat) (a : Nat) (M : Nat) (n : Nat) (f : Nat → Int32) (k : Nat) (x : Int32) (hM : M ≤ 900) (hn : n ≤ M) (hk : k < n) : MV l yX3_put wsX3_put rm_c_Row_put D (kT cI cZ) [.ref h, .int (iI ((k : Nat) : Int)), .int x] [(h, .inr (3, [.ref a, .int (iI ((n : Nat) : Int))])), (a, .inl (cI, M, .inl f))] (fun (_ : Unit) => True) (fun (u : Unit) => match u with | _ => [(h, .inr (3, [.ref a, .int (iI ((n : Nat) : Int))])), (a, .inl (cI, M, .inl (upd f k x)))]) 0 0 := by
  intro sz
  refine k_of (cc := cX3_put) (maxL := 3) (ret := none) (by decide) rfl (Nat.le_of_ble_eq_true rfl) ?_
  intro p e s m args below meth c A Q hAe hQ hx hb hr hml hts hown hlocks hnm hP hK hD hS hA ls hl
  have hl : lv_has ls 3 [(0, .ref h), (1, .int (iI ((k : Nat) : Int))), (2, .int x)] := hl
  have hi_X3 : ∀ w ∈ u_ws RX3 TX3 2, w ∈ wsX3_put := fun w h => km (ikX3 w h)
  have fl21 := hts _ (km wm63)
  have fl15 := hts _ (km wm62)
  refine lv_iload_n hx hb dX3_put_0 rfl (lv_at hl 1 rfl) ?_
  refine lv_if_lt (tgt := 19) hx hb dX3_put_1 (by decide) (fun c1 => ?_) (fun c1 => ?_)
  · skip
    have c1 := iI_ltT (a := ((k : Nat) : Int)) (b := (0 : Int)) c1 (by omega)
    omega
  · skip
    have c1 := iI_ltF (a := ((k : Nat) : Int)) (b := (0 : Int)) c1 (by omega)
    refine lv_iload_n hx hb dX3_put_4 rfl (lv_at hl 1 rfl) ?_
    refine lv_aload_n hx hb dX3_put_5 rfl (lv_at hl 0 rfl) ?_
    refine va_get (D := D) (ci := 3) (v := .int (iI ((n : Nat) : Int))) (C := RX3) (T := TX3) (N := 2) hx hb hts hi_X3 hown hK hP 0 rfl rfl 1 (by decide) fl21 (fun _ h9 => h9) rfl dX3_put_6 ?_
    refine lv_icmp_ge (tgt := 19) hx hb dX3_put_9 (by decide) (fun c9 => ?_) (fun c9 => ?_)
    · skip
      have c9 := iI_leT (a := ((n : Nat) : Int)) (b := ((k : Nat) : Int)) c9 (by omega)
      omega
    · skip
      have c9 := iI_leF (a := ((n : Nat) : Int)) (b := ((k : Nat) : Int)) c9 (by omega)
      refine lv_aload_n hx hb dX3_put_12 rfl (lv_at hl 0 rfl) ?_
      refine va_get (D := D) (ci := 3) (v := .ref a) (C := RX3) (T := TX3) (N := 2) hx hb hts hi_X3 hown hK hP 0 rfl rfl 0 (by decide) fl15 (fun _ h9 => h9) rfl dX3_put_13 ?_
      refine lv_iload_n hx hb dX3_put_16 rfl (lv_at hl 1 rfl) ?_
      refine lv_iload_n hx hb dX3_put_17 rfl (lv_at hl 2 rfl) ?_
      refine k_iast hx hb hK hP hD hS 1 0 rfl rfl k (by omega) dX3_put_18 (fun H locs hP hD hS => ?_)
      have hP : va_P D vwCl [(h, .inr (3, [.ref a, .int (iI ((n : Nat) : Int))])), (a, .inl (cI, M, .inl (upd f k (x))))] H := hP
      have hD : va_D A [(h, .inr (3, [.ref a, .int (iI ((n : Nat) : Int))])), (a, .inl (cI, M, .inl (upd f k (x))))] := hD
      exact k_vret () hx hb hr hlocks hK hP hD hS [0, 1] (by decide) rfl rfl (trivial) hAe hQ dX3_put_19

abbrev rm_c_Row_clear : Room := { frames := 0, cells := 0, slots := 0, locals := 0 }
set_option maxHeartbeats 4000000 in
set_option maxRecDepth 100000 in
theorem c_Row_clear (l : Launch) (D : va_G) (cI cZ : ClassId) (h : Nat) (a : Nat) (M : Nat) (n : Nat) (f : Nat → Int32)  : MV l yX3_clear wsX3_clear rm_c_Row_clear D (kT cI cZ) [.ref h] [(h, .inr (3, [.ref a, .int (iI ((n : Nat) : Int))])), (a, .inl (cI, M, .inl f))] (fun (_ : Unit) => True) (fun (u : Unit) => match u with | _ => [(h, .inr (3, [.ref a, .int (iI ((0 : Nat) : Int))])), (a, .inl (cI, M, .inl f))]) 0 0 := by
  intro sz
  refine k_of (cc := cX3_clear) (maxL := 1) (ret := none) (by decide) rfl (Nat.le_of_ble_eq_true rfl) ?_
  intro p e s m args below meth c A Q hAe hQ hx hb hr hml hts hown hlocks hnm hP hK hD hS hA ls hl
  have hl : lv_has ls 1 [(0, .ref h)] := hl
  have hi_X3 : ∀ w ∈ u_ws RX3 TX3 2, w ∈ wsX3_clear := fun w h => km (ikX3 w h)
  have fl21 := hts _ (km wm63)
  refine lv_aload_n hx hb dX3_clear_0 rfl (lv_at hl 0 rfl) ?_
  refine lv_iconst (v := iI ((0 : Nat) : Int)) hx hb dX3_clear_1 rfl ?_
  refine va_put (D := D) (ci := 3) (v := .int (iI ((0 : Nat) : Int))) (ty := .int) (C := RX3) (T := TX3) (N := 2) hx hb hts hi_X3 tyX3 tyX3_ok nmX3 hown hK hP hD hS 0 rfl rfl 1 (by decide) fl21 (fun _ h9 => h9) rfl (by decide +kernel) rfl rfl (Nat.le_of_ble_eq_true rfl) dX3_clear_2 (fun H locs hP hD hS => ?_)
  have hP : va_P D vwCl [(h, .inr (3, [.ref a, .int (iI ((0 : Nat) : Int))])), (a, .inl (cI, M, .inl f))] H := hP
  have hD : va_D A [(h, .inr (3, [.ref a, .int (iI ((0 : Nat) : Int))])), (a, .inl (cI, M, .inl f))] := hD
  exact k_vret () hx hb hr hlocks hK hP hD hS [0, 1] (by decide) rfl rfl (trivial) hAe hQ dX3_clear_5

abbrev rm_c_Row_setCount : Room := { frames := 1, cells := 0, slots := 0, locals := 17 }
set_option maxHeartbeats 4000000 in
set_option maxRecDepth 100000 in
theorem c_Row_setCount (l : Launch) (D : va_G) (cI cZ : ClassId) (h : Nat) (a : Nat) (M : Nat) (n : Nat) (f : Nat → Int32) (k : Nat) (hM : M ≤ 900) (hk : k ≤ M) : MV l yX3_setCount wsX3_setCount rm_c_Row_setCount D (kT cI cZ) [.ref h, .int (iI ((k : Nat) : Int))] [(h, .inr (3, [.ref a, .int (iI ((n : Nat) : Int))])), (a, .inl (cI, M, .inl f))] (fun (_ : Unit) => True) (fun (u : Unit) => match u with | _ => [(h, .inr (3, [.ref a, .int (iI ((k : Nat) : Int))])), (a, .inl (cI, M, .inl f))]) 0 0 := by
  intro sz
  refine k_of (cc := cX3_setCount) (maxL := 2) (ret := none) (by decide) rfl (Nat.le_of_ble_eq_true rfl) ?_
  intro p e s m args below meth c A Q hAe hQ hx hb hr hml hts hown hlocks hnm hP hK hD hS hA ls hl
  have hl : lv_has ls 2 [(0, .ref h), (1, .int (iI ((k : Nat) : Int)))] := hl
  have hi_X3 : ∀ w ∈ u_ws RX3 TX3 2, w ∈ wsX3_setCount := fun w h => km (ikX3 w h)
  have fl15 := hts _ (km wm62)
  have fl21 := hts _ (km wm63)
  refine lv_aload_n hx hb dX3_setCount_0 rfl (lv_at hl 0 rfl) ?_
  refine lv_iconst (v := iI (0 : Int)) hx hb dX3_setCount_1 rfl ?_
  refine lv_iload_n hx hb dX3_setCount_2 rfl (lv_at hl 1 rfl) ?_
  refine lv_aload_n hx hb dX3_setCount_3 rfl (lv_at hl 0 rfl) ?_
  refine va_get (D := D) (ci := 3) (v := .ref a) (C := RX3) (T := TX3) (N := 2) hx hb hts hi_X3 hown hK hP 0 rfl rfl 0 (by decide) fl15 (fun _ h9 => h9) rfl dX3_setCount_4 ?_
  refine k_alen hx hb hK hP 1 0 rfl rfl dX3_setCount_7 ?_
  refine va_mmin hx hb (by rw [hml]; exact hl.1.symm) hown (hts _ (km wm221)) (hts _ (km wm222)) (hts _ (km wm40)) (hts _ (km wm223)) (Nat.le_of_ble_eq_true rfl) (Nat.le_of_ble_eq_true rfl) (Nat.zero_le _) (Nat.zero_le _) dX3_setCount_8 ?_
  refine kn_i (imin (c := ((k : Nat) : Int)) (by omega) (by omega)) ?_
  refine va_mmax hx hb (by rw [hml]; exact hl.1.symm) hown (hts _ (km wm59)) (hts _ (km wm60)) (hts _ (km wm40)) (hts _ (km wm61)) (Nat.le_of_ble_eq_true rfl) (Nat.le_of_ble_eq_true rfl) (Nat.zero_le _) (Nat.zero_le _) dX3_setCount_11 ?_
  refine kn_i (imax (c := ((k : Nat) : Int)) (by omega) (by omega)) ?_
  refine va_put (D := D) (ci := 3) (v := .int (iI ((k : Nat) : Int))) (ty := .int) (C := RX3) (T := TX3) (N := 2) hx hb hts hi_X3 tyX3 tyX3_ok nmX3 hown hK hP hD hS 0 rfl rfl 1 (by decide) fl21 (fun _ h9 => h9) rfl (by decide +kernel) rfl rfl (Nat.le_of_ble_eq_true rfl) dX3_setCount_14 (fun H locs hP hD hS => ?_)
  have hP : va_P D vwCl [(h, .inr (3, [.ref a, .int (iI ((k : Nat) : Int))])), (a, .inl (cI, M, .inl f))] H := hP
  have hD : va_D A [(h, .inr (3, [.ref a, .int (iI ((k : Nat) : Int))])), (a, .inl (cI, M, .inl f))] := hD
  exact k_vret () hx hb hr hlocks hK hP hD hS [0, 1] (by decide) rfl rfl (trivial) hAe hQ dX3_setCount_17

abbrev rm_c_Row_add : Room := { frames := 0, cells := 0, slots := 0, locals := 0 }
set_option maxHeartbeats 4000000 in
set_option maxRecDepth 100000 in
theorem c_Row_add (l : Launch) (D : va_G) (cI cZ : ClassId) (h : Nat) (a : Nat) (M : Nat) (n : Nat) (f : Nat → Int32) (x : Int32) (hM : M ≤ 900) (hn : n < M) : MV l yX3_add wsX3_add rm_c_Row_add D (kT cI cZ) [.ref h, .int x] [(h, .inr (3, [.ref a, .int (iI ((n : Nat) : Int))])), (a, .inl (cI, M, .inl f))] (fun (_ : Unit) => True) (fun (u : Unit) => match u with | _ => [(h, .inr (3, [.ref a, .int (iI ((n + 1 : Nat) : Int))])), (a, .inl (cI, M, .inl (apL f n [x])))]) 0 0 := by
  intro sz
  refine k_of (cc := cX3_add) (maxL := 2) (ret := none) (by decide) rfl (Nat.le_of_ble_eq_true rfl) ?_
  intro p e s m args below meth c A Q hAe hQ hx hb hr hml hts hown hlocks hnm hP hK hD hS hA ls hl
  have hl : lv_has ls 2 [(0, .ref h), (1, .int x)] := hl
  have hi_X3 : ∀ w ∈ u_ws RX3 TX3 2, w ∈ wsX3_add := fun w h => km (ikX3 w h)
  have fl21 := hts _ (km wm63)
  have fl15 := hts _ (km wm62)
  refine lv_aload_n hx hb dX3_add_0 rfl (lv_at hl 0 rfl) ?_
  refine va_get (D := D) (ci := 3) (v := .int (iI ((n : Nat) : Int))) (C := RX3) (T := TX3) (N := 2) hx hb hts hi_X3 hown hK hP 0 rfl rfl 1 (by decide) fl21 (fun _ h9 => h9) rfl dX3_add_1 ?_
  refine lv_aload_n hx hb dX3_add_4 rfl (lv_at hl 0 rfl) ?_
  refine va_get (D := D) (ci := 3) (v := .ref a) (C := RX3) (T := TX3) (N := 2) hx hb hts hi_X3 hown hK hP 0 rfl rfl 0 (by decide) fl15 (fun _ h9 => h9) rfl dX3_add_5 ?_
  refine k_alen hx hb hK hP 1 0 rfl rfl dX3_add_8 ?_
  refine lv_icmp_ge (tgt := 32) hx hb dX3_add_9 (by decide) (fun c9 => ?_) (fun c9 => ?_)
  · skip
    have c9 := iI_leT (a := ((M : Nat) : Int)) (b := ((n : Nat) : Int)) c9 (by omega)
    omega
  · skip
    have c9 := iI_leF (a := ((M : Nat) : Int)) (b := ((n : Nat) : Int)) c9 (by omega)
    refine lv_aload_n hx hb dX3_add_12 rfl (lv_at hl 0 rfl) ?_
    refine va_get (D := D) (ci := 3) (v := .ref a) (C := RX3) (T := TX3) (N := 2) hx hb hts hi_X3 hown hK hP 0 rfl rfl 0 (by decide) fl15 (fun _ h9 => h9) rfl dX3_add_13 ?_
    refine lv_aload_n hx hb dX3_add_16 rfl (lv_at hl 0 rfl) ?_
    refine va_get (D := D) (ci := 3) (v := .int (iI ((n : Nat) : Int))) (C := RX3) (T := TX3) (N := 2) hx hb hts hi_X3 hown hK hP 0 rfl rfl 1 (by decide) fl21 (fun _ h9 => h9) rfl dX3_add_17 ?_
    refine lv_iload_n hx hb dX3_add_20 rfl (lv_at hl 1 rfl) ?_
    refine k_iast hx hb hK hP hD hS 1 0 rfl rfl n (by omega) dX3_add_21 (fun H locs hP hD hS => ?_)
    have hP : va_P D vwCl [(h, .inr (3, [.ref a, .int (iI ((n : Nat) : Int))])), (a, .inl (cI, M, .inl (upd f n (x))))] H := hP
    have hD : va_D A [(h, .inr (3, [.ref a, .int (iI ((n : Nat) : Int))])), (a, .inl (cI, M, .inl (upd f n (x))))] := hD
    rw [show (upd f n (x)) = (apL f n [x]) from apL_one f n x] at hP hD
    refine lv_aload_n hx hb dX3_add_22 rfl (lv_at hl 0 rfl) ?_
    refine lv_dup hx hb dX3_add_23 rfl ?_
    refine va_get (D := D) (ci := 3) (v := .int (iI ((n : Nat) : Int))) (C := RX3) (T := TX3) (N := 2) hx hb hts hi_X3 hown hK hP 0 rfl rfl 1 (by decide) fl21 (fun _ h9 => h9) rfl dX3_add_24 ?_
    refine lv_iconst (v := iI (1 : Int)) hx hb dX3_add_27 rfl ?_
    refine lv_iadd hx hb dX3_add_28 ?_
    refine kn_i (iA (c := ((n + 1 : Nat) : Int)) (by omega)) ?_
    refine va_put (D := D) (ci := 3) (v := .int (iI ((n + 1 : Nat) : Int))) (ty := .int) (C := RX3) (T := TX3) (N := 2) hx hb hts hi_X3 tyX3 tyX3_ok nmX3 hown hK hP hD hS 0 rfl rfl 1 (by decide) fl21 (fun _ h9 => h9) rfl (by decide +kernel) rfl rfl (Nat.le_of_ble_eq_true rfl) dX3_add_29 (fun H locs hP hD hS => ?_)
    have hP : va_P D vwCl [(h, .inr (3, [.ref a, .int (iI ((n + 1 : Nat) : Int))])), (a, .inl (cI, M, .inl (apL f n [x])))] H := hP
    have hD : va_D A [(h, .inr (3, [.ref a, .int (iI ((n + 1 : Nat) : Int))])), (a, .inl (cI, M, .inl (apL f n [x])))] := hD
    exact k_vret () hx hb hr hlocks hK hP hD hS [0, 1] (by decide) rfl rfl (trivial) hAe hQ dX3_add_32

abbrev rm_c_Row_addFrom : Room := { frames := 1, cells := 0, slots := 0, locals := 21 }
set_option maxHeartbeats 4000000 in
set_option maxRecDepth 100000 in
theorem c_Row_addFrom (l : Launch) (D : va_G) (cI cZ : ClassId) (h : Nat) (a : Nat) (M : Nat) (n : Nat) (f : Nat → Int32) (h2 : Nat) (a2 : Nat) (M2 : Nat) (n2 : Nat) (g : Nat → Int32) (st : Nat) (k : Nat) (hM : M ≤ 900) (hM2 : M2 ≤ 900) (hn2 : n2 ≤ M2) (hst : st + k ≤ n2) (hk : n + k ≤ M) : MV l yX3_addFrom wsX3_addFrom rm_c_Row_addFrom D (kT cI cZ) [.ref h, .ref h2, .int (iI ((st : Nat) : Int)), .int (iI ((k : Nat) : Int))] [(h, .inr (3, [.ref a, .int (iI ((n : Nat) : Int))])), (a, .inl (cI, M, .inl f)), (h2, .inr (3, [.ref a2, .int (iI ((n2 : Nat) : Int))])), (a2, .inl (cI, M2, .inl g))] (fun (_ : Unit) => True) (fun (u : Unit) => match u with | _ => [(h, .inr (3, [.ref a, .int (iI ((n + k : Nat) : Int))])), (a, .inl (cI, M, .inl (apL f n (sl g st k)))), (h2, .inr (3, [.ref a2, .int (iI ((n2 : Nat) : Int))])), (a2, .inl (cI, M2, .inl g))]) 0 0 := by
  intro sz
  refine k_of (cc := cX3_addFrom) (maxL := 6) (ret := none) (by decide) rfl (Nat.le_of_ble_eq_true rfl) ?_
  intro p e s m args below meth c A Q hAe hQ hx hb hr hml hts hown hlocks hnm hP hK hD hS hA ls hl
  have hl : lv_has ls 6 [(0, .ref h), (1, .ref h2), (2, .int (iI ((st : Nat) : Int))), (3, .int (iI ((k : Nat) : Int)))] := hl
  refine lv_iload_n hx hb dX3_addFrom_0 rfl (lv_at hl 3 rfl) ?_
  refine lv_aload_n hx hb dX3_addFrom_1 rfl (lv_at hl 1 rfl) ?_
  refine k_calli (wc := [(h2, .inr (3, [.ref a2, .int (iI ((n2 : Nat) : Int))])), (a2, .inl (cI, M2, .inl g))]) (wr := [(h, .inr (3, [.ref a, .int (iI ((n : Nat) : Int))])), (a, .inl (cI, M, .inl f))]) (wf := fun _ => [(h, .inr (3, [.ref a, .int (iI ((n : Nat) : Int))])), (a, .inl (cI, M, .inl f)), (h2, .inr (3, [.ref a2, .int (iI ((n2 : Nat) : Int))])), (a2, .inl (cI, M2, .inl g))]) hK hP hD hS hA [2, 3] [0, 1] [0, 1, 2, 3] ⟨⟨rfl, rfl, by decide⟩, rfl, by decide, by decide⟩ (fun _ => ⟨rfl, rfl⟩) (by decide) (fun hPc hDc => va_runV (As := []) (rest := [.int (iI ((k : Nat) : Int))]) ⟨hx, hb, hml, hown, hts⟩ (c_Row_count l D cI cZ (h := h2) (a := a2) (M := M2) (n := n2) (f := g)  _) (cwV 0 hts (kgV wm216 wm193 wm194 wm39 wmcX3_count) rfl rfl rfl (by decide +kernel) ⟨Nat.le_of_ble_eq_true rfl, Nat.le_of_ble_eq_true rfl⟩) (k_preV hK hPc hDc (ci := 3) (q0 := 0) rfl rfl) rfl rfl hl.1 rfl (lv_room (Nat.le_of_ble_eq_true rfl)) dX3_addFrom_2 ⟨Nat.le_of_ble_eq_true rfl, Nat.le_of_ble_eq_true rfl⟩) (fun r2 u H locs hw hP hD hS => ?_)
  have hP : va_P D vwCl [(h, .inr (3, [.ref a, .int (iI ((n : Nat) : Int))])), (a, .inl (cI, M, .inl f)), (h2, .inr (3, [.ref a2, .int (iI ((n2 : Nat) : Int))])), (a2, .inl (cI, M2, .inl g))] H := hP
  have hD : va_D A [(h, .inr (3, [.ref a, .int (iI ((n : Nat) : Int))])), (a, .inl (cI, M, .inl f)), (h2, .inr (3, [.ref a2, .int (iI ((n2 : Nat) : Int))])), (a2, .inl (cI, M2, .inl g))] := hD
  refine W.widen (k := 0) (n := 0) (Nat.le_of_ble_eq_true rfl) (Nat.le_of_ble_eq_true rfl) ?_
  have hw : r2 = iI ((n2 : Nat) : Int) := hw
  subst hw
  refine lv_iload_n hx hb dX3_addFrom_5 rfl (lv_at hl 2 rfl) ?_
  refine lv_isub hx hb dX3_addFrom_6 ?_
  refine kn_i (iB (c := (((n2 : Nat) : Int) - ((st : Nat) : Int) : Int)) (by omega)) ?_
  refine va_mmin hx hb (by rw [hml]; exact hl.1.symm) hown (hts _ (km wm221)) (hts _ (km wm222)) (hts _ (km wm40)) (hts _ (km wm223)) (Nat.le_of_ble_eq_true rfl) (Nat.le_of_ble_eq_true rfl) (Nat.zero_le _) (Nat.zero_le _) dX3_addFrom_7 ?_
  refine kn_i (imin (c := ((k : Nat) : Int)) (by omega) (by omega)) ?_
  refine lv_istore (lv' := [(4, .int (iI ((k : Nat) : Int))), (0, .ref h), (1, .ref h2), (2, .int (iI ((st : Nat) : Int))), (3, .int (iI ((k : Nat) : Int)))]) hx hb dX3_addFrom_10 hl (by decide) rfl (fun ls hl => ?_)
  refine lv_iconst (v := iI ((0 : Nat) : Int)) hx hb dX3_addFrom_12 rfl ?_
  refine lv_istore (lv' := [(5, .int (iI ((0 : Nat) : Int))), (4, .int (iI ((k : Nat) : Int))), (0, .ref h), (1, .ref h2), (2, .int (iI ((st : Nat) : Int))), (3, .int (iI ((k : Nat) : Int)))]) hx hb dX3_addFrom_13 hl (by decide) rfl (fun ls hl => ?_)
  have lp15 : ∀ (fu : Nat) (i : Nat) (H : Heap) (locs : List Loc) (ls : Array Slot), k - i < fu → (i ≤ k) → va_P D vwCl [(h, .inr (3, [.ref a, .int (iI ((n + i : Nat) : Int))])), (a, .inl (cI, M, .inl (apL f n (sl g st i)))), (h2, .inr (3, [.ref a2, .int (iI ((n2 : Nat) : Int))])), (a2, .inl (cI, M2, .inl g))] H → va_D A [(h, .inr (3, [.ref a, .int (iI ((n + i : Nat) : Int))])), (a, .inl (cI, M, .inl (apL f n (sl g st i)))), (h2, .inr (3, [.ref a2, .int (iI ((n2 : Nat) : Int))])), (a2, .inl (cI, M2, .inl g))] → va_S A s.heap H locs → lv_has ls 6 [(0, .ref h), (1, .ref h2), (2, .int (iI ((st : Nat) : Int))), (4, .int (iI ((k : Nat) : Int))), (5, .int (iI ((i : Nat) : Int)))] → W p l e rm_c_Row_addFrom s m args below meth c H locs 0 0 Q (F0 m 15 ls []) := by
    intro fu
    induction fu with
    | zero => intro i H locs ls hfu; exact absurd hfu (Nat.not_lt_zero _)
    | succ fu ih15 =>
      intro i H locs ls hfu hi hP hD hS hl
      refine lv_iload hx hb dX3_addFrom_15 (lv_at hl 4 rfl) ?_
      refine lv_iload hx hb dX3_addFrom_17 (lv_at hl 3 rfl) ?_
      refine lv_icmp_ge (tgt := 40) hx hb dX3_addFrom_19 (by decide) (fun c19 => ?_) (fun c19 => ?_)
      · skip
        have c19 := iI_leT (a := ((k : Nat) : Int)) (b := ((i : Nat) : Int)) c19 (by omega)
        obtain rfl : i = k := by omega
        exact k_vret () hx hb hr hlocks hK hP hD hS [0, 1, 2, 3] (by decide) rfl rfl (trivial) hAe hQ dX3_addFrom_40
      · skip
        have c19 := iI_leF (a := ((k : Nat) : Int)) (b := ((i : Nat) : Int)) c19 (by omega)
        refine lv_aload_n hx hb dX3_addFrom_22 rfl (lv_at hl 0 rfl) ?_
        refine lv_aload_n hx hb dX3_addFrom_23 rfl (lv_at hl 1 rfl) ?_
        refine lv_iload_n hx hb dX3_addFrom_24 rfl (lv_at hl 2 rfl) ?_
        refine lv_iload hx hb dX3_addFrom_25 (lv_at hl 4 rfl) ?_
        refine lv_iadd hx hb dX3_addFrom_27 ?_
        refine kn_i (iA (c := (((st + i) : Nat) : Int)) (by omega)) ?_
        refine k_calli (wc := [(h2, .inr (3, [.ref a2, .int (iI ((n2 : Nat) : Int))])), (a2, .inl (cI, M2, .inl g))]) (wr := [(h, .inr (3, [.ref a, .int (iI ((n + i : Nat) : Int))])), (a, .inl (cI, M, .inl (apL f n (sl g st i))))]) (wf := fun _ => [(h, .inr (3, [.ref a, .int (iI ((n + i : Nat) : Int))])), (a, .inl (cI, M, .inl (apL f n (sl g st i)))), (h2, .inr (3, [.ref a2, .int (iI ((n2 : Nat) : Int))])), (a2, .inl (cI, M2, .inl g))]) hK hP hD hS hA [2, 3] [0, 1] [0, 1, 2, 3] ⟨⟨rfl, rfl, by decide⟩, rfl, by decide, by decide⟩ (fun _ => ⟨rfl, rfl⟩) (by decide) (fun hPc hDc => va_runV (As := [.int (iI (((st + i) : Nat) : Int))]) (rest := [.ref h]) ⟨hx, hb, hml, hown, hts⟩ (c_Row_atk l D cI cZ (h := h2) (a := a2) (M := M2) (n := n2) (f := g) (k := (st + i)) (hM := by omega) (hn := by omega) (hk := by omega) _) (cwV 1 hts (kgV wm224 wm225 wm226 wm39 wmcX3_at) rfl rfl rfl (by decide +kernel) ⟨Nat.le_of_ble_eq_true rfl, Nat.le_of_ble_eq_true rfl⟩) (k_preV hK hPc hDc (ci := 3) (q0 := 0) rfl rfl) rfl rfl hl.1 rfl (lv_room (Nat.le_of_ble_eq_true rfl)) dX3_addFrom_28 ⟨Nat.le_of_ble_eq_true rfl, Nat.le_of_ble_eq_true rfl⟩) (fun r28 u H locs hw hP hD hS => ?_)
        have hP : va_P D vwCl [(h, .inr (3, [.ref a, .int (iI ((n + i : Nat) : Int))])), (a, .inl (cI, M, .inl (apL f n (sl g st i)))), (h2, .inr (3, [.ref a2, .int (iI ((n2 : Nat) : Int))])), (a2, .inl (cI, M2, .inl g))] H := hP
        have hD : va_D A [(h, .inr (3, [.ref a, .int (iI ((n + i : Nat) : Int))])), (a, .inl (cI, M, .inl (apL f n (sl g st i)))), (h2, .inr (3, [.ref a2, .int (iI ((n2 : Nat) : Int))])), (a2, .inl (cI, M2, .inl g))] := hD
        refine W.widen (k := 0) (n := 0) (Nat.le_of_ble_eq_true rfl) (Nat.le_of_ble_eq_true rfl) ?_
        have hw : r28 = (g (st + i)) := hw
        subst hw
        refine k_callv (wc := [(h, .inr (3, [.ref a, .int (iI ((n + i : Nat) : Int))])), (a, .inl (cI, M, .inl (apL f n (sl g st i))))]) (wr := [(h2, .inr (3, [.ref a2, .int (iI ((n2 : Nat) : Int))])), (a2, .inl (cI, M2, .inl g))]) (wf := fun _ => [(h, .inr (3, [.ref a, .int (iI (((n + i) + 1 : Nat) : Int))])), (a, .inl (cI, M, .inl (apL (apL f n (sl g st i)) (n + i) [(g (st + i))]))), (h2, .inr (3, [.ref a2, .int (iI ((n2 : Nat) : Int))])), (a2, .inl (cI, M2, .inl g))]) hK hP hD hS hA [0, 1] [2, 3] [2, 3, 0, 1] ⟨⟨rfl, rfl, by decide⟩, rfl, by decide, by decide⟩ (fun _ => ⟨rfl, rfl⟩) (by decide) (fun hPc hDc => va_runV (As := [.int (g (st + i))]) (rest := []) ⟨hx, hb, hml, hown, hts⟩ (c_Row_add l D cI cZ (h := h) (a := a) (M := M) (n := n + i) (f := (apL f n (sl g st i))) (x := (g (st + i))) (hM := by omega) (hn := by omega) _) (cwV 1 hts (kgV wm228 wm197 wm198 wm39 wmcX3_add) rfl rfl rfl (by decide +kernel) ⟨Nat.le_of_ble_eq_true rfl, Nat.le_of_ble_eq_true rfl⟩) (k_preV hK hPc hDc (ci := 3) (q0 := 0) rfl rfl) rfl rfl hl.1 rfl (lv_room (Nat.le_of_ble_eq_true rfl)) dX3_addFrom_31 ⟨Nat.le_of_ble_eq_true rfl, Nat.le_of_ble_eq_true rfl⟩) (fun u H locs hw hP hD hS => ?_)
        have hP : va_P D vwCl [(h, .inr (3, [.ref a, .int (iI (((n + i) + 1 : Nat) : Int))])), (a, .inl (cI, M, .inl (apL (apL f n (sl g st i)) (n + i) [(g (st + i))]))), (h2, .inr (3, [.ref a2, .int (iI ((n2 : Nat) : Int))])), (a2, .inl (cI, M2, .inl g))] H := hP
        have hD : va_D A [(h, .inr (3, [.ref a, .int (iI (((n + i) + 1 : Nat) : Int))])), (a, .inl (cI, M, .inl (apL (apL f n (sl g st i)) (n + i) [(g (st + i))]))), (h2, .inr (3, [.ref a2, .int (iI ((n2 : Nat) : Int))])), (a2, .inl (cI, M2, .inl g))] := hD
        refine W.widen (k := 0) (n := 0) (Nat.le_of_ble_eq_true rfl) (Nat.le_of_ble_eq_true rfl) ?_
        rw [show (apL (apL f n (sl g st i)) (n + i) [(g (st + i))]) = (apL f n (sl g st (i + 1))) from apL_sl] at hP hD
        refine lv_iinc (v := iI ((i + 1 : Nat) : Int)) (lv' := [(5, .int (iI ((i + 1 : Nat) : Int))), (0, .ref h), (1, .ref h2), (2, .int (iI ((st : Nat) : Int))), (4, .int (iI ((k : Nat) : Int)))]) hx hb dX3_addFrom_34 hl (k := 4) rfl (iA (by omega)) (by decide) rfl (fun ls hl => ?_)
        refine lv_goto (tgt := 15) hx hb dX3_addFrom_37 (by decide) ?_
        exact ih15 (i + 1) _ _ _ (by omega) (by omega) hP hD hS (lv_sub hl [1, 2, 3, 4, 0] rfl)
  rw [show f = (apL f n (sl g st 0)) from (apL_nil f n).symm] at hP hD
  exact lp15 _ 0 _ _ _ (Nat.lt_succ_self _) (by omega) hP hD hS (lv_sub hl [2, 3, 4, 1, 0] rfl)

abbrev rm_c_Row_become : Room := { frames := 2, cells := 0, slots := 0, locals := 46 }
set_option maxHeartbeats 4000000 in
set_option maxRecDepth 100000 in
theorem c_Row_become (l : Launch) (D : va_G) (cI cZ : ClassId) (h : Nat) (a : Nat) (M : Nat) (n : Nat) (f : Nat → Int32) (h2 : Nat) (a2 : Nat) (M2 : Nat) (n2 : Nat) (g : Nat → Int32) (hM : M ≤ 900) (hM2 : M2 ≤ 900) (hn2 : n2 ≤ M2) (hk : n2 ≤ M) : MV l yX3_become wsX3_become rm_c_Row_become D (kT cI cZ) [.ref h, .ref h2] [(h, .inr (3, [.ref a, .int (iI ((n : Nat) : Int))])), (a, .inl (cI, M, .inl f)), (h2, .inr (3, [.ref a2, .int (iI ((n2 : Nat) : Int))])), (a2, .inl (cI, M2, .inl g))] (fun (_ : Unit) => True) (fun (u : Unit) => match u with | _ => [(h, .inr (3, [.ref a, .int (iI ((n2 : Nat) : Int))])), (a, .inl (cI, M, .inl (apL f 0 (sl g 0 n2)))), (h2, .inr (3, [.ref a2, .int (iI ((n2 : Nat) : Int))])), (a2, .inl (cI, M2, .inl g))]) 0 0 := by
  intro sz
  refine k_of (cc := cX3_become) (maxL := 2) (ret := none) (by decide) rfl (Nat.le_of_ble_eq_true rfl) ?_
  intro p e s m args below meth c A Q hAe hQ hx hb hr hml hts hown hlocks hnm hP hK hD hS hA ls hl
  have hl : lv_has ls 2 [(0, .ref h), (1, .ref h2)] := hl
  refine lv_aload_n hx hb dX3_become_0 rfl (lv_at hl 0 rfl) ?_
  refine k_callv (wc := [(h, .inr (3, [.ref a, .int (iI ((n : Nat) : Int))])), (a, .inl (cI, M, .inl f))]) (wr := [(h2, .inr (3, [.ref a2, .int (iI ((n2 : Nat) : Int))])), (a2, .inl (cI, M2, .inl g))]) (wf := fun _ => [(h, .inr (3, [.ref a, .int (iI ((0 : Nat) : Int))])), (a, .inl (cI, M, .inl f)), (h2, .inr (3, [.ref a2, .int (iI ((n2 : Nat) : Int))])), (a2, .inl (cI, M2, .inl g))]) hK hP hD hS hA [0, 1] [2, 3] [2, 3, 0, 1] ⟨⟨rfl, rfl, by decide⟩, rfl, by decide, by decide⟩ (fun _ => ⟨rfl, rfl⟩) (by decide) (fun hPc hDc => va_runV (As := []) (rest := []) ⟨hx, hb, hml, hown, hts⟩ (c_Row_clear l D cI cZ (h := h) (a := a) (M := M) (n := n) (f := f)  _) (cwV 0 hts (kgV wm212 wm213 wm214 wm39 wmcX3_clear) rfl rfl rfl (by decide +kernel) ⟨Nat.le_of_ble_eq_true rfl, Nat.le_of_ble_eq_true rfl⟩) (k_preV hK hPc hDc (ci := 3) (q0 := 0) rfl rfl) rfl rfl hl.1 rfl (lv_room (Nat.le_of_ble_eq_true rfl)) dX3_become_1 ⟨Nat.le_of_ble_eq_true rfl, Nat.le_of_ble_eq_true rfl⟩) (fun u H locs hw hP hD hS => ?_)
  have hP : va_P D vwCl [(h, .inr (3, [.ref a, .int (iI ((0 : Nat) : Int))])), (a, .inl (cI, M, .inl f)), (h2, .inr (3, [.ref a2, .int (iI ((n2 : Nat) : Int))])), (a2, .inl (cI, M2, .inl g))] H := hP
  have hD : va_D A [(h, .inr (3, [.ref a, .int (iI ((0 : Nat) : Int))])), (a, .inl (cI, M, .inl f)), (h2, .inr (3, [.ref a2, .int (iI ((n2 : Nat) : Int))])), (a2, .inl (cI, M2, .inl g))] := hD
  refine W.widen (k := 0) (n := 0) (Nat.le_of_ble_eq_true rfl) (Nat.le_of_ble_eq_true rfl) ?_
  refine lv_aload_n hx hb dX3_become_4 rfl (lv_at hl 0 rfl) ?_
  refine lv_aload_n hx hb dX3_become_5 rfl (lv_at hl 1 rfl) ?_
  refine lv_iconst (v := iI ((0 : Nat) : Int)) hx hb dX3_become_6 rfl ?_
  refine lv_aload_n hx hb dX3_become_7 rfl (lv_at hl 1 rfl) ?_
  refine k_calli (wc := [(h2, .inr (3, [.ref a2, .int (iI ((n2 : Nat) : Int))])), (a2, .inl (cI, M2, .inl g))]) (wr := [(h, .inr (3, [.ref a, .int (iI ((0 : Nat) : Int))])), (a, .inl (cI, M, .inl f))]) (wf := fun _ => [(h, .inr (3, [.ref a, .int (iI ((0 : Nat) : Int))])), (a, .inl (cI, M, .inl f)), (h2, .inr (3, [.ref a2, .int (iI ((n2 : Nat) : Int))])), (a2, .inl (cI, M2, .inl g))]) hK hP hD hS hA [2, 3] [0, 1] [0, 1, 2, 3] ⟨⟨rfl, rfl, by decide⟩, rfl, by decide, by decide⟩ (fun _ => ⟨rfl, rfl⟩) (by decide) (fun hPc hDc => va_runV (As := []) (rest := [.int (iI ((0 : Nat) : Int)), .ref h2, .ref h]) ⟨hx, hb, hml, hown, hts⟩ (c_Row_count l D cI cZ (h := h2) (a := a2) (M := M2) (n := n2) (f := g)  _) (cwV 0 hts (kgV wm216 wm193 wm194 wm39 wmcX3_count) rfl rfl rfl (by decide +kernel) ⟨Nat.le_of_ble_eq_true rfl, Nat.le_of_ble_eq_true rfl⟩) (k_preV hK hPc hDc (ci := 3) (q0 := 0) rfl rfl) rfl rfl hl.1 rfl (lv_room (Nat.le_of_ble_eq_true rfl)) dX3_become_8 ⟨Nat.le_of_ble_eq_true rfl, Nat.le_of_ble_eq_true rfl⟩) (fun r8 u H locs hw hP hD hS => ?_)
  have hP : va_P D vwCl [(h, .inr (3, [.ref a, .int (iI ((0 : Nat) : Int))])), (a, .inl (cI, M, .inl f)), (h2, .inr (3, [.ref a2, .int (iI ((n2 : Nat) : Int))])), (a2, .inl (cI, M2, .inl g))] H := hP
  have hD : va_D A [(h, .inr (3, [.ref a, .int (iI ((0 : Nat) : Int))])), (a, .inl (cI, M, .inl f)), (h2, .inr (3, [.ref a2, .int (iI ((n2 : Nat) : Int))])), (a2, .inl (cI, M2, .inl g))] := hD
  refine W.widen (k := 0) (n := 0) (Nat.le_of_ble_eq_true rfl) (Nat.le_of_ble_eq_true rfl) ?_
  have hw : r8 = iI ((n2 : Nat) : Int) := hw
  subst hw
  refine k_callv (wc := [(h, .inr (3, [.ref a, .int (iI ((0 : Nat) : Int))])), (a, .inl (cI, M, .inl f)), (h2, .inr (3, [.ref a2, .int (iI ((n2 : Nat) : Int))])), (a2, .inl (cI, M2, .inl g))]) (wr := []) (wf := fun _ => [(h, .inr (3, [.ref a, .int (iI ((0 + n2 : Nat) : Int))])), (a, .inl (cI, M, .inl (apL f 0 (sl g 0 n2)))), (h2, .inr (3, [.ref a2, .int (iI ((n2 : Nat) : Int))])), (a2, .inl (cI, M2, .inl g))]) hK hP hD hS hA [0, 1, 2, 3] [] [0, 1, 2, 3] ⟨⟨rfl, rfl, by decide⟩, rfl, by decide, by decide⟩ (fun _ => ⟨rfl, rfl⟩) (by decide) (fun hPc hDc => va_runV (As := [.ref h2, .int (iI ((0 : Nat) : Int)), .int (iI ((n2 : Nat) : Int))]) (rest := []) ⟨hx, hb, hml, hown, hts⟩ (c_Row_addFrom l D cI cZ (h := h) (a := a) (M := M) (n := 0) (f := f) (h2 := h2) (a2 := a2) (M2 := M2) (n2 := n2) (g := g) (st := 0) (k := n2) (hM := by omega) (hM2 := by omega) (hn2 := by omega) (hst := by omega) (hk := by omega) _) (cwV 3 hts (kgV wm217 wm218 wm219 wm39 wmcX3_addFrom) rfl rfl rfl (by decide +kernel) ⟨Nat.le_of_ble_eq_true rfl, Nat.le_of_ble_eq_true rfl⟩) (k_preV hK hPc hDc (ci := 3) (q0 := 0) rfl rfl) rfl rfl hl.1 rfl (lv_room (Nat.le_of_ble_eq_true rfl)) dX3_become_11 ⟨Nat.le_of_ble_eq_true rfl, Nat.le_of_ble_eq_true rfl⟩) (fun u H locs hw hP hD hS => ?_)
  have hP : va_P D vwCl [(h, .inr (3, [.ref a, .int (iI ((0 + n2 : Nat) : Int))])), (a, .inl (cI, M, .inl (apL f 0 (sl g 0 n2)))), (h2, .inr (3, [.ref a2, .int (iI ((n2 : Nat) : Int))])), (a2, .inl (cI, M2, .inl g))] H := hP
  have hD : va_D A [(h, .inr (3, [.ref a, .int (iI ((0 + n2 : Nat) : Int))])), (a, .inl (cI, M, .inl (apL f 0 (sl g 0 n2)))), (h2, .inr (3, [.ref a2, .int (iI ((n2 : Nat) : Int))])), (a2, .inl (cI, M2, .inl g))] := hD
  refine W.widen (k := 0) (n := 0) (Nat.le_of_ble_eq_true rfl) (Nat.le_of_ble_eq_true rfl) ?_
  rw [show iI ((0 + n2 : Nat) : Int) = iI ((n2 : Nat) : Int) from by rw [Nat.zero_add]] at hP hD
  exact k_vret () hx hb hr hlocks hK hP hD hS [0, 1, 2, 3] (by decide) rfl rfl (trivial) hAe hQ dX3_become_14
