abbrev rm_c_Row_init300 : Room := { frames := 1, cells := 1, slots := 300, locals := 16 }
set_option maxHeartbeats 4000000 in
set_option maxRecDepth 100000 in
theorem c_Row_init300 (l : Launch) (D : va_G) (cI cZ : ClassId) (h : Nat) (v0 : Int32)  : MV l yX3_init wsX3_init rm_c_Row_init300 D (kT cI cZ) [.ref h, .int (iI ((300 : Nat) : Int))] [(h, .inr (3, [.null, .int v0]))] (fun (_ : Nat) => True) (fun (u : Nat) => match u with | a => [(h, .inr (3, [.ref a, .int (iI ((0 : Nat) : Int))])), (a, .inl (cI, 300, .inl (fun _ => (0 : Int32))))]) 1 300 := by
  intro sz
  refine k_of (cc := cX3_init) (maxL := 2) (ret := none) (by decide) rfl (Nat.le_of_ble_eq_true rfl) ?_
  intro p e s m args below meth c A Q hAe hQ hx hb hr hml hts hown hlocks hnm hP hK hD hS hA ls hl
  have hl : lv_has ls 2 [(0, .ref h), (1, .int (iI ((300 : Nat) : Int)))] := hl
  have hi_X3 : ∀ w ∈ u_ws RX3 TX3 2, w ∈ wsX3_init := fun w h => km (ikX3 w h)
  have fl15 := hts _ (km wm62)
  have fl21 := hts _ (km wm63)
  refine lv_aload_n hx hb dX3_init_0 rfl (lv_at hl 0 rfl) ?_
  refine W.objInit hx hb hown (hts _ (km wm58)) (hts _ (km wm51)) (hts _ (km wm52)) rfl (by rw [hml]; exact hl.1) rfl dX3_init_1 (Nat.le_of_ble_eq_true rfl) (Nat.le_of_ble_eq_true rfl) ?_
  refine W.eq (g2 := F0 m 4 ls []) rfl ?_
  refine lv_aload_n hx hb dX3_init_4 rfl (lv_at hl 0 rfl) ?_
  refine lv_iload_n hx hb dX3_init_5 rfl (lv_at hl 1 rfl) ?_
  refine lv_iconst (v := iI (0 : Int)) hx hb dX3_init_6 rfl ?_
  refine va_mmax hx hb (by rw [hml]; exact hl.1.symm) hown (hts _ (km wm59)) (hts _ (km wm60)) (hts _ (km wm40)) (hts _ (km wm61)) (Nat.le_of_ble_eq_true rfl) (Nat.le_of_ble_eq_true rfl) (Nat.zero_le _) (Nat.zero_le _) dX3_init_7 ?_
  refine kn_i (imax (c := ((300 : Nat) : Int)) (by omega) (by omega)) ?_
  refine k_newa (atype := .int) (N' := 300) hx hb (hts _ (km wm69)) rfl hK 0 rfl (fun _ => rfl) hP hD hS hA (fun _ => rfl) (by omega) (Nat.le_of_ble_eq_true rfl) (Nat.le_of_ble_eq_true rfl) (Nat.le_of_ble_eq_true rfl) dX3_init_10 (fun q10 H hP hD hS => ?_)
  have hP : va_P D vwCl [(h, .inr (3, [.null, .int v0])), (q10, .inl (cI, 300, .inl (fun _ => (0 : Int32))))] H := hP
  have hD : va_D A [(h, .inr (3, [.null, .int v0])), (q10, .inl (cI, 300, .inl (fun _ => (0 : Int32))))] := hD
  refine W.widen (k := 1) (n := 300) (Nat.le_of_ble_eq_true rfl) (Nat.le_of_ble_eq_true rfl) ?_
  refine va_putF (D := D) (ci := 3) (v := .ref q10) (ty := (.array .int)) (C := RX3) (T := TX3) (N := 2) hx hb hts hi_X3 tyX3 tyX3_ok nmX3 hown hK hP hD hS 0 rfl rfl 0 (by decide) fl15 (fun _ h9 => h9) rfl hnm rfl (by decide +kernel) rfl rfl (Nat.le_of_ble_eq_true rfl) dX3_init_12 (fun H locs hP hD hS => ?_)
  have hP : va_P D vwCl [(h, .inr (3, [.ref q10, .int v0])), (q10, .inl (cI, 300, .inl (fun _ => (0 : Int32))))] H := hP
  have hD : va_D A [(h, .inr (3, [.ref q10, .int v0])), (q10, .inl (cI, 300, .inl (fun _ => (0 : Int32))))] := hD
  refine lv_aload_n hx hb dX3_init_15 rfl (lv_at hl 0 rfl) ?_
  refine lv_iconst (v := iI ((0 : Nat) : Int)) hx hb dX3_init_16 rfl ?_
  refine va_put (D := D) (ci := 3) (v := .int (iI ((0 : Nat) : Int))) (ty := .int) (C := RX3) (T := TX3) (N := 2) hx hb hts hi_X3 tyX3 tyX3_ok nmX3 hown hK hP hD hS 0 rfl rfl 1 (by decide) fl21 (fun _ h9 => h9) rfl (by decide +kernel) rfl rfl (Nat.le_of_ble_eq_true rfl) dX3_init_17 (fun H locs hP hD hS => ?_)
  have hP : va_P D vwCl [(h, .inr (3, [.ref q10, .int (iI ((0 : Nat) : Int))])), (q10, .inl (cI, 300, .inl (fun _ => (0 : Int32))))] H := hP
  have hD : va_D A [(h, .inr (3, [.ref q10, .int (iI ((0 : Nat) : Int))])), (q10, .inl (cI, 300, .inl (fun _ => (0 : Int32))))] := hD
  exact k_vret q10 hx hb hr hlocks hK hP hD hS [0, 1] (by decide) rfl rfl (trivial) hAe hQ dX3_init_20

abbrev rm_c_Row_init900 : Room := { frames := 1, cells := 1, slots := 900, locals := 16 }
set_option maxHeartbeats 4000000 in
set_option maxRecDepth 100000 in
theorem c_Row_init900 (l : Launch) (D : va_G) (cI cZ : ClassId) (h : Nat) (v0 : Int32)  : MV l yX3_init wsX3_init rm_c_Row_init900 D (kT cI cZ) [.ref h, .int (iI ((900 : Nat) : Int))] [(h, .inr (3, [.null, .int v0]))] (fun (_ : Nat) => True) (fun (u : Nat) => match u with | a => [(h, .inr (3, [.ref a, .int (iI ((0 : Nat) : Int))])), (a, .inl (cI, 900, .inl (fun _ => (0 : Int32))))]) 1 900 := by
  intro sz
  refine k_of (cc := cX3_init) (maxL := 2) (ret := none) (by decide) rfl (Nat.le_of_ble_eq_true rfl) ?_
  intro p e s m args below meth c A Q hAe hQ hx hb hr hml hts hown hlocks hnm hP hK hD hS hA ls hl
  have hl : lv_has ls 2 [(0, .ref h), (1, .int (iI ((900 : Nat) : Int)))] := hl
  have hi_X3 : ∀ w ∈ u_ws RX3 TX3 2, w ∈ wsX3_init := fun w h => km (ikX3 w h)
  have fl15 := hts _ (km wm62)
  have fl21 := hts _ (km wm63)
  refine lv_aload_n hx hb dX3_init_0 rfl (lv_at hl 0 rfl) ?_
  refine W.objInit hx hb hown (hts _ (km wm58)) (hts _ (km wm51)) (hts _ (km wm52)) rfl (by rw [hml]; exact hl.1) rfl dX3_init_1 (Nat.le_of_ble_eq_true rfl) (Nat.le_of_ble_eq_true rfl) ?_
  refine W.eq (g2 := F0 m 4 ls []) rfl ?_
  refine lv_aload_n hx hb dX3_init_4 rfl (lv_at hl 0 rfl) ?_
  refine lv_iload_n hx hb dX3_init_5 rfl (lv_at hl 1 rfl) ?_
  refine lv_iconst (v := iI (0 : Int)) hx hb dX3_init_6 rfl ?_
  refine va_mmax hx hb (by rw [hml]; exact hl.1.symm) hown (hts _ (km wm59)) (hts _ (km wm60)) (hts _ (km wm40)) (hts _ (km wm61)) (Nat.le_of_ble_eq_true rfl) (Nat.le_of_ble_eq_true rfl) (Nat.zero_le _) (Nat.zero_le _) dX3_init_7 ?_
  refine kn_i (imax (c := ((900 : Nat) : Int)) (by omega) (by omega)) ?_
  refine k_newa (atype := .int) (N' := 900) hx hb (hts _ (km wm69)) rfl hK 0 rfl (fun _ => rfl) hP hD hS hA (fun _ => rfl) (by omega) (Nat.le_of_ble_eq_true rfl) (Nat.le_of_ble_eq_true rfl) (Nat.le_of_ble_eq_true rfl) dX3_init_10 (fun q10 H hP hD hS => ?_)
  have hP : va_P D vwCl [(h, .inr (3, [.null, .int v0])), (q10, .inl (cI, 900, .inl (fun _ => (0 : Int32))))] H := hP
  have hD : va_D A [(h, .inr (3, [.null, .int v0])), (q10, .inl (cI, 900, .inl (fun _ => (0 : Int32))))] := hD
  refine W.widen (k := 1) (n := 900) (Nat.le_of_ble_eq_true rfl) (Nat.le_of_ble_eq_true rfl) ?_
  refine va_putF (D := D) (ci := 3) (v := .ref q10) (ty := (.array .int)) (C := RX3) (T := TX3) (N := 2) hx hb hts hi_X3 tyX3 tyX3_ok nmX3 hown hK hP hD hS 0 rfl rfl 0 (by decide) fl15 (fun _ h9 => h9) rfl hnm rfl (by decide +kernel) rfl rfl (Nat.le_of_ble_eq_true rfl) dX3_init_12 (fun H locs hP hD hS => ?_)
  have hP : va_P D vwCl [(h, .inr (3, [.ref q10, .int v0])), (q10, .inl (cI, 900, .inl (fun _ => (0 : Int32))))] H := hP
  have hD : va_D A [(h, .inr (3, [.ref q10, .int v0])), (q10, .inl (cI, 900, .inl (fun _ => (0 : Int32))))] := hD
  refine lv_aload_n hx hb dX3_init_15 rfl (lv_at hl 0 rfl) ?_
  refine lv_iconst (v := iI ((0 : Nat) : Int)) hx hb dX3_init_16 rfl ?_
  refine va_put (D := D) (ci := 3) (v := .int (iI ((0 : Nat) : Int))) (ty := .int) (C := RX3) (T := TX3) (N := 2) hx hb hts hi_X3 tyX3 tyX3_ok nmX3 hown hK hP hD hS 0 rfl rfl 1 (by decide) fl21 (fun _ h9 => h9) rfl (by decide +kernel) rfl rfl (Nat.le_of_ble_eq_true rfl) dX3_init_17 (fun H locs hP hD hS => ?_)
  have hP : va_P D vwCl [(h, .inr (3, [.ref q10, .int (iI ((0 : Nat) : Int))])), (q10, .inl (cI, 900, .inl (fun _ => (0 : Int32))))] H := hP
  have hD : va_D A [(h, .inr (3, [.ref q10, .int (iI ((0 : Nat) : Int))])), (q10, .inl (cI, 900, .inl (fun _ => (0 : Int32))))] := hD
  exact k_vret q10 hx hb hr hlocks hK hP hD hS [0, 1] (by decide) rfl rfl (trivial) hAe hQ dX3_init_20
