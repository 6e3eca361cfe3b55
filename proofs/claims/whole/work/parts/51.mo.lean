abbrev rm_c_Mo_nextY : Room := { frames := 0, cells := 0, slots := 0, locals := 0 }
set_option maxHeartbeats 4000000 in
set_option maxRecDepth 100000 in
theorem c_Mo_nextY (l : Launch) (D : va_G) (cI cZ : ClassId) (hm : Nat) (cd : Int32) (x1 : Nat) (x2 : Nat) (x3 : Nat) (x4 : Nat) (x5 : Nat) (x6 : Nat) (x7 : Nat) (kt : Nat) (k1 : Nat) (k2 : Nat) (k3 : Nat) (k4 : Nat) (k5 : Nat) (y1 : Nat) (y2 : Nat) (y3 : Nat) (y4 : Nat) (y5 : Nat) (y6 : Nat) (y7 : Nat) (ms : Nat) (kw : Nat) (kd : Nat) (ma : Nat) (lk : Int) (F : Nat → Nat) (hk3 : k3 ≤ 900) (hma : ma < k3) : MI l yX5_next wsX5_next rm_c_Mo_nextY D (kT cI cZ) [.ref hm] [(hm, .inr (5, [.int cd, .ref x1, .ref x2, .ref x3, .ref x4, .ref x5, .ref x6, .ref x7, .int (iI ((kt : Nat) : Int)), .int (iI ((k1 : Nat) : Int)), .int (iI ((k2 : Nat) : Int)), .int (iI ((k3 : Nat) : Int)), .int (iI ((k4 : Nat) : Int)), .int (iI ((k5 : Nat) : Int)), .ref y1, .ref y2, .ref y3, .ref y4, .ref y5, .ref y6, .ref y7, .int (iI ((ms : Nat) : Int)), .int (iI ((kw : Nat) : Int)), .int (iI ((kd : Nat) : Int)), .int (iI ((ma : Nat) : Int)), .int (iI (lk : Int))])), (x4, .inl (cI, 900, .inl (kN F)))] (fun (r : Int32) (_ : Unit) => r = iI ((F ma : Nat) : Int)) (fun (u : Unit) => match u with | _ => [(hm, .inr (5, [.int cd, .ref x1, .ref x2, .ref x3, .ref x4, .ref x5, .ref x6, .ref x7, .int (iI ((kt : Nat) : Int)), .int (iI ((k1 : Nat) : Int)), .int (iI ((k2 : Nat) : Int)), .int (iI ((k3 : Nat) : Int)), .int (iI ((k4 : Nat) : Int)), .int (iI ((k5 : Nat) : Int)), .ref y1, .ref y2, .ref y3, .ref y4, .ref y5, .ref y6, .ref y7, .int (iI ((ms : Nat) : Int)), .int (iI ((kw : Nat) : Int)), .int (iI ((kd : Nat) : Int)), .int (iI ((ma + 1 : Nat) : Int)), .int (iI (lk : Int))])), (x4, .inl (cI, 900, .inl (kN F)))]) 0 0 := by
  intro sz
  refine k_of (cc := cX5_next) (maxL := 1) (ret := (some .int)) (by decide) rfl (Nat.le_of_ble_eq_true rfl) ?_
  intro p e s m args below meth c A Q hAe hQ hx hb hr hml hts hown hlocks hnm hP hK hD hS hA ls hl
  have hl : lv_has ls 1 [(0, .ref hm)] := hl
  have hi_X5 : ∀ w ∈ u_ws RX5 TX5 26, w ∈ wsX5_next := fun w h => km (ikX5 w h)
  have fl113 := hts _ (km wm499)
  have fl67 := hts _ (km wm486)
  have fl116 := hts _ (km wm500)
  have fl19 := hts _ (km wm479)
  refine lv_aload_n hx hb dX5_next_0 rfl (lv_at hl 0 rfl) ?_
  refine va_get (D := D) (ci := 5) (v := .int (iI ((ma : Nat) : Int))) (C := RX5) (T := TX5) (N := 26) hx hb hts hi_X5 hown hK hP 0 rfl rfl 24 (by decide) fl113 (fun _ h9 => h9) rfl dX5_next_1 ?_
  refine lv_aload_n hx hb dX5_next_4 rfl (lv_at hl 0 rfl) ?_
  refine va_get (D := D) (ci := 5) (v := .int (iI ((k3 : Nat) : Int))) (C := RX5) (T := TX5) (N := 26) hx hb hts hi_X5 hown hK hP 0 rfl rfl 11 (by decide) fl67 (fun _ h9 => h9) rfl dX5_next_5 ?_
  refine lv_icmp_lt (tgt := 18) hx hb dX5_next_8 (by decide) (fun c8 => ?_) (fun c8 => ?_)
  · skip
    have c8 := iI_ltT (a := ((ma : Nat) : Int)) (b := ((k3 : Nat) : Int)) c8 (by omega)
    refine lv_aload_n hx hb dX5_next_18 rfl (lv_at hl 0 rfl) ?_
    refine lv_dup hx hb dX5_next_19 rfl ?_
    refine va_get (D := D) (ci := 5) (v := .int (iI ((ma : Nat) : Int))) (C := RX5) (T := TX5) (N := 26) hx hb hts hi_X5 hown hK hP 0 rfl rfl 24 (by decide) fl113 (fun _ h9 => h9) rfl dX5_next_20 ?_
    refine lv_iconst (v := iI (1 : Int)) hx hb dX5_next_23 rfl ?_
    refine lv_iadd hx hb dX5_next_24 ?_
    refine kn_i (iA (c := ((ma + 1 : Nat) : Int)) (by omega)) ?_
    refine va_put (D := D) (ci := 5) (v := .int (iI ((ma + 1 : Nat) : Int))) (ty := .int) (C := RX5) (T := TX5) (N := 26) hx hb hts hi_X5 tyX5 tyX5_ok nmX5 hown hK hP hD hS 0 rfl rfl 24 (by decide) fl113 (fun _ h9 => h9) rfl (by decide +kernel) rfl rfl (Nat.le_of_ble_eq_true rfl) dX5_next_25 (fun H locs hP hD hS => ?_)
    have hP : va_P D vwCl [(hm, .inr (5, [.int cd, .ref x1, .ref x2, .ref x3, .ref x4, .ref x5, .ref x6, .ref x7, .int (iI ((kt : Nat) : Int)), .int (iI ((k1 : Nat) : Int)), .int (iI ((k2 : Nat) : Int)), .int (iI ((k3 : Nat) : Int)), .int (iI ((k4 : Nat) : Int)), .int (iI ((k5 : Nat) : Int)), .ref y1, .ref y2, .ref y3, .ref y4, .ref y5, .ref y6, .ref y7, .int (iI ((ms : Nat) : Int)), .int (iI ((kw : Nat) : Int)), .int (iI ((kd : Nat) : Int)), .int (iI ((ma + 1 : Nat) : Int)), .int (iI (lk : Int))])), (x4, .inl (cI, 900, .inl (kN F)))] H := hP
    have hD : va_D A [(hm, .inr (5, [.int cd, .ref x1, .ref x2, .ref x3, .ref x4, .ref x5, .ref x6, .ref x7, .int (iI ((kt : Nat) : Int)), .int (iI ((k1 : Nat) : Int)), .int (iI ((k2 : Nat) : Int)), .int (iI ((k3 : Nat) : Int)), .int (iI ((k4 : Nat) : Int)), .int (iI ((k5 : Nat) : Int)), .ref y1, .ref y2, .ref y3, .ref y4, .ref y5, .ref y6, .ref y7, .int (iI ((ms : Nat) : Int)), .int (iI ((kw : Nat) : Int)), .int (iI ((kd : Nat) : Int)), .int (iI ((ma + 1 : Nat) : Int)), .int (iI (lk : Int))])), (x4, .inl (cI, 900, .inl (kN F)))] := hD
    refine lv_aload_n hx hb dX5_next_28 rfl (lv_at hl 0 rfl) ?_
    refine va_get (D := D) (ci := 5) (v := .ref x4) (C := RX5) (T := TX5) (N := 26) hx hb hts hi_X5 hown hK hP 0 rfl rfl 4 (by decide) fl19 (fun _ h9 => h9) rfl dX5_next_29 ?_
    refine lv_aload_n hx hb dX5_next_32 rfl (lv_at hl 0 rfl) ?_
    refine va_get (D := D) (ci := 5) (v := .int (iI ((ma + 1 : Nat) : Int))) (C := RX5) (T := TX5) (N := 26) hx hb hts hi_X5 hown hK hP 0 rfl rfl 24 (by decide) fl113 (fun _ h9 => h9) rfl dX5_next_33 ?_
    refine lv_iconst (v := iI (1 : Int)) hx hb dX5_next_36 rfl ?_
    refine lv_isub hx hb dX5_next_37 ?_
    refine kn_i (iB (c := ((ma : Nat) : Int)) (by omega)) ?_
    refine k_iald hx hb hK hP 1 0 rfl rfl ma (by omega) dX5_next_38 ?_
    refine kn_i (y := iI ((F ma : Nat) : Int)) (rfl) ?_
    exact k_iret () hx hb hr hlocks hK hP hD hS [0, 1] (by decide) rfl rfl (rfl) hAe hQ dX5_next_39
  · skip
    have c8 := iI_ltF (a := ((ma : Nat) : Int)) (b := ((k3 : Nat) : Int)) c8 (by omega)
    omega

abbrev rm_c_Mo_nextN : Room := { frames := 0, cells := 0, slots := 0, locals := 0 }
set_option maxHeartbeats 4000000 in
set_option maxRecDepth 100000 in
theorem c_Mo_nextN (l : Launch) (D : va_G) (cI cZ : ClassId) (hm : Nat) (cd : Int32) (x1 : Nat) (x2 : Nat) (x3 : Nat) (x4 : Nat) (x5 : Nat) (x6 : Nat) (x7 : Nat) (kt : Nat) (k1 : Nat) (k2 : Nat) (k3 : Nat) (k4 : Nat) (k5 : Nat) (y1 : Nat) (y2 : Nat) (y3 : Nat) (y4 : Nat) (y5 : Nat) (y6 : Nat) (y7 : Nat) (ms : Nat) (kw : Nat) (kd : Nat) (ma : Nat) (lk : Int) (hk3 : k3 ≤ 900) (hma : k3 ≤ ma ∧ ma ≤ 900) : MI l yX5_next wsX5_next rm_c_Mo_nextN D (kT cI cZ) [.ref hm] [(hm, .inr (5, [.int cd, .ref x1, .ref x2, .ref x3, .ref x4, .ref x5, .ref x6, .ref x7, .int (iI ((kt : Nat) : Int)), .int (iI ((k1 : Nat) : Int)), .int (iI ((k2 : Nat) : Int)), .int (iI ((k3 : Nat) : Int)), .int (iI ((k4 : Nat) : Int)), .int (iI ((k5 : Nat) : Int)), .ref y1, .ref y2, .ref y3, .ref y4, .ref y5, .ref y6, .ref y7, .int (iI ((ms : Nat) : Int)), .int (iI ((kw : Nat) : Int)), .int (iI ((kd : Nat) : Int)), .int (iI ((ma : Nat) : Int)), .int (iI (lk : Int))]))] (fun (r : Int32) (_ : Unit) => r = iI ((0 : Nat) : Int)) (fun (u : Unit) => match u with | _ => [(hm, .inr (5, [.int cd, .ref x1, .ref x2, .ref x3, .ref x4, .ref x5, .ref x6, .ref x7, .int (iI ((kt : Nat) : Int)), .int (iI ((k1 : Nat) : Int)), .int (iI ((k2 : Nat) : Int)), .int (iI ((k3 : Nat) : Int)), .int (iI ((k4 : Nat) : Int)), .int (iI ((k5 : Nat) : Int)), .ref y1, .ref y2, .ref y3, .ref y4, .ref y5, .ref y6, .ref y7, .int (iI ((ms : Nat) : Int)), .int (iI ((kw : Nat) : Int)), .int (iI ((kd : Nat) : Int)), .int (iI ((ma : Nat) : Int)), .int (iI (1 : Int))]))]) 0 0 := by
  intro sz
  refine k_of (cc := cX5_next) (maxL := 1) (ret := (some .int)) (by decide) rfl (Nat.le_of_ble_eq_true rfl) ?_
  intro p e s m args below meth c A Q hAe hQ hx hb hr hml hts hown hlocks hnm hP hK hD hS hA ls hl
  have hl : lv_has ls 1 [(0, .ref hm)] := hl
  have hi_X5 : ∀ w ∈ u_ws RX5 TX5 26, w ∈ wsX5_next := fun w h => km (ikX5 w h)
  have fl113 := hts _ (km wm499)
  have fl67 := hts _ (km wm486)
  have fl116 := hts _ (km wm500)
  have fl19 := hts _ (km wm479)
  refine lv_aload_n hx hb dX5_next_0 rfl (lv_at hl 0 rfl) ?_
  refine va_get (D := D) (ci := 5) (v := .int (iI ((ma : Nat) : Int))) (C := RX5) (T := TX5) (N := 26) hx hb hts hi_X5 hown hK hP 0 rfl rfl 24 (by decide) fl113 (fun _ h9 => h9) rfl dX5_next_1 ?_
  refine lv_aload_n hx hb dX5_next_4 rfl (lv_at hl 0 rfl) ?_
  refine va_get (D := D) (ci := 5) (v := .int (iI ((k3 : Nat) : Int))) (C := RX5) (T := TX5) (N := 26) hx hb hts hi_X5 hown hK hP 0 rfl rfl 11 (by decide) fl67 (fun _ h9 => h9) rfl dX5_next_5 ?_
  refine lv_icmp_lt (tgt := 18) hx hb dX5_next_8 (by decide) (fun c8 => ?_) (fun c8 => ?_)
  · skip
    have c8 := iI_ltT (a := ((ma : Nat) : Int)) (b := ((k3 : Nat) : Int)) c8 (by omega)
    omega
  · skip
    have c8 := iI_ltF (a := ((ma : Nat) : Int)) (b := ((k3 : Nat) : Int)) c8 (by omega)
    refine lv_aload_n hx hb dX5_next_11 rfl (lv_at hl 0 rfl) ?_
    refine lv_iconst (v := iI (1 : Int)) hx hb dX5_next_12 rfl ?_
    refine va_put (D := D) (ci := 5) (v := .int (iI (1 : Int))) (ty := .boolean) (C := RX5) (T := TX5) (N := 26) hx hb hts hi_X5 tyX5 tyX5_ok nmX5 hown hK hP hD hS 0 rfl rfl 25 (by decide) fl116 (fun _ h9 => h9) rfl (by decide +kernel) rfl rfl (Nat.le_of_ble_eq_true rfl) dX5_next_13 (fun H locs hP hD hS => ?_)
    have hP : va_P D vwCl [(hm, .inr (5, [.int cd, .ref x1, .ref x2, .ref x3, .ref x4, .ref x5, .ref x6, .ref x7, .int (iI ((kt : Nat) : Int)), .int (iI ((k1 : Nat) : Int)), .int (iI ((k2 : Nat) : Int)), .int (iI ((k3 : Nat) : Int)), .int (iI ((k4 : Nat) : Int)), .int (iI ((k5 : Nat) : Int)), .ref y1, .ref y2, .ref y3, .ref y4, .ref y5, .ref y6, .ref y7, .int (iI ((ms : Nat) : Int)), .int (iI ((kw : Nat) : Int)), .int (iI ((kd : Nat) : Int)), .int (iI ((ma : Nat) : Int)), .int (iI (1 : Int))]))] H := hP
    have hD : va_D A [(hm, .inr (5, [.int cd, .ref x1, .ref x2, .ref x3, .ref x4, .ref x5, .ref x6, .ref x7, .int (iI ((kt : Nat) : Int)), .int (iI ((k1 : Nat) : Int)), .int (iI ((k2 : Nat) : Int)), .int (iI ((k3 : Nat) : Int)), .int (iI ((k4 : Nat) : Int)), .int (iI ((k5 : Nat) : Int)), .ref y1, .ref y2, .ref y3, .ref y4, .ref y5, .ref y6, .ref y7, .int (iI ((ms : Nat) : Int)), .int (iI ((kw : Nat) : Int)), .int (iI ((kd : Nat) : Int)), .int (iI ((ma : Nat) : Int)), .int (iI (1 : Int))]))] := hD
    refine lv_iconst (v := iI ((0 : Nat) : Int)) hx hb dX5_next_16 rfl ?_
    exact k_iret () hx hb hr hlocks hK hP hD hS [0] (by decide) rfl rfl (rfl) hAe hQ dX5_next_17

abbrev rm_c_Mo_nextNumber : Room := { frames := 1, cells := 0, slots := 0, locals := 20 }
set_option maxHeartbeats 4000000 in
set_option maxRecDepth 100000 in
theorem c_Mo_nextNumber (l : Launch) (D : va_G) (cI cZ : ClassId) (hm : Nat) (cd : Int32) (x1 : Nat) (x2 : Nat) (x3 : Nat) (x4 : Nat) (x5 : Nat) (x6 : Nat) (x7 : Nat) (kt : Nat) (k1 : Nat) (k2 : Nat) (k3 : Nat) (k4 : Nat) (k5 : Nat) (y1 : Nat) (y2 : Nat) (y3 : Nat) (y4 : Nat) (y5 : Nat) (y6 : Nat) (y7 : Nat) (ms : Nat) (kw : Nat) (kd : Nat) (ma : Nat) (F : Nat → Nat) (hk3 : k3 ≤ 900) (hB : ∀ j, j < k3 → F j < 256) (hma : ma ≤ k3) : MI l yX5_nextNumber wsX5_nextNumber rm_c_Mo_nextNumber D (kT cI cZ) [.ref hm] [(hm, .inr (5, [.int cd, .ref x1, .ref x2, .ref x3, .ref x4, .ref x5, .ref x6, .ref x7, .int (iI ((kt : Nat) : Int)), .int (iI ((k1 : Nat) : Int)), .int (iI ((k2 : Nat) : Int)), .int (iI ((k3 : Nat) : Int)), .int (iI ((k4 : Nat) : Int)), .int (iI ((k5 : Nat) : Int)), .ref y1, .ref y2, .ref y3, .ref y4, .ref y5, .ref y6, .ref y7, .int (iI ((ms : Nat) : Int)), .int (iI ((kw : Nat) : Int)), .int (iI ((kd : Nat) : Int)), .int (iI ((ma : Nat) : Int)), .int (iI (0 : Int))])), (x4, .inl (cI, 900, .inl (kN F)))] (fun (r : Int32) (u : Nat × Int) => nnP F k3 ma r u.1 u.2) (fun (u : Nat × Int) => match u with | ⟨a9, l9⟩ => [(hm, .inr (5, [.int cd, .ref x1, .ref x2, .ref x3, .ref x4, .ref x5, .ref x6, .ref x7, .int (iI ((kt : Nat) : Int)), .int (iI ((k1 : Nat) : Int)), .int (iI ((k2 : Nat) : Int)), .int (iI ((k3 : Nat) : Int)), .int (iI ((k4 : Nat) : Int)), .int (iI ((k5 : Nat) : Int)), .ref y1, .ref y2, .ref y3, .ref y4, .ref y5, .ref y6, .ref y7, .int (iI ((ms : Nat) : Int)), .int (iI ((kw : Nat) : Int)), .int (iI ((kd : Nat) : Int)), .int (iI ((a9 : Nat) : Int)), .int (iI (l9 : Int))])), (x4, .inl (cI, 900, .inl (kN F)))]) 0 0 := by
  intro sz
  refine k_of (cc := cX5_nextNumber) (maxL := 4) (ret := (some .int)) (by decide) rfl (Nat.le_of_ble_eq_true rfl) ?_
  intro p e s m args below meth c A Q hAe hQ hx hb hr hml hts hown hlocks hnm hP hK hD hS hA ls hl
  have hl : lv_has ls 4 [(0, .ref hm)] := hl
  have hi_X5 : ∀ w ∈ u_ws RX5 TX5 26, w ∈ wsX5_nextNumber := fun w h => km (ikX5 w h)
  have fl116 := hts _ (km wm500)
  refine lv_iconst (v := iI ((0 : Nat) : Int)) hx hb dX5_nextNumber_0 rfl ?_
  refine lv_istore_n (lv' := [(1, .int (iI ((0 : Nat) : Int))), (0, .ref hm)]) hx hb dX5_nextNumber_1 rfl hl (by decide) rfl (fun ls hl => ?_)
  refine lv_iconst (v := iI ((0 : Nat) : Int)) hx hb dX5_nextNumber_2 rfl ?_
  refine lv_istore_n (lv' := [(2, .int (iI ((0 : Nat) : Int))), (1, .int (iI ((0 : Nat) : Int))), (0, .ref hm)]) hx hb dX5_nextNumber_3 rfl hl (by decide) rfl (fun ls hl => ?_)
  refine lv_sipush (v := iI ((128 : Nat) : Int)) hx hb dX5_nextNumber_4 (by decide) ?_
  refine lv_istore_n (lv' := [(3, .int (iI ((128 : Nat) : Int))), (2, .int (iI ((0 : Nat) : Int))), (1, .int (iI ((0 : Nat) : Int))), (0, .ref hm)]) hx hb dX5_nextNumber_7 rfl hl (by decide) rfl (fun ls hl => ?_)
  have lp8 : ∀ (fu : Nat) (n : Nat) (acc : Nat) (b : Nat) (a9 : Nat) (l9 : Int) (H : Heap) (locs : List Loc) (ls : Array Slot), 4 - n < fu → (n ≤ 4) → (acc < 128 ^ n) → (b < 256) → (a9 ≤ k3) → (l9 = 0 ∨ l9 = 1) → (nnL F k3 ma n acc b a9 l9) → va_P D vwCl [(hm, .inr (5, [.int cd, .ref x1, .ref x2, .ref x3, .ref x4, .ref x5, .ref x6, .ref x7, .int (iI ((kt : Nat) : Int)), .int (iI ((k1 : Nat) : Int)), .int (iI ((k2 : Nat) : Int)), .int (iI ((k3 : Nat) : Int)), .int (iI ((k4 : Nat) : Int)), .int (iI ((k5 : Nat) : Int)), .ref y1, .ref y2, .ref y3, .ref y4, .ref y5, .ref y6, .ref y7, .int (iI ((ms : Nat) : Int)), .int (iI ((kw : Nat) : Int)), .int (iI ((kd : Nat) : Int)), .int (iI ((a9 : Nat) : Int)), .int (iI (l9 : Int))])), (x4, .inl (cI, 900, .inl (kN F)))] H → va_D A [(hm, .inr (5, [.int cd, .ref x1, .ref x2, .ref x3, .ref x4, .ref x5, .ref x6, .ref x7, .int (iI ((kt : Nat) : Int)), .int (iI ((k1 : Nat) : Int)), .int (iI ((k2 : Nat) : Int)), .int (iI ((k3 : Nat) : Int)), .int (iI ((k4 : Nat) : Int)), .int (iI ((k5 : Nat) : Int)), .ref y1, .ref y2, .ref y3, .ref y4, .ref y5, .ref y6, .ref y7, .int (iI ((ms : Nat) : Int)), .int (iI ((kw : Nat) : Int)), .int (iI ((kd : Nat) : Int)), .int (iI ((a9 : Nat) : Int)), .int (iI (l9 : Int))])), (x4, .inl (cI, 900, .inl (kN F)))] → va_S A s.heap H locs → lv_has ls 4 [(0, .ref hm), (1, .int (iI ((acc : Nat) : Int))), (2, .int (iI ((n : Nat) : Int))), (3, .int (iI ((b : Nat) : Int)))] → W p l e rm_c_Mo_nextNumber s m args below meth c H locs 0 0 Q (F0 m 8 ls []) := by
    intro fu
    induction fu with
    | zero => intro n acc b a9 l9 H locs ls hfu; exact absurd hfu (Nat.not_lt_zero _)
    | succ fu ih8 =>
      intro n acc b a9 l9 H locs ls hfu hn hacc hbb ha9 hl9 hLL hP hD hS hl
      have hac2 : acc < 268435456 := Nat.lt_of_lt_of_le hacc (pw_le (by omega))
      refine lv_iload_n hx hb dX5_nextNumber_8 rfl (lv_at hl 3 rfl) ?_
      refine lv_bipush (v := iI (127 : Int)) hx hb dX5_nextNumber_9 (by decide) ?_
      refine lv_icmp_le (tgt := 49) hx hb dX5_nextNumber_11 (by decide) (fun c11 => ?_) (fun c11 => ?_)
      · skip
        have c11 := iI_leT (a := ((b : Nat) : Int)) (b := (127 : Int)) c11 (by omega)
        refine lv_iload_n hx hb dX5_nextNumber_49 rfl (lv_at hl 3 rfl) ?_
        refine lv_bipush (v := iI (127 : Int)) hx hb dX5_nextNumber_50 (by decide) ?_
        refine lv_icmp_gt (tgt := 64) hx hb dX5_nextNumber_52 (by decide) (fun c52 => ?_) (fun c52 => ?_)
        · skip
          have c52 := iI_ltT (a := (127 : Int)) (b := ((b : Nat) : Int)) c52 (by omega)
          refine lv_aload_n hx hb dX5_nextNumber_64 rfl (lv_at hl 0 rfl) ?_
          refine lv_iconst (v := iI (1 : Int)) hx hb dX5_nextNumber_65 rfl ?_
          refine va_put (D := D) (ci := 5) (v := .int (iI (1 : Int))) (ty := .boolean) (C := RX5) (T := TX5) (N := 26) hx hb hts hi_X5 tyX5 tyX5_ok nmX5 hown hK hP hD hS 0 rfl rfl 25 (by decide) fl116 (fun _ h9 => h9) rfl (by decide +kernel) rfl rfl (Nat.le_of_ble_eq_true rfl) dX5_nextNumber_66 (fun H locs hP hD hS => ?_)
          have hP : va_P D vwCl [(hm, .inr (5, [.int cd, .ref x1, .ref x2, .ref x3, .ref x4, .ref x5, .ref x6, .ref x7, .int (iI ((kt : Nat) : Int)), .int (iI ((k1 : Nat) : Int)), .int (iI ((k2 : Nat) : Int)), .int (iI ((k3 : Nat) : Int)), .int (iI ((k4 : Nat) : Int)), .int (iI ((k5 : Nat) : Int)), .ref y1, .ref y2, .ref y3, .ref y4, .ref y5, .ref y6, .ref y7, .int (iI ((ms : Nat) : Int)), .int (iI ((kw : Nat) : Int)), .int (iI ((kd : Nat) : Int)), .int (iI ((a9 : Nat) : Int)), .int (iI (1 : Int))])), (x4, .inl (cI, 900, .inl (kN F)))] H := hP
          have hD : va_D A [(hm, .inr (5, [.int cd, .ref x1, .ref x2, .ref x3, .ref x4, .ref x5, .ref x6, .ref x7, .int (iI ((kt : Nat) : Int)), .int (iI ((k1 : Nat) : Int)), .int (iI ((k2 : Nat) : Int)), .int (iI ((k3 : Nat) : Int)), .int (iI ((k4 : Nat) : Int)), .int (iI ((k5 : Nat) : Int)), .ref y1, .ref y2, .ref y3, .ref y4, .ref y5, .ref y6, .ref y7, .int (iI ((ms : Nat) : Int)), .int (iI ((kw : Nat) : Int)), .int (iI ((kd : Nat) : Int)), .int (iI ((a9 : Nat) : Int)), .int (iI (1 : Int))])), (x4, .inl (cI, 900, .inl (kN F)))] := hD
          refine lv_iload_n hx hb dX5_nextNumber_69 rfl (lv_at hl 1 rfl) ?_
          exact k_iret (a9, 1) hx hb hr hlocks hK hP hD hS [0, 1] (by decide) rfl rfl (nn_end hn ha9 hLL (by omega) (by first | (exfalso; omega) | rw [if_pos (by omega)] | rw [if_neg (by omega)])) hAe hQ dX5_nextNumber_70
        · skip
          have c52 := iI_ltF (a := (127 : Int)) (b := ((b : Nat) : Int)) c52 (by omega)
          refine lv_iload_n hx hb dX5_nextNumber_55 rfl (lv_at hl 3 rfl) ?_
          refine lv_if_ne (tgt := 69) hx hb dX5_nextNumber_56 (by decide) (fun c56 => ?_) (fun c56 => ?_)
          · skip
            have c56 := iI_eqF (a := ((b : Nat) : Int)) (b := (0 : Int)) c56 (by omega)
            refine lv_iload_n hx hb dX5_nextNumber_69 rfl (lv_at hl 1 rfl) ?_
            exact k_iret (a9, l9) hx hb hr hlocks hK hP hD hS [0, 1] (by decide) rfl rfl (nn_end hn ha9 hLL (by omega) (by first | (exfalso; omega) | rw [if_pos (by omega)] | rw [if_neg (by omega)])) hAe hQ dX5_nextNumber_70
          · skip
            have c56 := iI_eqT (a := ((b : Nat) : Int)) (b := (0 : Int)) c56 (by omega)
            refine lv_iload_n hx hb dX5_nextNumber_59 rfl (lv_at hl 2 rfl) ?_
            refine lv_iconst (v := iI (1 : Int)) hx hb dX5_nextNumber_60 rfl ?_
            refine lv_icmp_le (tgt := 69) hx hb dX5_nextNumber_61 (by decide) (fun c61 => ?_) (fun c61 => ?_)
            · skip
              have c61 := iI_leT (a := ((n : Nat) : Int)) (b := (1 : Int)) c61 (by omega)
              refine lv_iload_n hx hb dX5_nextNumber_69 rfl (lv_at hl 1 rfl) ?_
              exact k_iret (a9, l9) hx hb hr hlocks hK hP hD hS [0, 1] (by decide) rfl rfl (nn_end hn ha9 hLL (by omega) (by first | (exfalso; omega) | rw [if_pos (by omega)] | rw [if_neg (by omega)])) hAe hQ dX5_nextNumber_70
            · skip
              have c61 := iI_leF (a := ((n : Nat) : Int)) (b := (1 : Int)) c61 (by omega)
              refine lv_aload_n hx hb dX5_nextNumber_64 rfl (lv_at hl 0 rfl) ?_
              refine lv_iconst (v := iI (1 : Int)) hx hb dX5_nextNumber_65 rfl ?_
              refine va_put (D := D) (ci := 5) (v := .int (iI (1 : Int))) (ty := .boolean) (C := RX5) (T := TX5) (N := 26) hx hb hts hi_X5 tyX5 tyX5_ok nmX5 hown hK hP hD hS 0 rfl rfl 25 (by decide) fl116 (fun _ h9 => h9) rfl (by decide +kernel) rfl rfl (Nat.le_of_ble_eq_true rfl) dX5_nextNumber_66 (fun H locs hP hD hS => ?_)
              have hP : va_P D vwCl [(hm, .inr (5, [.int cd, .ref x1, .ref x2, .ref x3, .ref x4, .ref x5, .ref x6, .ref x7, .int (iI ((kt : Nat) : Int)), .int (iI ((k1 : Nat) : Int)), .int (iI ((k2 : Nat) : Int)), .int (iI ((k3 : Nat) : Int)), .int (iI ((k4 : Nat) : Int)), .int (iI ((k5 : Nat) : Int)), .ref y1, .ref y2, .ref y3, .ref y4, .ref y5, .ref y6, .ref y7, .int (iI ((ms : Nat) : Int)), .int (iI ((kw : Nat) : Int)), .int (iI ((kd : Nat) : Int)), .int (iI ((a9 : Nat) : Int)), .int (iI (1 : Int))])), (x4, .inl (cI, 900, .inl (kN F)))] H := hP
              have hD : va_D A [(hm, .inr (5, [.int cd, .ref x1, .ref x2, .ref x3, .ref x4, .ref x5, .ref x6, .ref x7, .int (iI ((kt : Nat) : Int)), .int (iI ((k1 : Nat) : Int)), .int (iI ((k2 : Nat) : Int)), .int (iI ((k3 : Nat) : Int)), .int (iI ((k4 : Nat) : Int)), .int (iI ((k5 : Nat) : Int)), .ref y1, .ref y2, .ref y3, .ref y4, .ref y5, .ref y6, .ref y7, .int (iI ((ms : Nat) : Int)), .int (iI ((kw : Nat) : Int)), .int (iI ((kd : Nat) : Int)), .int (iI ((a9 : Nat) : Int)), .int (iI (1 : Int))])), (x4, .inl (cI, 900, .inl (kN F)))] := hD
              refine lv_iload_n hx hb dX5_nextNumber_69 rfl (lv_at hl 1 rfl) ?_
              exact k_iret (a9, 1) hx hb hr hlocks hK hP hD hS [0, 1] (by decide) rfl rfl (nn_end hn ha9 hLL (by omega) (by first | (exfalso; omega) | rw [if_pos (by omega)] | rw [if_neg (by omega)])) hAe hQ dX5_nextNumber_70
      · skip
        have c11 := iI_leF (a := ((b : Nat) : Int)) (b := (127 : Int)) c11 (by omega)
        refine lv_iload_n hx hb dX5_nextNumber_14 rfl (lv_at hl 2 rfl) ?_
        refine lv_iconst (v := iI (4 : Int)) hx hb dX5_nextNumber_15 rfl ?_
        refine lv_icmp_ge (tgt := 49) hx hb dX5_nextNumber_16 (by decide) (fun c16 => ?_) (fun c16 => ?_)
        · skip
          have c16 := iI_leT (a := (4 : Int)) (b := ((n : Nat) : Int)) c16 (by omega)
          refine lv_iload_n hx hb dX5_nextNumber_49 rfl (lv_at hl 3 rfl) ?_
          refine lv_bipush (v := iI (127 : Int)) hx hb dX5_nextNumber_50 (by decide) ?_
          refine lv_icmp_gt (tgt := 64) hx hb dX5_nextNumber_52 (by decide) (fun c52 => ?_) (fun c52 => ?_)
          · skip
            have c52 := iI_ltT (a := (127 : Int)) (b := ((b : Nat) : Int)) c52 (by omega)
            refine lv_aload_n hx hb dX5_nextNumber_64 rfl (lv_at hl 0 rfl) ?_
            refine lv_iconst (v := iI (1 : Int)) hx hb dX5_nextNumber_65 rfl ?_
            refine va_put (D := D) (ci := 5) (v := .int (iI (1 : Int))) (ty := .boolean) (C := RX5) (T := TX5) (N := 26) hx hb hts hi_X5 tyX5 tyX5_ok nmX5 hown hK hP hD hS 0 rfl rfl 25 (by decide) fl116 (fun _ h9 => h9) rfl (by decide +kernel) rfl rfl (Nat.le_of_ble_eq_true rfl) dX5_nextNumber_66 (fun H locs hP hD hS => ?_)
            have hP : va_P D vwCl [(hm, .inr (5, [.int cd, .ref x1, .ref x2, .ref x3, .ref x4, .ref x5, .ref x6, .ref x7, .int (iI ((kt : Nat) : Int)), .int (iI ((k1 : Nat) : Int)), .int (iI ((k2 : Nat) : Int)), .int (iI ((k3 : Nat) : Int)), .int (iI ((k4 : Nat) : Int)), .int (iI ((k5 : Nat) : Int)), .ref y1, .ref y2, .ref y3, .ref y4, .ref y5, .ref y6, .ref y7, .int (iI ((ms : Nat) : Int)), .int (iI ((kw : Nat) : Int)), .int (iI ((kd : Nat) : Int)), .int (iI ((a9 : Nat) : Int)), .int (iI (1 : Int))])), (x4, .inl (cI, 900, .inl (kN F)))] H := hP
            have hD : va_D A [(hm, .inr (5, [.int cd, .ref x1, .ref x2, .ref x3, .ref x4, .ref x5, .ref x6, .ref x7, .int (iI ((kt : Nat) : Int)), .int (iI ((k1 : Nat) : Int)), .int (iI ((k2 : Nat) : Int)), .int (iI ((k3 : Nat) : Int)), .int (iI ((k4 : Nat) : Int)), .int (iI ((k5 : Nat) : Int)), .ref y1, .ref y2, .ref y3, .ref y4, .ref y5, .ref y6, .ref y7, .int (iI ((ms : Nat) : Int)), .int (iI ((kw : Nat) : Int)), .int (iI ((kd : Nat) : Int)), .int (iI ((a9 : Nat) : Int)), .int (iI (1 : Int))])), (x4, .inl (cI, 900, .inl (kN F)))] := hD
            refine lv_iload_n hx hb dX5_nextNumber_69 rfl (lv_at hl 1 rfl) ?_
            exact k_iret (a9, 1) hx hb hr hlocks hK hP hD hS [0, 1] (by decide) rfl rfl (nn_end hn ha9 hLL (by omega) (by first | (exfalso; omega) | rw [if_pos (by omega)] | rw [if_neg (by omega)])) hAe hQ dX5_nextNumber_70
          · skip
            have c52 := iI_ltF (a := (127 : Int)) (b := ((b : Nat) : Int)) c52 (by omega)
            refine lv_iload_n hx hb dX5_nextNumber_55 rfl (lv_at hl 3 rfl) ?_
            refine lv_if_ne (tgt := 69) hx hb dX5_nextNumber_56 (by decide) (fun c56 => ?_) (fun c56 => ?_)
            · skip
              have c56 := iI_eqF (a := ((b : Nat) : Int)) (b := (0 : Int)) c56 (by omega)
              refine lv_iload_n hx hb dX5_nextNumber_69 rfl (lv_at hl 1 rfl) ?_
              exact k_iret (a9, l9) hx hb hr hlocks hK hP hD hS [0, 1] (by decide) rfl rfl (nn_end hn ha9 hLL (by omega) (by first | (exfalso; omega) | rw [if_pos (by omega)] | rw [if_neg (by omega)])) hAe hQ dX5_nextNumber_70
            · skip
              have c56 := iI_eqT (a := ((b : Nat) : Int)) (b := (0 : Int)) c56 (by omega)
              refine lv_iload_n hx hb dX5_nextNumber_59 rfl (lv_at hl 2 rfl) ?_
              refine lv_iconst (v := iI (1 : Int)) hx hb dX5_nextNumber_60 rfl ?_
              refine lv_icmp_le (tgt := 69) hx hb dX5_nextNumber_61 (by decide) (fun c61 => ?_) (fun c61 => ?_)
              · skip
                have c61 := iI_leT (a := ((n : Nat) : Int)) (b := (1 : Int)) c61 (by omega)
                refine lv_iload_n hx hb dX5_nextNumber_69 rfl (lv_at hl 1 rfl) ?_
                exact k_iret (a9, l9) hx hb hr hlocks hK hP hD hS [0, 1] (by decide) rfl rfl (nn_end hn ha9 hLL (by omega) (by first | (exfalso; omega) | rw [if_pos (by omega)] | rw [if_neg (by omega)])) hAe hQ dX5_nextNumber_70
              · skip
                have c61 := iI_leF (a := ((n : Nat) : Int)) (b := (1 : Int)) c61 (by omega)
                refine lv_aload_n hx hb dX5_nextNumber_64 rfl (lv_at hl 0 rfl) ?_
                refine lv_iconst (v := iI (1 : Int)) hx hb dX5_nextNumber_65 rfl ?_
                refine va_put (D := D) (ci := 5) (v := .int (iI (1 : Int))) (ty := .boolean) (C := RX5) (T := TX5) (N := 26) hx hb hts hi_X5 tyX5 tyX5_ok nmX5 hown hK hP hD hS 0 rfl rfl 25 (by decide) fl116 (fun _ h9 => h9) rfl (by decide +kernel) rfl rfl (Nat.le_of_ble_eq_true rfl) dX5_nextNumber_66 (fun H locs hP hD hS => ?_)
                have hP : va_P D vwCl [(hm, .inr (5, [.int cd, .ref x1, .ref x2, .ref x3, .ref x4, .ref x5, .ref x6, .ref x7, .int (iI ((kt : Nat) : Int)), .int (iI ((k1 : Nat) : Int)), .int (iI ((k2 : Nat) : Int)), .int (iI ((k3 : Nat) : Int)), .int (iI ((k4 : Nat) : Int)), .int (iI ((k5 : Nat) : Int)), .ref y1, .ref y2, .ref y3, .ref y4, .ref y5, .ref y6, .ref y7, .int (iI ((ms : Nat) : Int)), .int (iI ((kw : Nat) : Int)), .int (iI ((kd : Nat) : Int)), .int (iI ((a9 : Nat) : Int)), .int (iI (1 : Int))])), (x4, .inl (cI, 900, .inl (kN F)))] H := hP
                have hD : va_D A [(hm, .inr (5, [.int cd, .ref x1, .ref x2, .ref x3, .ref x4, .ref x5, .ref x6, .ref x7, .int (iI ((kt : Nat) : Int)), .int (iI ((k1 : Nat) : Int)), .int (iI ((k2 : Nat) : Int)), .int (iI ((k3 : Nat) : Int)), .int (iI ((k4 : Nat) : Int)), .int (iI ((k5 : Nat) : Int)), .ref y1, .ref y2, .ref y3, .ref y4, .ref y5, .ref y6, .ref y7, .int (iI ((ms : Nat) : Int)), .int (iI ((kw : Nat) : Int)), .int (iI ((kd : Nat) : Int)), .int (iI ((a9 : Nat) : Int)), .int (iI (1 : Int))])), (x4, .inl (cI, 900, .inl (kN F)))] := hD
                refine lv_iload_n hx hb dX5_nextNumber_69 rfl (lv_at hl 1 rfl) ?_
                exact k_iret (a9, 1) hx hb hr hlocks hK hP hD hS [0, 1] (by decide) rfl rfl (nn_end hn ha9 hLL (by omega) (by first | (exfalso; omega) | rw [if_pos (by omega)] | rw [if_neg (by omega)])) hAe hQ dX5_nextNumber_70
        · skip
          have c16 := iI_leF (a := (4 : Int)) (b := ((n : Nat) : Int)) c16 (by omega)
          refine lv_aload_n hx hb dX5_nextNumber_19 rfl (lv_at hl 0 rfl) ?_
          refine va_get (D := D) (ci := 5) (v := .int (iI (l9 : Int))) (C := RX5) (T := TX5) (N := 26) hx hb hts hi_X5 hown hK hP 0 rfl rfl 25 (by decide) fl116 (fun _ h9 => h9) rfl dX5_nextNumber_20 ?_
          refine lv_if_ne (tgt := 49) hx hb dX5_nextNumber_23 (by decide) (fun c23 => ?_) (fun c23 => ?_)
          · skip
            have c23 := iI_eqF (a := (l9 : Int)) (b := (0 : Int)) c23 (by omega)
            refine lv_iload_n hx hb dX5_nextNumber_49 rfl (lv_at hl 3 rfl) ?_
            refine lv_bipush (v := iI (127 : Int)) hx hb dX5_nextNumber_50 (by decide) ?_
            refine lv_icmp_gt (tgt := 64) hx hb dX5_nextNumber_52 (by decide) (fun c52 => ?_) (fun c52 => ?_)
            · skip
              have c52 := iI_ltT (a := (127 : Int)) (b := ((b : Nat) : Int)) c52 (by omega)
              refine lv_aload_n hx hb dX5_nextNumber_64 rfl (lv_at hl 0 rfl) ?_
              refine lv_iconst (v := iI (1 : Int)) hx hb dX5_nextNumber_65 rfl ?_
              refine va_put (D := D) (ci := 5) (v := .int (iI (1 : Int))) (ty := .boolean) (C := RX5) (T := TX5) (N := 26) hx hb hts hi_X5 tyX5 tyX5_ok nmX5 hown hK hP hD hS 0 rfl rfl 25 (by decide) fl116 (fun _ h9 => h9) rfl (by decide +kernel) rfl rfl (Nat.le_of_ble_eq_true rfl) dX5_nextNumber_66 (fun H locs hP hD hS => ?_)
              have hP : va_P D vwCl [(hm, .inr (5, [.int cd, .ref x1, .ref x2, .ref x3, .ref x4, .ref x5, .ref x6, .ref x7, .int (iI ((kt : Nat) : Int)), .int (iI ((k1 : Nat) : Int)), .int (iI ((k2 : Nat) : Int)), .int (iI ((k3 : Nat) : Int)), .int (iI ((k4 : Nat) : Int)), .int (iI ((k5 : Nat) : Int)), .ref y1, .ref y2, .ref y3, .ref y4, .ref y5, .ref y6, .ref y7, .int (iI ((ms : Nat) : Int)), .int (iI ((kw : Nat) : Int)), .int (iI ((kd : Nat) : Int)), .int (iI ((a9 : Nat) : Int)), .int (iI (1 : Int))])), (x4, .inl (cI, 900, .inl (kN F)))] H := hP
              have hD : va_D A [(hm, .inr (5, [.int cd, .ref x1, .ref x2, .ref x3, .ref x4, .ref x5, .ref x6, .ref x7, .int (iI ((kt : Nat) : Int)), .int (iI ((k1 : Nat) : Int)), .int (iI ((k2 : Nat) : Int)), .int (iI ((k3 : Nat) : Int)), .int (iI ((k4 : Nat) : Int)), .int (iI ((k5 : Nat) : Int)), .ref y1, .ref y2, .ref y3, .ref y4, .ref y5, .ref y6, .ref y7, .int (iI ((ms : Nat) : Int)), .int (iI ((kw : Nat) : Int)), .int (iI ((kd : Nat) : Int)), .int (iI ((a9 : Nat) : Int)), .int (iI (1 : Int))])), (x4, .inl (cI, 900, .inl (kN F)))] := hD
              refine lv_iload_n hx hb dX5_nextNumber_69 rfl (lv_at hl 1 rfl) ?_
              exact k_iret (a9, 1) hx hb hr hlocks hK hP hD hS [0, 1] (by decide) rfl rfl (nn_end hn ha9 hLL (by omega) (by first | (exfalso; omega) | rw [if_pos (by omega)] | rw [if_neg (by omega)])) hAe hQ dX5_nextNumber_70
            · skip
              have c52 := iI_ltF (a := (127 : Int)) (b := ((b : Nat) : Int)) c52 (by omega)
              refine lv_iload_n hx hb dX5_nextNumber_55 rfl (lv_at hl 3 rfl) ?_
              refine lv_if_ne (tgt := 69) hx hb dX5_nextNumber_56 (by decide) (fun c56 => ?_) (fun c56 => ?_)
              · skip
                have c56 := iI_eqF (a := ((b : Nat) : Int)) (b := (0 : Int)) c56 (by omega)
                refine lv_iload_n hx hb dX5_nextNumber_69 rfl (lv_at hl 1 rfl) ?_
                exact k_iret (a9, l9) hx hb hr hlocks hK hP hD hS [0, 1] (by decide) rfl rfl (nn_end hn ha9 hLL (by omega) (by first | (exfalso; omega) | rw [if_pos (by omega)] | rw [if_neg (by omega)])) hAe hQ dX5_nextNumber_70
              · skip
                have c56 := iI_eqT (a := ((b : Nat) : Int)) (b := (0 : Int)) c56 (by omega)
                refine lv_iload_n hx hb dX5_nextNumber_59 rfl (lv_at hl 2 rfl) ?_
                refine lv_iconst (v := iI (1 : Int)) hx hb dX5_nextNumber_60 rfl ?_
                refine lv_icmp_le (tgt := 69) hx hb dX5_nextNumber_61 (by decide) (fun c61 => ?_) (fun c61 => ?_)
                · skip
                  have c61 := iI_leT (a := ((n : Nat) : Int)) (b := (1 : Int)) c61 (by omega)
                  refine lv_iload_n hx hb dX5_nextNumber_69 rfl (lv_at hl 1 rfl) ?_
                  exact k_iret (a9, l9) hx hb hr hlocks hK hP hD hS [0, 1] (by decide) rfl rfl (nn_end hn ha9 hLL (by omega) (by first | (exfalso; omega) | rw [if_pos (by omega)] | rw [if_neg (by omega)])) hAe hQ dX5_nextNumber_70
                · skip
                  have c61 := iI_leF (a := ((n : Nat) : Int)) (b := (1 : Int)) c61 (by omega)
                  refine lv_aload_n hx hb dX5_nextNumber_64 rfl (lv_at hl 0 rfl) ?_
                  refine lv_iconst (v := iI (1 : Int)) hx hb dX5_nextNumber_65 rfl ?_
                  refine va_put (D := D) (ci := 5) (v := .int (iI (1 : Int))) (ty := .boolean) (C := RX5) (T := TX5) (N := 26) hx hb hts hi_X5 tyX5 tyX5_ok nmX5 hown hK hP hD hS 0 rfl rfl 25 (by decide) fl116 (fun _ h9 => h9) rfl (by decide +kernel) rfl rfl (Nat.le_of_ble_eq_true rfl) dX5_nextNumber_66 (fun H locs hP hD hS => ?_)
                  have hP : va_P D vwCl [(hm, .inr (5, [.int cd, .ref x1, .ref x2, .ref x3, .ref x4, .ref x5, .ref x6, .ref x7, .int (iI ((kt : Nat) : Int)), .int (iI ((k1 : Nat) : Int)), .int (iI ((k2 : Nat) : Int)), .int (iI ((k3 : Nat) : Int)), .int (iI ((k4 : Nat) : Int)), .int (iI ((k5 : Nat) : Int)), .ref y1, .ref y2, .ref y3, .ref y4, .ref y5, .ref y6, .ref y7, .int (iI ((ms : Nat) : Int)), .int (iI ((kw : Nat) : Int)), .int (iI ((kd : Nat) : Int)), .int (iI ((a9 : Nat) : Int)), .int (iI (1 : Int))])), (x4, .inl (cI, 900, .inl (kN F)))] H := hP
                  have hD : va_D A [(hm, .inr (5, [.int cd, .ref x1, .ref x2, .ref x3, .ref x4, .ref x5, .ref x6, .ref x7, .int (iI ((kt : Nat) : Int)), .int (iI ((k1 : Nat) : Int)), .int (iI ((k2 : Nat) : Int)), .int (iI ((k3 : Nat) : Int)), .int (iI ((k4 : Nat) : Int)), .int (iI ((k5 : Nat) : Int)), .ref y1, .ref y2, .ref y3, .ref y4, .ref y5, .ref y6, .ref y7, .int (iI ((ms : Nat) : Int)), .int (iI ((kw : Nat) : Int)), .int (iI ((kd : Nat) : Int)), .int (iI ((a9 : Nat) : Int)), .int (iI (1 : Int))])), (x4, .inl (cI, 900, .inl (kN F)))] := hD
                  refine lv_iload_n hx hb dX5_nextNumber_69 rfl (lv_at hl 1 rfl) ?_
                  exact k_iret (a9, 1) hx hb hr hlocks hK hP hD hS [0, 1] (by decide) rfl rfl (nn_end hn ha9 hLL (by omega) (by first | (exfalso; omega) | rw [if_pos (by omega)] | rw [if_neg (by omega)])) hAe hQ dX5_nextNumber_70
          · skip
            have c23 := iI_eqT (a := (l9 : Int)) (b := (0 : Int)) c23 (by omega)
            rcases (show (a9 < k3) ∨ (¬ a9 < k3) by omega) with hat9 | hat9
            · skip
              refine lv_aload_n hx hb dX5_nextNumber_26 rfl (lv_at hl 0 rfl) ?_
              refine k_calli (wc := [(hm, .inr (5, [.int cd, .ref x1, .ref x2, .ref x3, .ref x4, .ref x5, .ref x6, .ref x7, .int (iI ((kt : Nat) : Int)), .int (iI ((k1 : Nat) : Int)), .int (iI ((k2 : Nat) : Int)), .int (iI ((k3 : Nat) : Int)), .int (iI ((k4 : Nat) : Int)), .int (iI ((k5 : Nat) : Int)), .ref y1, .ref y2, .ref y3, .ref y4, .ref y5, .ref y6, .ref y7, .int (iI ((ms : Nat) : Int)), .int (iI ((kw : Nat) : Int)), .int (iI ((kd : Nat) : Int)), .int (iI ((a9 : Nat) : Int)), .int (iI (l9 : Int))])), (x4, .inl (cI, 900, .inl (kN F)))]) (wr := []) (wf := fun _ => [(hm, .inr (5, [.int cd, .ref x1, .ref x2, .ref x3, .ref x4, .ref x5, .ref x6, .ref x7, .int (iI ((kt : Nat) : Int)), .int (iI ((k1 : Nat) : Int)), .int (iI ((k2 : Nat) : Int)), .int (iI ((k3 : Nat) : Int)), .int (iI ((k4 : Nat) : Int)), .int (iI ((k5 : Nat) : Int)), .ref y1, .ref y2, .ref y3, .ref y4, .ref y5, .ref y6, .ref y7, .int (iI ((ms : Nat) : Int)), .int (iI ((kw : Nat) : Int)), .int (iI ((kd : Nat) : Int)), .int (iI ((a9 + 1 : Nat) : Int)), .int (iI (l9 : Int))])), (x4, .inl (cI, 900, .inl (kN F)))]) hK hP hD hS hA [0, 1] [] [0, 1] ⟨⟨rfl, rfl, by decide⟩, rfl, by decide, by decide⟩ (fun _ => ⟨rfl, rfl⟩) (by decide) (fun hPc hDc => va_runV (As := []) (rest := []) ⟨hx, hb, hml, hown, hts⟩ (c_Mo_nextY l D cI cZ (hm := hm) (cd := cd) (x1 := x1) (x2 := x2) (x3 := x3) (x4 := x4) (x5 := x5) (x6 := x6) (x7 := x7) (kt := kt) (k1 := k1) (k2 := k2) (k3 := k3) (k4 := k4) (k5 := k5) (y1 := y1) (y2 := y2) (y3 := y3) (y4 := y4) (y5 := y5) (y6 := y6) (y7 := y7) (ms := ms) (kw := kw) (kd := kd) (ma := a9) (lk := l9) (F := F) (hk3 := by omega) (hma := by omega) _) (cwV 0 hts (kgV wm632 wm634 wm32 wm44 wmcX5_next) rfl rfl rfl (by decide +kernel) ⟨Nat.le_of_ble_eq_true rfl, Nat.le_of_ble_eq_true rfl⟩) (k_preV hK hPc hDc (ci := 5) (q0 := 0) rfl rfl) rfl rfl hl.1 rfl (lv_room (Nat.le_of_ble_eq_true rfl)) dX5_nextNumber_27 ⟨Nat.le_of_ble_eq_true rfl, Nat.le_of_ble_eq_true rfl⟩) (fun r27 u H locs hw hP hD hS => ?_)
              have hP : va_P D vwCl [(hm, .inr (5, [.int cd, .ref x1, .ref x2, .ref x3, .ref x4, .ref x5, .ref x6, .ref x7, .int (iI ((kt : Nat) : Int)), .int (iI ((k1 : Nat) : Int)), .int (iI ((k2 : Nat) : Int)), .int (iI ((k3 : Nat) : Int)), .int (iI ((k4 : Nat) : Int)), .int (iI ((k5 : Nat) : Int)), .ref y1, .ref y2, .ref y3, .ref y4, .ref y5, .ref y6, .ref y7, .int (iI ((ms : Nat) : Int)), .int (iI ((kw : Nat) : Int)), .int (iI ((kd : Nat) : Int)), .int (iI ((a9 + 1 : Nat) : Int)), .int (iI (l9 : Int))])), (x4, .inl (cI, 900, .inl (kN F)))] H := hP
              have hD : va_D A [(hm, .inr (5, [.int cd, .ref x1, .ref x2, .ref x3, .ref x4, .ref x5, .ref x6, .ref x7, .int (iI ((kt : Nat) : Int)), .int (iI ((k1 : Nat) : Int)), .int (iI ((k2 : Nat) : Int)), .int (iI ((k3 : Nat) : Int)), .int (iI ((k4 : Nat) : Int)), .int (iI ((k5 : Nat) : Int)), .ref y1, .ref y2, .ref y3, .ref y4, .ref y5, .ref y6, .ref y7, .int (iI ((ms : Nat) : Int)), .int (iI ((kw : Nat) : Int)), .int (iI ((kd : Nat) : Int)), .int (iI ((a9 + 1 : Nat) : Int)), .int (iI (l9 : Int))])), (x4, .inl (cI, 900, .inl (kN F)))] := hD
              refine W.widen (k := 0) (n := 0) (Nat.le_of_ble_eq_true rfl) (Nat.le_of_ble_eq_true rfl) ?_
              have hw : r27 = iI ((F a9 : Nat) : Int) := hw
              subst hw
              have hb9 := hB a9 hat9
              refine lv_istore_n (lv' := [(3, .int (iI ((F a9 : Nat) : Int))), (0, .ref hm), (1, .int (iI ((acc : Nat) : Int))), (2, .int (iI ((n : Nat) : Int)))]) hx hb dX5_nextNumber_30 rfl hl (by decide) rfl (fun ls hl => ?_)
              refine lv_iload_n hx hb dX5_nextNumber_31 rfl (lv_at hl 2 rfl) ?_
              refine lv_iload_n hx hb dX5_nextNumber_32 rfl (lv_at hl 0 rfl) ?_
              refine lv_bipush (v := iI (127 : Int)) hx hb dX5_nextNumber_33 (by decide) ?_
              refine lv_iand hx hb dX5_nextNumber_35 ?_
              refine kn_i (y := iI ((F a9 % 128 : Nat) : Int)) (b_and127 (by omega)) ?_
              refine lv_bipush (v := iI (7 : Int)) hx hb dX5_nextNumber_36 (by decide) ?_
              refine lv_iload_n hx hb dX5_nextNumber_38 rfl (lv_at hl 3 rfl) ?_
              refine lv_imul hx hb dX5_nextNumber_39 ?_
              refine kn_i (iM (c := ((7 * n : Nat) : Int)) (by omega)) ?_
              refine lv_ishl hx hb dX5_nextNumber_40 ?_
              refine lv_ior hx hb dX5_nextNumber_41 ?_
              refine kn_i (y := iI ((acc + F a9 % 128 * 128 ^ n : Nat) : Int)) (b_vor (by omega) hacc (by first | exact Nat.mod_lt _ (by decide) | decide)) ?_
              refine lv_istore_n (lv' := [(1, .int (iI ((acc + F a9 % 128 * 128 ^ n : Nat) : Int))), (3, .int (iI ((F a9 : Nat) : Int))), (0, .ref hm), (2, .int (iI ((n : Nat) : Int)))]) hx hb dX5_nextNumber_42 rfl hl (by decide) rfl (fun ls hl => ?_)
              refine lv_iinc (v := iI ((n + 1 : Nat) : Int)) (lv' := [(2, .int (iI ((n + 1 : Nat) : Int))), (1, .int (iI ((acc + F a9 % 128 * 128 ^ n : Nat) : Int))), (3, .int (iI ((F a9 : Nat) : Int))), (0, .ref hm)]) hx hb dX5_nextNumber_43 hl (k := 3) rfl (iA (by omega)) (by decide) rfl (fun ls hl => ?_)
              refine lv_goto (tgt := 8) hx hb dX5_nextNumber_46 (by decide) ?_
              exact ih8 (n + 1) (acc + F a9 % 128 * 128 ^ n) (F a9) (a9 + 1) l9 _ _ _ (by omega) (by omega) (pw_acc hacc) (by omega) (by omega) (by omega) (nn_y (by omega) (by omega) hat9 hLL) hP hD hS (lv_sub hl [3, 1, 0, 2] rfl)
            · skip
              refine lv_aload_n hx hb dX5_nextNumber_26 rfl (lv_at hl 0 rfl) ?_
              refine k_calli (wc := [(hm, .inr (5, [.int cd, .ref x1, .ref x2, .ref x3, .ref x4, .ref x5, .ref x6, .ref x7, .int (iI ((kt : Nat) : Int)), .int (iI ((k1 : Nat) : Int)), .int (iI ((k2 : Nat) : Int)), .int (iI ((k3 : Nat) : Int)), .int (iI ((k4 : Nat) : Int)), .int (iI ((k5 : Nat) : Int)), .ref y1, .ref y2, .ref y3, .ref y4, .ref y5, .ref y6, .ref y7, .int (iI ((ms : Nat) : Int)), .int (iI ((kw : Nat) : Int)), .int (iI ((kd : Nat) : Int)), .int (iI ((a9 : Nat) : Int)), .int (iI (l9 : Int))]))]) (wr := [(x4, .inl (cI, 900, .inl (kN F)))]) (wf := fun _ => [(hm, .inr (5, [.int cd, .ref x1, .ref x2, .ref x3, .ref x4, .ref x5, .ref x6, .ref x7, .int (iI ((kt : Nat) : Int)), .int (iI ((k1 : Nat) : Int)), .int (iI ((k2 : Nat) : Int)), .int (iI ((k3 : Nat) : Int)), .int (iI ((k4 : Nat) : Int)), .int (iI ((k5 : Nat) : Int)), .ref y1, .ref y2, .ref y3, .ref y4, .ref y5, .ref y6, .ref y7, .int (iI ((ms : Nat) : Int)), .int (iI ((kw : Nat) : Int)), .int (iI ((kd : Nat) : Int)), .int (iI ((a9 : Nat) : Int)), .int (iI (1 : Int))])), (x4, .inl (cI, 900, .inl (kN F)))]) hK hP hD hS hA [0] [1] [1, 0] ⟨⟨rfl, rfl, by decide⟩, rfl, by decide, by decide⟩ (fun _ => ⟨rfl, rfl⟩) (by decide) (fun hPc hDc => va_runV (As := []) (rest := []) ⟨hx, hb, hml, hown, hts⟩ (c_Mo_nextN l D cI cZ (hm := hm) (cd := cd) (x1 := x1) (x2 := x2) (x3 := x3) (x4 := x4) (x5 := x5) (x6 := x6) (x7 := x7) (kt := kt) (k1 := k1) (k2 := k2) (k3 := k3) (k4 := k4) (k5 := k5) (y1 := y1) (y2 := y2) (y3 := y3) (y4 := y4) (y5 := y5) (y6 := y6) (y7 := y7) (ms := ms) (kw := kw) (kd := kd) (ma := a9) (lk := l9) (hk3 := by omega) (hma := by omega) _) (cwV 0 hts (kgV wm632 wm634 wm32 wm44 wmcX5_next) rfl rfl rfl (by decide +kernel) ⟨Nat.le_of_ble_eq_true rfl, Nat.le_of_ble_eq_true rfl⟩) (k_preV hK hPc hDc (ci := 5) (q0 := 0) rfl rfl) rfl rfl hl.1 rfl (lv_room (Nat.le_of_ble_eq_true rfl)) dX5_nextNumber_27 ⟨Nat.le_of_ble_eq_true rfl, Nat.le_of_ble_eq_true rfl⟩) (fun r27 u H locs hw hP hD hS => ?_)
              have hP : va_P D vwCl [(hm, .inr (5, [.int cd, .ref x1, .ref x2, .ref x3, .ref x4, .ref x5, .ref x6, .ref x7, .int (iI ((kt : Nat) : Int)), .int (iI ((k1 : Nat) : Int)), .int (iI ((k2 : Nat) : Int)), .int (iI ((k3 : Nat) : Int)), .int (iI ((k4 : Nat) : Int)), .int (iI ((k5 : Nat) : Int)), .ref y1, .ref y2, .ref y3, .ref y4, .ref y5, .ref y6, .ref y7, .int (iI ((ms : Nat) : Int)), .int (iI ((kw : Nat) : Int)), .int (iI ((kd : Nat) : Int)), .int (iI ((a9 : Nat) : Int)), .int (iI (1 : Int))])), (x4, .inl (cI, 900, .inl (kN F)))] H := hP
              have hD : va_D A [(hm, .inr (5, [.int cd, .ref x1, .ref x2, .ref x3, .ref x4, .ref x5, .ref x6, .ref x7, .int (iI ((kt : Nat) : Int)), .int (iI ((k1 : Nat) : Int)), .int (iI ((k2 : Nat) : Int)), .int (iI ((k3 : Nat) : Int)), .int (iI ((k4 : Nat) : Int)), .int (iI ((k5 : Nat) : Int)), .ref y1, .ref y2, .ref y3, .ref y4, .ref y5, .ref y6, .ref y7, .int (iI ((ms : Nat) : Int)), .int (iI ((kw : Nat) : Int)), .int (iI ((kd : Nat) : Int)), .int (iI ((a9 : Nat) : Int)), .int (iI (1 : Int))])), (x4, .inl (cI, 900, .inl (kN F)))] := hD
              refine W.widen (k := 0) (n := 0) (Nat.le_of_ble_eq_true rfl) (Nat.le_of_ble_eq_true rfl) ?_
              have hw : r27 = iI ((0 : Nat) : Int) := hw
              subst hw
              refine lv_istore_n (lv' := [(3, .int (iI ((0 : Nat) : Int))), (0, .ref hm), (1, .int (iI ((acc : Nat) : Int))), (2, .int (iI ((n : Nat) : Int)))]) hx hb dX5_nextNumber_30 rfl hl (by decide) rfl (fun ls hl => ?_)
              refine lv_iload_n hx hb dX5_nextNumber_31 rfl (lv_at hl 2 rfl) ?_
              refine lv_iload_n hx hb dX5_nextNumber_32 rfl (lv_at hl 0 rfl) ?_
              refine lv_bipush (v := iI (127 : Int)) hx hb dX5_nextNumber_33 (by decide) ?_
              refine lv_iand hx hb dX5_nextNumber_35 ?_
              refine kn_i (y := iI ((0 : Nat) : Int)) (b_and127 (v := 0) (by decide)) ?_
              refine lv_bipush (v := iI (7 : Int)) hx hb dX5_nextNumber_36 (by decide) ?_
              refine lv_iload_n hx hb dX5_nextNumber_38 rfl (lv_at hl 3 rfl) ?_
              refine lv_imul hx hb dX5_nextNumber_39 ?_
              refine kn_i (iM (c := ((7 * n : Nat) : Int)) (by omega)) ?_
              refine lv_ishl hx hb dX5_nextNumber_40 ?_
              refine lv_ior hx hb dX5_nextNumber_41 ?_
              refine kn_i (y := iI ((acc + 0 * 128 ^ n : Nat) : Int)) (b_vor (by omega) hacc (by first | exact Nat.mod_lt _ (by decide) | decide)) ?_
              refine lv_istore_n (lv' := [(1, .int (iI ((acc + 0 * 128 ^ n : Nat) : Int))), (3, .int (iI ((0 : Nat) : Int))), (0, .ref hm), (2, .int (iI ((n : Nat) : Int)))]) hx hb dX5_nextNumber_42 rfl hl (by decide) rfl (fun ls hl => ?_)
              refine lv_iinc (v := iI ((n + 1 : Nat) : Int)) (lv' := [(2, .int (iI ((n + 1 : Nat) : Int))), (1, .int (iI ((acc + 0 * 128 ^ n : Nat) : Int))), (3, .int (iI ((0 : Nat) : Int))), (0, .ref hm)]) hx hb dX5_nextNumber_43 hl (k := 3) rfl (iA (by omega)) (by decide) rfl (fun ls hl => ?_)
              refine lv_goto (tgt := 8) hx hb dX5_nextNumber_46 (by decide) ?_
              exact ih8 (n + 1) (acc + 0 * 128 ^ n) 0 a9 1 _ _ _ (by omega) (by omega) (by have h9 := pw_acc (b := 0) hacc; simpa using h9) (by omega) (by omega) (by omega) (nn_n (by omega) (by omega) hat9 hLL) hP hD hS (lv_sub hl [3, 1, 0, 2] rfl)
  exact lp8 _ 0 0 128 ma 0 _ _ _ (Nat.lt_succ_self _) (by omega) (by decide) (by omega) (by omega) (by omega) (Or.inl ⟨rfl, fun _ => rfl, fun h => absurd h (by decide)⟩) hP hD hS (lv_sub hl [3, 2, 1, 0] rfl)

abbrev rm_c_Mo_nextCheck : Room := { frames := 1, cells := 0, slots := 0, locals := 20 }
set_option maxHeartbeats 4000000 in
set_option maxRecDepth 100000 in
theorem c_Mo_nextCheck (l : Launch) (D : va_G) (cI cZ : ClassId) (hm : Nat) (cd : Int32) (x1 : Nat) (x2 : Nat) (x3 : Nat) (x4 : Nat) (x5 : Nat) (x6 : Nat) (x7 : Nat) (kt : Nat) (k1 : Nat) (k2 : Nat) (k3 : Nat) (k4 : Nat) (k5 : Nat) (y1 : Nat) (y2 : Nat) (y3 : Nat) (y4 : Nat) (y5 : Nat) (y6 : Nat) (y7 : Nat) (ms : Nat) (kw : Nat) (kd : Nat) (ma : Nat) (lk : Int) (F : Nat → Nat) (hk3 : k3 ≤ 900) (hB : ∀ j, j < k3 → F j < 256) (hma : ma ≤ k3) : MI l yX5_nextCheck wsX5_nextCheck rm_c_Mo_nextCheck D (kT cI cZ) [.ref hm] [(hm, .inr (5, [.int cd, .ref x1, .ref x2, .ref x3, .ref x4, .ref x5, .ref x6, .ref x7, .int (iI ((kt : Nat) : Int)), .int (iI ((k1 : Nat) : Int)), .int (iI ((k2 : Nat) : Int)), .int (iI ((k3 : Nat) : Int)), .int (iI ((k4 : Nat) : Int)), .int (iI ((k5 : Nat) : Int)), .ref y1, .ref y2, .ref y3, .ref y4, .ref y5, .ref y6, .ref y7, .int (iI ((ms : Nat) : Int)), .int (iI ((kw : Nat) : Int)), .int (iI ((kd : Nat) : Int)), .int (iI ((ma : Nat) : Int)), .int (iI (lk : Int))])), (x4, .inl (cI, 900, .inl (kN F)))] (fun (r : Int32) (u : Nat × Int) => ncP F k3 ma lk 4 r u.1 u.2) (fun (u : Nat × Int) => match u with | ⟨a9, l9⟩ => [(hm, .inr (5, [.int cd, .ref x1, .ref x2, .ref x3, .ref x4, .ref x5, .ref x6, .ref x7, .int (iI ((kt : Nat) : Int)), .int (iI ((k1 : Nat) : Int)), .int (iI ((k2 : Nat) : Int)), .int (iI ((k3 : Nat) : Int)), .int (iI ((k4 : Nat) : Int)), .int (iI ((k5 : Nat) : Int)), .ref y1, .ref y2, .ref y3, .ref y4, .ref y5, .ref y6, .ref y7, .int (iI ((ms : Nat) : Int)), .int (iI ((kw : Nat) : Int)), .int (iI ((kd : Nat) : Int)), .int (iI ((a9 : Nat) : Int)), .int (iI (l9 : Int))])), (x4, .inl (cI, 900, .inl (kN F)))]) 0 0 := by
  intro sz
  refine k_of (cc := cX5_nextCheck) (maxL := 3) (ret := (some .int)) (by decide) rfl (Nat.le_of_ble_eq_true rfl) ?_
  intro p e s m args below meth c A Q hAe hQ hx hb hr hml hts hown hlocks hnm hP hK hD hS hA ls hl
  have hl : lv_has ls 3 [(0, .ref hm)] := hl
  refine lv_iconst (v := iI (0 : Int)) hx hb dX5_nextCheck_0 rfl ?_
  refine lv_istore_n (lv' := [(1, .int (iI (0 : Int))), (0, .ref hm)]) hx hb dX5_nextCheck_1 rfl hl (by decide) rfl (fun ls hl => ?_)
  refine lv_iconst (v := iI ((0 : Nat) : Int)) hx hb dX5_nextCheck_2 rfl ?_
  refine lv_istore_n (lv' := [(2, .int (iI ((0 : Nat) : Int))), (1, .int (iI (0 : Int))), (0, .ref hm)]) hx hb dX5_nextCheck_3 rfl hl (by decide) rfl (fun ls hl => ?_)
  have lp4 : ∀ (fu : Nat) (k : Nat) (s9 : Int32) (a9 : Nat) (l9 : Int) (H : Heap) (locs : List Loc) (ls : Array Slot), 4 - k < fu → (k ≤ 4) → (a9 ≤ k3) → (ncP F k3 ma lk k s9 a9 l9) → va_P D vwCl [(hm, .inr (5, [.int cd, .ref x1, .ref x2, .ref x3, .ref x4, .ref x5, .ref x6, .ref x7, .int (iI ((kt : Nat) : Int)), .int (iI ((k1 : Nat) : Int)), .int (iI ((k2 : Nat) : Int)), .int (iI ((k3 : Nat) : Int)), .int (iI ((k4 : Nat) : Int)), .int (iI ((k5 : Nat) : Int)), .ref y1, .ref y2, .ref y3, .ref y4, .ref y5, .ref y6, .ref y7, .int (iI ((ms : Nat) : Int)), .int (iI ((kw : Nat) : Int)), .int (iI ((kd : Nat) : Int)), .int (iI ((a9 : Nat) : Int)), .int (iI (l9 : Int))])), (x4, .inl (cI, 900, .inl (kN F)))] H → va_D A [(hm, .inr (5, [.int cd, .ref x1, .ref x2, .ref x3, .ref x4, .ref x5, .ref x6, .ref x7, .int (iI ((kt : Nat) : Int)), .int (iI ((k1 : Nat) : Int)), .int (iI ((k2 : Nat) : Int)), .int (iI ((k3 : Nat) : Int)), .int (iI ((k4 : Nat) : Int)), .int (iI ((k5 : Nat) : Int)), .ref y1, .ref y2, .ref y3, .ref y4, .ref y5, .ref y6, .ref y7, .int (iI ((ms : Nat) : Int)), .int (iI ((kw : Nat) : Int)), .int (iI ((kd : Nat) : Int)), .int (iI ((a9 : Nat) : Int)), .int (iI (l9 : Int))])), (x4, .inl (cI, 900, .inl (kN F)))] → va_S A s.heap H locs → lv_has ls 3 [(0, .ref hm), (1, .int s9), (2, .int (iI ((k : Nat) : Int)))] → W p l e rm_c_Mo_nextCheck s m args below meth c H locs 0 0 Q (F0 m 4 ls []) := by
    intro fu
    induction fu with
    | zero => intro k s9 a9 l9 H locs ls hfu; exact absurd hfu (Nat.not_lt_zero _)
    | succ fu ih4 =>
      intro k s9 a9 l9 H locs ls hfu hk ha9 hNC hP hD hS hl
      refine lv_iload_n hx hb dX5_nextCheck_4 rfl (lv_at hl 2 rfl) ?_
      refine lv_iconst (v := iI (4 : Int)) hx hb dX5_nextCheck_5 rfl ?_
      refine lv_icmp_ge (tgt := 25) hx hb dX5_nextCheck_6 (by decide) (fun c6 => ?_) (fun c6 => ?_)
      · skip
        have c6 := iI_leT (a := (4 : Int)) (b := ((k : Nat) : Int)) c6 (by omega)
        refine lv_iload_n hx hb dX5_nextCheck_25 rfl (lv_at hl 1 rfl) ?_
        have hk4 : k = 4 := by omega
        rw [hk4] at hNC
        exact k_iret (a9, l9) hx hb hr hlocks hK hP hD hS [0, 1] (by decide) rfl rfl (hNC) hAe hQ dX5_nextCheck_26
      · skip
        have c6 := iI_leF (a := (4 : Int)) (b := ((k : Nat) : Int)) c6 (by omega)
        refine lv_iload_n hx hb dX5_nextCheck_9 rfl (lv_at hl 1 rfl) ?_
        refine lv_bipush (v := iI (8 : Int)) hx hb dX5_nextCheck_10 (by decide) ?_
        refine lv_ishl hx hb dX5_nextCheck_12 ?_
        rcases (show (a9 < k3) ∨ (¬ a9 < k3) by omega) with hat9 | hat9
        · skip
          refine lv_aload_n hx hb dX5_nextCheck_13 rfl (lv_at hl 0 rfl) ?_
          refine k_calli (wc := [(hm, .inr (5, [.int cd, .ref x1, .ref x2, .ref x3, .ref x4, .ref x5, .ref x6, .ref x7, .int (iI ((kt : Nat) : Int)), .int (iI ((k1 : Nat) : Int)), .int (iI ((k2 : Nat) : Int)), .int (iI ((k3 : Nat) : Int)), .int (iI ((k4 : Nat) : Int)), .int (iI ((k5 : Nat) : Int)), .ref y1, .ref y2, .ref y3, .ref y4, .ref y5, .ref y6, .ref y7, .int (iI ((ms : Nat) : Int)), .int (iI ((kw : Nat) : Int)), .int (iI ((kd : Nat) : Int)), .int (iI ((a9 : Nat) : Int)), .int (iI (l9 : Int))])), (x4, .inl (cI, 900, .inl (kN F)))]) (wr := []) (wf := fun _ => [(hm, .inr (5, [.int cd, .ref x1, .ref x2, .ref x3, .ref x4, .ref x5, .ref x6, .ref x7, .int (iI ((kt : Nat) : Int)), .int (iI ((k1 : Nat) : Int)), .int (iI ((k2 : Nat) : Int)), .int (iI ((k3 : Nat) : Int)), .int (iI ((k4 : Nat) : Int)), .int (iI ((k5 : Nat) : Int)), .ref y1, .ref y2, .ref y3, .ref y4, .ref y5, .ref y6, .ref y7, .int (iI ((ms : Nat) : Int)), .int (iI ((kw : Nat) : Int)), .int (iI ((kd : Nat) : Int)), .int (iI ((a9 + 1 : Nat) : Int)), .int (iI (l9 : Int))])), (x4, .inl (cI, 900, .inl (kN F)))]) hK hP hD hS hA [0, 1] [] [0, 1] ⟨⟨rfl, rfl, by decide⟩, rfl, by decide, by decide⟩ (fun _ => ⟨rfl, rfl⟩) (by decide) (fun hPc hDc => va_runV (As := []) (rest := [.int ((s9) <<< ((iI (8 : Int)) &&& 31))]) ⟨hx, hb, hml, hown, hts⟩ (c_Mo_nextY l D cI cZ (hm := hm) (cd := cd) (x1 := x1) (x2 := x2) (x3 := x3) (x4 := x4) (x5 := x5) (x6 := x6) (x7 := x7) (kt := kt) (k1 := k1) (k2 := k2) (k3 := k3) (k4 := k4) (k5 := k5) (y1 := y1) (y2 := y2) (y3 := y3) (y4 := y4) (y5 := y5) (y6 := y6) (y7 := y7) (ms := ms) (kw := kw) (kd := kd) (ma := a9) (lk := l9) (F := F) (hk3 := by omega) (hma := by omega) _) (cwV 0 hts (kgV wm632 wm634 wm32 wm44 wmcX5_next) rfl rfl rfl (by decide +kernel) ⟨Nat.le_of_ble_eq_true rfl, Nat.le_of_ble_eq_true rfl⟩) (k_preV hK hPc hDc (ci := 5) (q0 := 0) rfl rfl) rfl rfl hl.1 rfl (lv_room (Nat.le_of_ble_eq_true rfl)) dX5_nextCheck_14 ⟨Nat.le_of_ble_eq_true rfl, Nat.le_of_ble_eq_true rfl⟩) (fun r14 u H locs hw hP hD hS => ?_)
          have hP : va_P D vwCl [(hm, .inr (5, [.int cd, .ref x1, .ref x2, .ref x3, .ref x4, .ref x5, .ref x6, .ref x7, .int (iI ((kt : Nat) : Int)), .int (iI ((k1 : Nat) : Int)), .int (iI ((k2 : Nat) : Int)), .int (iI ((k3 : Nat) : Int)), .int (iI ((k4 : Nat) : Int)), .int (iI ((k5 : Nat) : Int)), .ref y1, .ref y2, .ref y3, .ref y4, .ref y5, .ref y6, .ref y7, .int (iI ((ms : Nat) : Int)), .int (iI ((kw : Nat) : Int)), .int (iI ((kd : Nat) : Int)), .int (iI ((a9 + 1 : Nat) : Int)), .int (iI (l9 : Int))])), (x4, .inl (cI, 900, .inl (kN F)))] H := hP
          have hD : va_D A [(hm, .inr (5, [.int cd, .ref x1, .ref x2, .ref x3, .ref x4, .ref x5, .ref x6, .ref x7, .int (iI ((kt : Nat) : Int)), .int (iI ((k1 : Nat) : Int)), .int (iI ((k2 : Nat) : Int)), .int (iI ((k3 : Nat) : Int)), .int (iI ((k4 : Nat) : Int)), .int (iI ((k5 : Nat) : Int)), .ref y1, .ref y2, .ref y3, .ref y4, .ref y5, .ref y6, .ref y7, .int (iI ((ms : Nat) : Int)), .int (iI ((kw : Nat) : Int)), .int (iI ((kd : Nat) : Int)), .int (iI ((a9 + 1 : Nat) : Int)), .int (iI (l9 : Int))])), (x4, .inl (cI, 900, .inl (kN F)))] := hD
          refine W.widen (k := 0) (n := 0) (Nat.le_of_ble_eq_true rfl) (Nat.le_of_ble_eq_true rfl) ?_
          have hw : r14 = iI ((F a9 : Nat) : Int) := hw
          subst hw
          refine lv_ior hx hb dX5_nextCheck_17 ?_
          refine lv_istore_n (lv' := [(1, .int ((((s9) <<< ((iI (8 : Int)) &&& 31))) ||| (iI ((F a9 : Nat) : Int)))), (0, .ref hm), (2, .int (iI ((k : Nat) : Int)))]) hx hb dX5_nextCheck_18 rfl hl (by decide) rfl (fun ls hl => ?_)
          refine lv_iinc (v := iI ((k + 1 : Nat) : Int)) (lv' := [(2, .int (iI ((k + 1 : Nat) : Int))), (1, .int ((((s9) <<< ((iI (8 : Int)) &&& 31))) ||| (iI ((F a9 : Nat) : Int)))), (0, .ref hm)]) hx hb dX5_nextCheck_19 hl (k := 2) rfl (iA (by omega)) (by decide) rfl (fun ls hl => ?_)
          refine lv_goto (tgt := 4) hx hb dX5_nextCheck_22 (by decide) ?_
          exact ih4 (k + 1) ((((s9) <<< ((iI (8 : Int)) &&& 31))) ||| (iI ((F a9 : Nat) : Int))) (a9 + 1) l9 _ _ _ (by omega) (by omega) (by omega) (nc_y hB hat9 hNC) hP hD hS (lv_sub hl [2, 1, 0] rfl)
        · skip
          refine lv_aload_n hx hb dX5_nextCheck_13 rfl (lv_at hl 0 rfl) ?_
          refine k_calli (wc := [(hm, .inr (5, [.int cd, .ref x1, .ref x2, .ref x3, .ref x4, .ref x5, .ref x6, .ref x7, .int (iI ((kt : Nat) : Int)), .int (iI ((k1 : Nat) : Int)), .int (iI ((k2 : Nat) : Int)), .int (iI ((k3 : Nat) : Int)), .int (iI ((k4 : Nat) : Int)), .int (iI ((k5 : Nat) : Int)), .ref y1, .ref y2, .ref y3, .ref y4, .ref y5, .ref y6, .ref y7, .int (iI ((ms : Nat) : Int)), .int (iI ((kw : Nat) : Int)), .int (iI ((kd : Nat) : Int)), .int (iI ((a9 : Nat) : Int)), .int (iI (l9 : Int))]))]) (wr := [(x4, .inl (cI, 900, .inl (kN F)))]) (wf := fun _ => [(hm, .inr (5, [.int cd, .ref x1, .ref x2, .ref x3, .ref x4, .ref x5, .ref x6, .ref x7, .int (iI ((kt : Nat) : Int)), .int (iI ((k1 : Nat) : Int)), .int (iI ((k2 : Nat) : Int)), .int (iI ((k3 : Nat) : Int)), .int (iI ((k4 : Nat) : Int)), .int (iI ((k5 : Nat) : Int)), .ref y1, .ref y2, .ref y3, .ref y4, .ref y5, .ref y6, .ref y7, .int (iI ((ms : Nat) : Int)), .int (iI ((kw : Nat) : Int)), .int (iI ((kd : Nat) : Int)), .int (iI ((a9 : Nat) : Int)), .int (iI (1 : Int))])), (x4, .inl (cI, 900, .inl (kN F)))]) hK hP hD hS hA [0] [1] [1, 0] ⟨⟨rfl, rfl, by decide⟩, rfl, by decide, by decide⟩ (fun _ => ⟨rfl, rfl⟩) (by decide) (fun hPc hDc => va_runV (As := []) (rest := [.int ((s9) <<< ((iI (8 : Int)) &&& 31))]) ⟨hx, hb, hml, hown, hts⟩ (c_Mo_nextN l D cI cZ (hm := hm) (cd := cd) (x1 := x1) (x2 := x2) (x3 := x3) (x4 := x4) (x5 := x5) (x6 := x6) (x7 := x7) (kt := kt) (k1 := k1) (k2 := k2) (k3 := k3) (k4 := k4) (k5 := k5) (y1 := y1) (y2 := y2) (y3 := y3) (y4 := y4) (y5 := y5) (y6 := y6) (y7 := y7) (ms := ms) (kw := kw) (kd := kd) (ma := a9) (lk := l9) (hk3 := by omega) (hma := by omega) _) (cwV 0 hts (kgV wm632 wm634 wm32 wm44 wmcX5_next) rfl rfl rfl (by decide +kernel) ⟨Nat.le_of_ble_eq_true rfl, Nat.le_of_ble_eq_true rfl⟩) (k_preV hK hPc hDc (ci := 5) (q0 := 0) rfl rfl) rfl rfl hl.1 rfl (lv_room (Nat.le_of_ble_eq_true rfl)) dX5_nextCheck_14 ⟨Nat.le_of_ble_eq_true rfl, Nat.le_of_ble_eq_true rfl⟩) (fun r14 u H locs hw hP hD hS => ?_)
          have hP : va_P D vwCl [(hm, .inr (5, [.int cd, .ref x1, .ref x2, .ref x3, .ref x4, .ref x5, .ref x6, .ref x7, .int (iI ((kt : Nat) : Int)), .int (iI ((k1 : Nat) : Int)), .int (iI ((k2 : Nat) : Int)), .int (iI ((k3 : Nat) : Int)), .int (iI ((k4 : Nat) : Int)), .int (iI ((k5 : Nat) : Int)), .ref y1, .ref y2, .ref y3, .ref y4, .ref y5, .ref y6, .ref y7, .int (iI ((ms : Nat) : Int)), .int (iI ((kw : Nat) : Int)), .int (iI ((kd : Nat) : Int)), .int (iI ((a9 : Nat) : Int)), .int (iI (1 : Int))])), (x4, .inl (cI, 900, .inl (kN F)))] H := hP
          have hD : va_D A [(hm, .inr (5, [.int cd, .ref x1, .ref x2, .ref x3, .ref x4, .ref x5, .ref x6, .ref x7, .int (iI ((kt : Nat) : Int)), .int (iI ((k1 : Nat) : Int)), .int (iI ((k2 : Nat) : Int)), .int (iI ((k3 : Nat) : Int)), .int (iI ((k4 : Nat) : Int)), .int (iI ((k5 : Nat) : Int)), .ref y1, .ref y2, .ref y3, .ref y4, .ref y5, .ref y6, .ref y7, .int (iI ((ms : Nat) : Int)), .int (iI ((kw : Nat) : Int)), .int (iI ((kd : Nat) : Int)), .int (iI ((a9 : Nat) : Int)), .int (iI (1 : Int))])), (x4, .inl (cI, 900, .inl (kN F)))] := hD
          refine W.widen (k := 0) (n := 0) (Nat.le_of_ble_eq_true rfl) (Nat.le_of_ble_eq_true rfl) ?_
          have hw : r14 = iI ((0 : Nat) : Int) := hw
          subst hw
          refine lv_ior hx hb dX5_nextCheck_17 ?_
          refine lv_istore_n (lv' := [(1, .int ((((s9) <<< ((iI (8 : Int)) &&& 31))) ||| (iI ((0 : Nat) : Int)))), (0, .ref hm), (2, .int (iI ((k : Nat) : Int)))]) hx hb dX5_nextCheck_18 rfl hl (by decide) rfl (fun ls hl => ?_)
          refine lv_iinc (v := iI ((k + 1 : Nat) : Int)) (lv' := [(2, .int (iI ((k + 1 : Nat) : Int))), (1, .int ((((s9) <<< ((iI (8 : Int)) &&& 31))) ||| (iI ((0 : Nat) : Int)))), (0, .ref hm)]) hx hb dX5_nextCheck_19 hl (k := 2) rfl (iA (by omega)) (by decide) rfl (fun ls hl => ?_)
          refine lv_goto (tgt := 4) hx hb dX5_nextCheck_22 (by decide) ?_
          exact ih4 (k + 1) ((((s9) <<< ((iI (8 : Int)) &&& 31))) ||| (iI ((0 : Nat) : Int))) a9 1 _ _ _ (by omega) (by omega) (by omega) (nc_n hat9 hNC) hP hD hS (lv_sub hl [2, 1, 0] rfl)
  exact lp4 _ 0 (iI (0 : Int)) ma lk _ _ _ (Nat.lt_succ_self _) (by omega) (by omega) (⟨hma, Or.inl ⟨hma, rfl, rfl, rfl⟩⟩) hP hD hS (lv_sub hl [2, 1, 0] rfl)
