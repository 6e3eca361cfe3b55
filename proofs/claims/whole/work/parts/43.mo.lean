abbrev rm_c_Mo_put : Room := { frames := 0, cells := 0, slots := 0, locals := 0 }
set_option maxHeartbeats 4000000 in
set_option maxRecDepth 100000 in
theorem c_Mo_put (l : Launch) (D : va_G) (cI cZ : ClassId) (hm : Nat) (cd : Int32) (x1 : Nat) (x2 : Nat) (x3 : Nat) (x4 : Nat) (x5 : Nat) (x6 : Nat) (x7 : Nat) (kt : Nat) (k1 : Nat) (k2 : Nat) (k3 : Nat) (k4 : Nat) (k5 : Nat) (y1 : Nat) (y2 : Nat) (y3 : Nat) (y4 : Nat) (y5 : Nat) (y6 : Nat) (y7 : Nat) (ms : Nat) (kw : Nat) (kd : Nat) (ma : Nat) (lk : Int) (g3 : Nat → Int32) (x : Int32) (hk3 : k3 < 900) : MV l yX5_put wsX5_put rm_c_Mo_put D (kT cI cZ) [.ref hm, .int x] [(hm, .inr (5, [.int cd, .ref x1, .ref x2, .ref x3, .ref x4, .ref x5, .ref x6, .ref x7, .int (iI ((kt : Nat) : Int)), .int (iI ((k1 : Nat) : Int)), .int (iI ((k2 : Nat) : Int)), .int (iI ((k3 : Nat) : Int)), .int (iI ((k4 : Nat) : Int)), .int (iI ((k5 : Nat) : Int)), .ref y1, .ref y2, .ref y3, .ref y4, .ref y5, .ref y6, .ref y7, .int (iI ((ms : Nat) : Int)), .int (iI ((kw : Nat) : Int)), .int (iI ((kd : Nat) : Int)), .int (iI ((ma : Nat) : Int)), .int (iI (lk : Int))])), (x4, .inl (cI, 900, .inl g3))] (fun (_ : Unit) => True) (fun (u : Unit) => match u with | _ => [(hm, .inr (5, [.int cd, .ref x1, .ref x2, .ref x3, .ref x4, .ref x5, .ref x6, .ref x7, .int (iI ((kt : Nat) : Int)), .int (iI ((k1 : Nat) : Int)), .int (iI ((k2 : Nat) : Int)), .int (iI ((k3 + 1 : Nat) : Int)), .int (iI ((k4 : Nat) : Int)), .int (iI ((k5 : Nat) : Int)), .ref y1, .ref y2, .ref y3, .ref y4, .ref y5, .ref y6, .ref y7, .int (iI ((ms : Nat) : Int)), .int (iI ((kw : Nat) : Int)), .int (iI ((kd : Nat) : Int)), .int (iI ((ma : Nat) : Int)), .int (iI (lk : Int))])), (x4, .inl (cI, 900, .inl (apL g3 k3 [((x) &&& (iI (255 : Int)))])))]) 0 0 := by
  intro sz
  refine k_of (cc := cX5_put) (maxL := 2) (ret := none) (by decide) rfl (Nat.le_of_ble_eq_true rfl) ?_
  intro p e s m args below meth c A Q hAe hQ hx hb hr hml hts hown hlocks hnm hP hK hD hS hA ls hl
  have hl : lv_has ls 2 [(0, .ref hm), (1, .int x)] := hl
  have hi_X5 : ∀ w ∈ u_ws RX5 TX5 26, w ∈ wsX5_put := fun w h => km (ikX5 w h)
  have fl19 := hts _ (km wm479)
  have fl67 := hts _ (km wm486)
  refine lv_aload_n hx hb dX5_put_0 rfl (lv_at hl 0 rfl) ?_
  refine va_get (D := D) (ci := 5) (v := .ref x4) (C := RX5) (T := TX5) (N := 26) hx hb hts hi_X5 hown hK hP 0 rfl rfl 4 (by decide) fl19 (fun _ h9 => h9) rfl dX5_put_1 ?_
  refine lv_aload_n hx hb dX5_put_4 rfl (lv_at hl 0 rfl) ?_
  refine va_get (D := D) (ci := 5) (v := .int (iI ((k3 : Nat) : Int))) (C := RX5) (T := TX5) (N := 26) hx hb hts hi_X5 hown hK hP 0 rfl rfl 11 (by decide) fl67 (fun _ h9 => h9) rfl dX5_put_5 ?_
  refine lv_iload_n hx hb dX5_put_8 rfl (lv_at hl 1 rfl) ?_
  refine lv_sipush (v := iI (255 : Int)) hx hb dX5_put_9 (by decide) ?_
  refine lv_iand hx hb dX5_put_12 ?_
  refine k_iast hx hb hK hP hD hS 1 0 rfl rfl k3 (by omega) dX5_put_13 (fun H locs hP hD hS => ?_)
  have hP : va_P D vwCl [(hm, .inr (5, [.int cd, .ref x1, .ref x2, .ref x3, .ref x4, .ref x5, .ref x6, .ref x7, .int (iI ((kt : Nat) : Int)), .int (iI ((k1 : Nat) : Int)), .int (iI ((k2 : Nat) : Int)), .int (iI ((k3 : Nat) : Int)), .int (iI ((k4 : Nat) : Int)), .int (iI ((k5 : Nat) : Int)), .ref y1, .ref y2, .ref y3, .ref y4, .ref y5, .ref y6, .ref y7, .int (iI ((ms : Nat) : Int)), .int (iI ((kw : Nat) : Int)), .int (iI ((kd : Nat) : Int)), .int (iI ((ma : Nat) : Int)), .int (iI (lk : Int))])), (x4, .inl (cI, 900, .inl (upd g3 k3 (((x) &&& (iI (255 : Int)))))))] H := hP
  have hD : va_D A [(hm, .inr (5, [.int cd, .ref x1, .ref x2, .ref x3, .ref x4, .ref x5, .ref x6, .ref x7, .int (iI ((kt : Nat) : Int)), .int (iI ((k1 : Nat) : Int)), .int (iI ((k2 : Nat) : Int)), .int (iI ((k3 : Nat) : Int)), .int (iI ((k4 : Nat) : Int)), .int (iI ((k5 : Nat) : Int)), .ref y1, .ref y2, .ref y3, .ref y4, .ref y5, .ref y6, .ref y7, .int (iI ((ms : Nat) : Int)), .int (iI ((kw : Nat) : Int)), .int (iI ((kd : Nat) : Int)), .int (iI ((ma : Nat) : Int)), .int (iI (lk : Int))])), (x4, .inl (cI, 900, .inl (upd g3 k3 (((x) &&& (iI (255 : Int)))))))] := hD
  rw [show (upd g3 k3 (((x) &&& (iI (255 : Int))))) = (apL g3 k3 [((x) &&& (iI (255 : Int)))]) from apL_one _ _ _] at hP hD
  refine lv_aload_n hx hb dX5_put_14 rfl (lv_at hl 0 rfl) ?_
  refine lv_dup hx hb dX5_put_15 rfl ?_
  refine va_get (D := D) (ci := 5) (v := .int (iI ((k3 : Nat) : Int))) (C := RX5) (T := TX5) (N := 26) hx hb hts hi_X5 hown hK hP 0 rfl rfl 11 (by decide) fl67 (fun _ h9 => h9) rfl dX5_put_16 ?_
  refine lv_iconst (v := iI (1 : Int)) hx hb dX5_put_19 rfl ?_
  refine lv_iadd hx hb dX5_put_20 ?_
  refine kn_i (iA (c := ((k3 + 1 : Nat) : Int)) (by omega)) ?_
  refine va_put (D := D) (ci := 5) (v := .int (iI ((k3 + 1 : Nat) : Int))) (ty := .int) (C := RX5) (T := TX5) (N := 26) hx hb hts hi_X5 tyX5 tyX5_ok nmX5 hown hK hP hD hS 0 rfl rfl 11 (by decide) fl67 (fun _ h9 => h9) rfl (by decide +kernel) rfl rfl (Nat.le_of_ble_eq_true rfl) dX5_put_21 (fun H locs hP hD hS => ?_)
  have hP : va_P D vwCl [(hm, .inr (5, [.int cd, .ref x1, .ref x2, .ref x3, .ref x4, .ref x5, .ref x6, .ref x7, .int (iI ((kt : Nat) : Int)), .int (iI ((k1 : Nat) : Int)), .int (iI ((k2 : Nat) : Int)), .int (iI ((k3 + 1 : Nat) : Int)), .int (iI ((k4 : Nat) : Int)), .int (iI ((k5 : Nat) : Int)), .ref y1, .ref y2, .ref y3, .ref y4, .ref y5, .ref y6, .ref y7, .int (iI ((ms : Nat) : Int)), .int (iI ((kw : Nat) : Int)), .int (iI ((kd : Nat) : Int)), .int (iI ((ma : Nat) : Int)), .int (iI (lk : Int))])), (x4, .inl (cI, 900, .inl (apL g3 k3 [((x) &&& (iI (255 : Int)))])))] H := hP
  have hD : va_D A [(hm, .inr (5, [.int cd, .ref x1, .ref x2, .ref x3, .ref x4, .ref x5, .ref x6, .ref x7, .int (iI ((kt : Nat) : Int)), .int (iI ((k1 : Nat) : Int)), .int (iI ((k2 : Nat) : Int)), .int (iI ((k3 + 1 : Nat) : Int)), .int (iI ((k4 : Nat) : Int)), .int (iI ((k5 : Nat) : Int)), .ref y1, .ref y2, .ref y3, .ref y4, .ref y5, .ref y6, .ref y7, .int (iI ((ms : Nat) : Int)), .int (iI ((kw : Nat) : Int)), .int (iI ((kd : Nat) : Int)), .int (iI ((ma : Nat) : Int)), .int (iI (lk : Int))])), (x4, .inl (cI, 900, .inl (apL g3 k3 [((x) &&& (iI (255 : Int)))])))] := hD
  exact k_vret () hx hb hr hlocks hK hP hD hS [0, 1] (by decide) rfl rfl (trivial) hAe hQ dX5_put_24

abbrev rm_c_Mo_putNumber : Room := { frames := 1, cells := 0, slots := 0, locals := 21 }
set_option maxHeartbeats 4000000 in
set_option maxRecDepth 100000 in
theorem c_Mo_putNumber (l : Launch) (D : va_G) (cI cZ : ClassId) (hm : Nat) (cd : Int32) (x1 : Nat) (x2 : Nat) (x3 : Nat) (x4 : Nat) (x5 : Nat) (x6 : Nat) (x7 : Nat) (kt : Nat) (k1 : Nat) (k2 : Nat) (k3 : Nat) (k4 : Nat) (k5 : Nat) (y1 : Nat) (y2 : Nat) (y3 : Nat) (y4 : Nat) (y5 : Nat) (y6 : Nat) (y7 : Nat) (ms : Nat) (kw : Nat) (kd : Nat) (ma : Nat) (lk : Int) (g3 : Nat → Int32) (v : Nat) (hk3 : k3 + 4 ≤ 900) (hv : v < 268435456) : MV l yX5_putNumber wsX5_putNumber rm_c_Mo_putNumber D (kT cI cZ) [.ref hm, .int (iI ((v : Nat) : Int))] [(hm, .inr (5, [.int cd, .ref x1, .ref x2, .ref x3, .ref x4, .ref x5, .ref x6, .ref x7, .int (iI ((kt : Nat) : Int)), .int (iI ((k1 : Nat) : Int)), .int (iI ((k2 : Nat) : Int)), .int (iI ((k3 : Nat) : Int)), .int (iI ((k4 : Nat) : Int)), .int (iI ((k5 : Nat) : Int)), .ref y1, .ref y2, .ref y3, .ref y4, .ref y5, .ref y6, .ref y7, .int (iI ((ms : Nat) : Int)), .int (iI ((kw : Nat) : Int)), .int (iI ((kd : Nat) : Int)), .int (iI ((ma : Nat) : Int)), .int (iI (lk : Int))])), (x4, .inl (cI, 900, .inl g3))] (fun (_ : Unit) => True) (fun (u : Unit) => match u with | _ => [(hm, .inr (5, [.int cd, .ref x1, .ref x2, .ref x3, .ref x4, .ref x5, .ref x6, .ref x7, .int (iI ((kt : Nat) : Int)), .int (iI ((k1 : Nat) : Int)), .int (iI ((k2 : Nat) : Int)), .int (iI ((k3 + (vb 3 v).length : Nat) : Int)), .int (iI ((k4 : Nat) : Int)), .int (iI ((k5 : Nat) : Int)), .ref y1, .ref y2, .ref y3, .ref y4, .ref y5, .ref y6, .ref y7, .int (iI ((ms : Nat) : Int)), .int (iI ((kw : Nat) : Int)), .int (iI ((kd : Nat) : Int)), .int (iI ((ma : Nat) : Int)), .int (iI (lk : Int))])), (x4, .inl (cI, 900, .inl (apL g3 k3 (vb 3 v))))]) 0 0 := by
  intro sz
  refine k_of (cc := cX5_putNumber) (maxL := 3) (ret := none) (by decide) rfl (Nat.le_of_ble_eq_true rfl) ?_
  intro p e s m args below meth c A Q hAe hQ hx hb hr hml hts hown hlocks hnm hP hK hD hS hA ls hl
  have hl : lv_has ls 3 [(0, .ref hm), (1, .int (iI ((v : Nat) : Int)))] := hl
  refine lv_iload_n hx hb dX5_putNumber_0 rfl (lv_at hl 1 rfl) ?_
  refine lv_istore_n (lv' := [(2, .int (iI ((v : Nat) : Int))), (0, .ref hm), (1, .int (iI ((v : Nat) : Int)))]) hx hb dX5_putNumber_1 rfl hl (by decide) rfl (fun ls hl => ?_)
  have lp2 : ∀ (fu : Nat) (k : Nat) (w : Nat) (P : List Int32) (H : Heap) (locs : List Loc) (ls : Array Slot), 4 - k < fu → (1 ≤ k ∧ k ≤ 4) → (w < 128 ^ (5 - k)) → (vb 3 v = P ++ vb (4 - k) w) → (P.length + 1 = k) → va_P D vwCl [(hm, .inr (5, [.int cd, .ref x1, .ref x2, .ref x3, .ref x4, .ref x5, .ref x6, .ref x7, .int (iI ((kt : Nat) : Int)), .int (iI ((k1 : Nat) : Int)), .int (iI ((k2 : Nat) : Int)), .int (iI ((k3 + (P).length : Nat) : Int)), .int (iI ((k4 : Nat) : Int)), .int (iI ((k5 : Nat) : Int)), .ref y1, .ref y2, .ref y3, .ref y4, .ref y5, .ref y6, .ref y7, .int (iI ((ms : Nat) : Int)), .int (iI ((kw : Nat) : Int)), .int (iI ((kd : Nat) : Int)), .int (iI ((ma : Nat) : Int)), .int (iI (lk : Int))])), (x4, .inl (cI, 900, .inl (apL g3 k3 (P))))] H → va_D A [(hm, .inr (5, [.int cd, .ref x1, .ref x2, .ref x3, .ref x4, .ref x5, .ref x6, .ref x7, .int (iI ((kt : Nat) : Int)), .int (iI ((k1 : Nat) : Int)), .int (iI ((k2 : Nat) : Int)), .int (iI ((k3 + (P).length : Nat) : Int)), .int (iI ((k4 : Nat) : Int)), .int (iI ((k5 : Nat) : Int)), .ref y1, .ref y2, .ref y3, .ref y4, .ref y5, .ref y6, .ref y7, .int (iI ((ms : Nat) : Int)), .int (iI ((kw : Nat) : Int)), .int (iI ((kd : Nat) : Int)), .int (iI ((ma : Nat) : Int)), .int (iI (lk : Int))])), (x4, .inl (cI, 900, .inl (apL g3 k3 (P))))] → va_S A s.heap H locs → lv_has ls 3 [(0, .ref hm), (2, .int (iI ((w : Nat) : Int)))] → W p l e rm_c_Mo_putNumber s m args below meth c H locs 0 0 Q (F0 m 2 ls []) := by
    intro fu
    induction fu with
    | zero => intro k w P H locs ls hfu; exact absurd hfu (Nat.not_lt_zero _)
    | succ fu ih2 =>
      intro k w P H locs ls hfu hk hwp hPv hL hP hD hS hl
      have hw2 : w < 268435456 := Nat.lt_of_lt_of_le hwp (pw_le (by omega))
      refine lv_iload_n hx hb dX5_putNumber_2 rfl (lv_at hl 1 rfl) ?_
      refine lv_bipush (v := iI (127 : Int)) hx hb dX5_putNumber_3 (by decide) ?_
      refine lv_icmp_le (tgt := 30) hx hb dX5_putNumber_5 (by decide) (fun c5 => ?_) (fun c5 => ?_)
      · skip
        have c5 := iI_leT (a := ((w : Nat) : Int)) (b := (127 : Int)) c5 (by omega)
        refine lv_aload_n hx hb dX5_putNumber_30 rfl (lv_at hl 0 rfl) ?_
        refine lv_iload_n hx hb dX5_putNumber_31 rfl (lv_at hl 1 rfl) ?_
        have hE : vb 3 v = P ++ [iI ((w : Nat) : Int)] := by rw [hPv, vb_stop (by omega), Nat.mod_eq_of_lt (by omega)]
        refine k_callv (wc := [(hm, .inr (5, [.int cd, .ref x1, .ref x2, .ref x3, .ref x4, .ref x5, .ref x6, .ref x7, .int (iI ((kt : Nat) : Int)), .int (iI ((k1 : Nat) : Int)), .int (iI ((k2 : Nat) : Int)), .int (iI ((k3 + (P).length : Nat) : Int)), .int (iI ((k4 : Nat) : Int)), .int (iI ((k5 : Nat) : Int)), .ref y1, .ref y2, .ref y3, .ref y4, .ref y5, .ref y6, .ref y7, .int (iI ((ms : Nat) : Int)), .int (iI ((kw : Nat) : Int)), .int (iI ((kd : Nat) : Int)), .int (iI ((ma : Nat) : Int)), .int (iI (lk : Int))])), (x4, .inl (cI, 900, .inl (apL g3 k3 (P))))]) (wr := []) (wf := fun _ => [(hm, .inr (5, [.int cd, .ref x1, .ref x2, .ref x3, .ref x4, .ref x5, .ref x6, .ref x7, .int (iI ((kt : Nat) : Int)), .int (iI ((k1 : Nat) : Int)), .int (iI ((k2 : Nat) : Int)), .int (iI (((k3 + (P).length) + 1 : Nat) : Int)), .int (iI ((k4 : Nat) : Int)), .int (iI ((k5 : Nat) : Int)), .ref y1, .ref y2, .ref y3, .ref y4, .ref y5, .ref y6, .ref y7, .int (iI ((ms : Nat) : Int)), .int (iI ((kw : Nat) : Int)), .int (iI ((kd : Nat) : Int)), .int (iI ((ma : Nat) : Int)), .int (iI (lk : Int))])), (x4, .inl (cI, 900, .inl (apL (apL g3 k3 (P)) (k3 + (P).length) [(((iI ((w : Nat) : Int))) &&& (iI (255 : Int)))])))]) hK hP hD hS hA [0, 1] [] [0, 1] ⟨⟨rfl, rfl, by decide⟩, rfl, by decide, by decide⟩ (fun _ => ⟨rfl, rfl⟩) (by decide) (fun hPc hDc => va_runV (As := [.int (iI ((w : Nat) : Int))]) (rest := []) ⟨hx, hb, hml, hown, hts⟩ (c_Mo_put l D cI cZ (hm := hm) (cd := cd) (x1 := x1) (x2 := x2) (x3 := x3) (x4 := x4) (x5 := x5) (x6 := x6) (x7 := x7) (kt := kt) (k1 := k1) (k2 := k2) (k3 := k3 + (P).length) (k4 := k4) (k5 := k5) (y1 := y1) (y2 := y2) (y3 := y3) (y4 := y4) (y5 := y5) (y6 := y6) (y7 := y7) (ms := ms) (kw := kw) (kd := kd) (ma := ma) (lk := lk) (g3 := (apL g3 k3 (P))) (x := iI ((w : Nat) : Int)) (hk3 := by omega) _) (cwV 1 hts (kgV wm604 wm606 wm28 wm44 wmcX5_put) rfl rfl rfl (by decide +kernel) ⟨Nat.le_of_ble_eq_true rfl, Nat.le_of_ble_eq_true rfl⟩) (k_preV hK hPc hDc (ci := 5) (q0 := 0) rfl rfl) rfl rfl hl.1 rfl (lv_room (Nat.le_of_ble_eq_true rfl)) dX5_putNumber_32 ⟨Nat.le_of_ble_eq_true rfl, Nat.le_of_ble_eq_true rfl⟩) (fun u H locs hw hP hD hS => ?_)
        have hP : va_P D vwCl [(hm, .inr (5, [.int cd, .ref x1, .ref x2, .ref x3, .ref x4, .ref x5, .ref x6, .ref x7, .int (iI ((kt : Nat) : Int)), .int (iI ((k1 : Nat) : Int)), .int (iI ((k2 : Nat) : Int)), .int (iI (((k3 + (P).length) + 1 : Nat) : Int)), .int (iI ((k4 : Nat) : Int)), .int (iI ((k5 : Nat) : Int)), .ref y1, .ref y2, .ref y3, .ref y4, .ref y5, .ref y6, .ref y7, .int (iI ((ms : Nat) : Int)), .int (iI ((kw : Nat) : Int)), .int (iI ((kd : Nat) : Int)), .int (iI ((ma : Nat) : Int)), .int (iI (lk : Int))])), (x4, .inl (cI, 900, .inl (apL (apL g3 k3 (P)) (k3 + (P).length) [(((iI ((w : Nat) : Int))) &&& (iI (255 : Int)))])))] H := hP
        have hD : va_D A [(hm, .inr (5, [.int cd, .ref x1, .ref x2, .ref x3, .ref x4, .ref x5, .ref x6, .ref x7, .int (iI ((kt : Nat) : Int)), .int (iI ((k1 : Nat) : Int)), .int (iI ((k2 : Nat) : Int)), .int (iI (((k3 + (P).length) + 1 : Nat) : Int)), .int (iI ((k4 : Nat) : Int)), .int (iI ((k5 : Nat) : Int)), .ref y1, .ref y2, .ref y3, .ref y4, .ref y5, .ref y6, .ref y7, .int (iI ((ms : Nat) : Int)), .int (iI ((kw : Nat) : Int)), .int (iI ((kd : Nat) : Int)), .int (iI ((ma : Nat) : Int)), .int (iI (lk : Int))])), (x4, .inl (cI, 900, .inl (apL (apL g3 k3 (P)) (k3 + (P).length) [(((iI ((w : Nat) : Int))) &&& (iI (255 : Int)))])))] := hD
        refine W.widen (k := 0) (n := 0) (Nat.le_of_ble_eq_true rfl) (Nat.le_of_ble_eq_true rfl) ?_
        rw [show (apL (apL g3 k3 (P)) (k3 + (P).length) [(((iI ((w : Nat) : Int))) &&& (iI (255 : Int)))]) = (apL g3 k3 (vb 3 v)) from (by rw [b_and255 (by omega), hE]; exact apL_at rfl _)] at hP hD
        rw [show iI (((k3 + (P).length) + 1 : Nat) : Int) = iI ((k3 + (vb 3 v).length : Nat) : Int) from (by rw [hE, List.length_append]; rfl)] at hP hD
        exact k_vret () hx hb hr hlocks hK hP hD hS [0, 1] (by decide) rfl rfl (trivial) hAe hQ dX5_putNumber_35
      · skip
        have c5 := iI_leF (a := ((w : Nat) : Int)) (b := (127 : Int)) c5 (by omega)
        have hk4 := pw_k hk hwp (by omega)
        refine lv_aload_n hx hb dX5_putNumber_8 rfl (lv_at hl 0 rfl) ?_
        refine lv_iload_n hx hb dX5_putNumber_9 rfl (lv_at hl 1 rfl) ?_
        refine lv_sipush (v := iI (128 : Int)) hx hb dX5_putNumber_10 (by decide) ?_
        refine lv_irem hx hb dX5_putNumber_13 (by decide) ?_
        refine kn_i (y := iI ((w % 128 : Nat) : Int)) (b_rem128 (by omega)) ?_
        refine lv_sipush (v := iI (128 : Int)) hx hb dX5_putNumber_14 (by decide) ?_
        refine lv_iadd hx hb dX5_putNumber_17 ?_
        refine kn_i (iA (c := ((w % 128 + 128 : Nat) : Int)) (by omega)) ?_
        refine k_callv (wc := [(hm, .inr (5, [.int cd, .ref x1, .ref x2, .ref x3, .ref x4, .ref x5, .ref x6, .ref x7, .int (iI ((kt : Nat) : Int)), .int (iI ((k1 : Nat) : Int)), .int (iI ((k2 : Nat) : Int)), .int (iI ((k3 + (P).length : Nat) : Int)), .int (iI ((k4 : Nat) : Int)), .int (iI ((k5 : Nat) : Int)), .ref y1, .ref y2, .ref y3, .ref y4, .ref y5, .ref y6, .ref y7, .int (iI ((ms : Nat) : Int)), .int (iI ((kw : Nat) : Int)), .int (iI ((kd : Nat) : Int)), .int (iI ((ma : Nat) : Int)), .int (iI (lk : Int))])), (x4, .inl (cI, 900, .inl (apL g3 k3 (P))))]) (wr := []) (wf := fun _ => [(hm, .inr (5, [.int cd, .ref x1, .ref x2, .ref x3, .ref x4, .ref x5, .ref x6, .ref x7, .int (iI ((kt : Nat) : Int)), .int (iI ((k1 : Nat) : Int)), .int (iI ((k2 : Nat) : Int)), .int (iI (((k3 + (P).length) + 1 : Nat) : Int)), .int (iI ((k4 : Nat) : Int)), .int (iI ((k5 : Nat) : Int)), .ref y1, .ref y2, .ref y3, .ref y4, .ref y5, .ref y6, .ref y7, .int (iI ((ms : Nat) : Int)), .int (iI ((kw : Nat) : Int)), .int (iI ((kd : Nat) : Int)), .int (iI ((ma : Nat) : Int)), .int (iI (lk : Int))])), (x4, .inl (cI, 900, .inl (apL (apL g3 k3 (P)) (k3 + (P).length) [(((iI ((w % 128 + 128 : Nat) : Int))) &&& (iI (255 : Int)))])))]) hK hP hD hS hA [0, 1] [] [0, 1] ⟨⟨rfl, rfl, by decide⟩, rfl, by decide, by decide⟩ (fun _ => ⟨rfl, rfl⟩) (by decide) (fun hPc hDc => va_runV (As := [.int (iI ((w % 128 + 128 : Nat) : Int))]) (rest := []) ⟨hx, hb, hml, hown, hts⟩ (c_Mo_put l D cI cZ (hm := hm) (cd := cd) (x1 := x1) (x2 := x2) (x3 := x3) (x4 := x4) (x5 := x5) (x6 := x6) (x7 := x7) (kt := kt) (k1 := k1) (k2 := k2) (k3 := k3 + (P).length) (k4 := k4) (k5 := k5) (y1 := y1) (y2 := y2) (y3 := y3) (y4 := y4) (y5 := y5) (y6 := y6) (y7 := y7) (ms := ms) (kw := kw) (kd := kd) (ma := ma) (lk := lk) (g3 := (apL g3 k3 (P))) (x := iI ((w % 128 + 128 : Nat) : Int)) (hk3 := by omega) _) (cwV 1 hts (kgV wm604 wm606 wm28 wm44 wmcX5_put) rfl rfl rfl (by decide +kernel) ⟨Nat.le_of_ble_eq_true rfl, Nat.le_of_ble_eq_true rfl⟩) (k_preV hK hPc hDc (ci := 5) (q0 := 0) rfl rfl) rfl rfl hl.1 rfl (lv_room (Nat.le_of_ble_eq_true rfl)) dX5_putNumber_18 ⟨Nat.le_of_ble_eq_true rfl, Nat.le_of_ble_eq_true rfl⟩) (fun u H locs hw hP hD hS => ?_)
        have hP : va_P D vwCl [(hm, .inr (5, [.int cd, .ref x1, .ref x2, .ref x3, .ref x4, .ref x5, .ref x6, .ref x7, .int (iI ((kt : Nat) : Int)), .int (iI ((k1 : Nat) : Int)), .int (iI ((k2 : Nat) : Int)), .int (iI (((k3 + (P).length) + 1 : Nat) : Int)), .int (iI ((k4 : Nat) : Int)), .int (iI ((k5 : Nat) : Int)), .ref y1, .ref y2, .ref y3, .ref y4, .ref y5, .ref y6, .ref y7, .int (iI ((ms : Nat) : Int)), .int (iI ((kw : Nat) : Int)), .int (iI ((kd : Nat) : Int)), .int (iI ((ma : Nat) : Int)), .int (iI (lk : Int))])), (x4, .inl (cI, 900, .inl (apL (apL g3 k3 (P)) (k3 + (P).length) [(((iI ((w % 128 + 128 : Nat) : Int))) &&& (iI (255 : Int)))])))] H := hP
        have hD : va_D A [(hm, .inr (5, [.int cd, .ref x1, .ref x2, .ref x3, .ref x4, .ref x5, .ref x6, .ref x7, .int (iI ((kt : Nat) : Int)), .int (iI ((k1 : Nat) : Int)), .int (iI ((k2 : Nat) : Int)), .int (iI (((k3 + (P).length) + 1 : Nat) : Int)), .int (iI ((k4 : Nat) : Int)), .int (iI ((k5 : Nat) : Int)), .ref y1, .ref y2, .ref y3, .ref y4, .ref y5, .ref y6, .ref y7, .int (iI ((ms : Nat) : Int)), .int (iI ((kw : Nat) : Int)), .int (iI ((kd : Nat) : Int)), .int (iI ((ma : Nat) : Int)), .int (iI (lk : Int))])), (x4, .inl (cI, 900, .inl (apL (apL g3 k3 (P)) (k3 + (P).length) [(((iI ((w % 128 + 128 : Nat) : Int))) &&& (iI (255 : Int)))])))] := hD
        refine W.widen (k := 0) (n := 0) (Nat.le_of_ble_eq_true rfl) (Nat.le_of_ble_eq_true rfl) ?_
        rw [show (apL (apL g3 k3 (P)) (k3 + (P).length) [(((iI ((w % 128 + 128 : Nat) : Int))) &&& (iI (255 : Int)))]) = (apL g3 k3 (P ++ [iI ((w % 128 + 128 : Nat) : Int)])) from (by rw [b_and255 (by omega)]; exact apL_at rfl _)] at hP hD
        rw [show iI (((k3 + (P).length) + 1 : Nat) : Int) = iI ((k3 + (P ++ [iI ((w % 128 + 128 : Nat) : Int)]).length : Nat) : Int) from by rw [List.length_append]; rfl] at hP hD
        refine lv_iload_n hx hb dX5_putNumber_21 rfl (lv_at hl 1 rfl) ?_
        refine lv_sipush (v := iI (128 : Int)) hx hb dX5_putNumber_22 (by decide) ?_
        refine lv_idiv hx hb dX5_putNumber_25 (by decide) ?_
        refine kn_i (y := iI ((w / 128 : Nat) : Int)) (b_div128 (by omega)) ?_
        refine lv_istore_n (lv' := [(2, .int (iI ((w / 128 : Nat) : Int))), (0, .ref hm)]) hx hb dX5_putNumber_26 rfl hl (by decide) rfl (fun ls hl => ?_)
        refine lv_goto (tgt := 2) hx hb dX5_putNumber_27 (by decide) ?_
        exact ih2 (k + 1) (w / 128) (P ++ [iI ((w % 128 + 128 : Nat) : Int)]) _ _ _ (by omega) (by omega) (pw_div hk hk4 hwp) (by rw [hPv, vb_step (by omega) (by omega), List.append_assoc]; rfl) (by rw [List.length_append]; show P.length + 1 + 1 = k + 1; omega) hP hD hS (lv_sub hl [1, 0] rfl)
  rw [show g3 = (apL g3 k3 (([] : List Int32))) from (apL_nil g3 k3).symm] at hP hD
  rw [show iI ((k3 : Nat) : Int) = iI ((k3 + (([] : List Int32)).length : Nat) : Int) from rfl] at hP hD
  exact lp2 _ 1 v ([] : List Int32) _ _ _ (Nat.lt_succ_self _) (by omega) (by show v < 128 ^ 4; exact hv) (by rfl) (by rfl) hP hD hS (lv_sub hl [1, 0] rfl)

abbrev rm_c_Mo_putCheck : Room := { frames := 1, cells := 0, slots := 0, locals := 21 }
set_option maxHeartbeats 4000000 in
set_option maxRecDepth 100000 in
theorem c_Mo_putCheck (l : Launch) (D : va_G) (cI cZ : ClassId) (hm : Nat) (cd : Int32) (x1 : Nat) (x2 : Nat) (x3 : Nat) (x4 : Nat) (x5 : Nat) (x6 : Nat) (x7 : Nat) (kt : Nat) (k1 : Nat) (k2 : Nat) (k3 : Nat) (k4 : Nat) (k5 : Nat) (y1 : Nat) (y2 : Nat) (y3 : Nat) (y4 : Nat) (y5 : Nat) (y6 : Nat) (y7 : Nat) (ms : Nat) (kw : Nat) (kd : Nat) (ma : Nat) (lk : Int) (g3 : Nat → Int32) (w : Int32) (hk3 : k3 + 4 ≤ 900) : MV l yX5_putCheck wsX5_putCheck rm_c_Mo_putCheck D (kT cI cZ) [.ref hm, .int w] [(hm, .inr (5, [.int cd, .ref x1, .ref x2, .ref x3, .ref x4, .ref x5, .ref x6, .ref x7, .int (iI ((kt : Nat) : Int)), .int (iI ((k1 : Nat) : Int)), .int (iI ((k2 : Nat) : Int)), .int (iI ((k3 : Nat) : Int)), .int (iI ((k4 : Nat) : Int)), .int (iI ((k5 : Nat) : Int)), .ref y1, .ref y2, .ref y3, .ref y4, .ref y5, .ref y6, .ref y7, .int (iI ((ms : Nat) : Int)), .int (iI ((kw : Nat) : Int)), .int (iI ((kd : Nat) : Int)), .int (iI ((ma : Nat) : Int)), .int (iI (lk : Int))])), (x4, .inl (cI, 900, .inl g3))] (fun (_ : Unit) => True) (fun (u : Unit) => match u with | _ => [(hm, .inr (5, [.int cd, .ref x1, .ref x2, .ref x3, .ref x4, .ref x5, .ref x6, .ref x7, .int (iI ((kt : Nat) : Int)), .int (iI ((k1 : Nat) : Int)), .int (iI ((k2 : Nat) : Int)), .int (iI ((k3 + 4 : Nat) : Int)), .int (iI ((k4 : Nat) : Int)), .int (iI ((k5 : Nat) : Int)), .ref y1, .ref y2, .ref y3, .ref y4, .ref y5, .ref y6, .ref y7, .int (iI ((ms : Nat) : Int)), .int (iI ((kw : Nat) : Int)), .int (iI ((kd : Nat) : Int)), .int (iI ((ma : Nat) : Int)), .int (iI (lk : Int))])), (x4, .inl (cI, 900, .inl (apL g3 k3 (wL w))))]) 0 0 := by
  intro sz
  refine k_of (cc := cX5_putCheck) (maxL := 3) (ret := none) (by decide) rfl (Nat.le_of_ble_eq_true rfl) ?_
  intro p e s m args below meth c A Q hAe hQ hx hb hr hml hts hown hlocks hnm hP hK hD hS hA ls hl
  have hl : lv_has ls 3 [(0, .ref hm), (1, .int w)] := hl
  refine lv_bipush (v := iI (24 : Int)) hx hb dX5_putCheck_0 (by decide) ?_
  refine lv_istore_n (lv' := [(2, .int (iI (24 : Int))), (0, .ref hm), (1, .int w)]) hx hb dX5_putCheck_2 rfl hl (by decide) rfl (fun ls hl => ?_)
  refine lv_iload_n hx hb dX5_putCheck_3 rfl (lv_at hl 0 rfl) ?_
  refine lv_if_lt (tgt := 20) hx hb dX5_putCheck_4 (by decide) (fun c4 => ?_) (fun c4 => ?_)
  · skip
    have c4 := iI_ltT (a := (24 : Int)) (b := (0 : Int)) c4 (by omega)
    omega
  · skip
    have c4 := iI_ltF (a := (24 : Int)) (b := (0 : Int)) c4 (by omega)
    refine lv_aload_n hx hb dX5_putCheck_7 rfl (lv_at hl 1 rfl) ?_
    refine lv_iload_n hx hb dX5_putCheck_8 rfl (lv_at hl 2 rfl) ?_
    refine lv_iload_n hx hb dX5_putCheck_9 rfl (lv_at hl 0 rfl) ?_
    refine lv_ishr hx hb dX5_putCheck_10 ?_
    refine k_callv (wc := [(hm, .inr (5, [.int cd, .ref x1, .ref x2, .ref x3, .ref x4, .ref x5, .ref x6, .ref x7, .int (iI ((kt : Nat) : Int)), .int (iI ((k1 : Nat) : Int)), .int (iI ((k2 : Nat) : Int)), .int (iI ((k3 : Nat) : Int)), .int (iI ((k4 : Nat) : Int)), .int (iI ((k5 : Nat) : Int)), .ref y1, .ref y2, .ref y3, .ref y4, .ref y5, .ref y6, .ref y7, .int (iI ((ms : Nat) : Int)), .int (iI ((kw : Nat) : Int)), .int (iI ((kd : Nat) : Int)), .int (iI ((ma : Nat) : Int)), .int (iI (lk : Int))])), (x4, .inl (cI, 900, .inl g3))]) (wr := []) (wf := fun _ => [(hm, .inr (5, [.int cd, .ref x1, .ref x2, .ref x3, .ref x4, .ref x5, .ref x6, .ref x7, .int (iI ((kt : Nat) : Int)), .int (iI ((k1 : Nat) : Int)), .int (iI ((k2 : Nat) : Int)), .int (iI ((k3 + 1 : Nat) : Int)), .int (iI ((k4 : Nat) : Int)), .int (iI ((k5 : Nat) : Int)), .ref y1, .ref y2, .ref y3, .ref y4, .ref y5, .ref y6, .ref y7, .int (iI ((ms : Nat) : Int)), .int (iI ((kw : Nat) : Int)), .int (iI ((kd : Nat) : Int)), .int (iI ((ma : Nat) : Int)), .int (iI (lk : Int))])), (x4, .inl (cI, 900, .inl (apL g3 k3 [((((w) >>> ((iI (24 : Int)) &&& 31))) &&& (iI (255 : Int)))])))]) hK hP hD hS hA [0, 1] [] [0, 1] ⟨⟨rfl, rfl, by decide⟩, rfl, by decide, by decide⟩ (fun _ => ⟨rfl, rfl⟩) (by decide) (fun hPc hDc => va_runV (As := [.int ((w) >>> ((iI (24 : Int)) &&& 31))]) (rest := []) ⟨hx, hb, hml, hown, hts⟩ (c_Mo_put l D cI cZ (hm := hm) (cd := cd) (x1 := x1) (x2 := x2) (x3 := x3) (x4 := x4) (x5 := x5) (x6 := x6) (x7 := x7) (kt := kt) (k1 := k1) (k2 := k2) (k3 := k3) (k4 := k4) (k5 := k5) (y1 := y1) (y2 := y2) (y3 := y3) (y4 := y4) (y5 := y5) (y6 := y6) (y7 := y7) (ms := ms) (kw := kw) (kd := kd) (ma := ma) (lk := lk) (g3 := g3) (x := ((w) >>> ((iI (24 : Int)) &&& 31))) (hk3 := by omega) _) (cwV 1 hts (kgV wm604 wm606 wm28 wm44 wmcX5_put) rfl rfl rfl (by decide +kernel) ⟨Nat.le_of_ble_eq_true rfl, Nat.le_of_ble_eq_true rfl⟩) (k_preV hK hPc hDc (ci := 5) (q0 := 0) rfl rfl) rfl rfl hl.1 rfl (lv_room (Nat.le_of_ble_eq_true rfl)) dX5_putCheck_11 ⟨Nat.le_of_ble_eq_true rfl, Nat.le_of_ble_eq_true rfl⟩) (fun u H locs hw hP hD hS => ?_)
    have hP : va_P D vwCl [(hm, .inr (5, [.int cd, .ref x1, .ref x2, .ref x3, .ref x4, .ref x5, .ref x6, .ref x7, .int (iI ((kt : Nat) : Int)), .int (iI ((k1 : Nat) : Int)), .int (iI ((k2 : Nat) : Int)), .int (iI ((k3 + 1 : Nat) : Int)), .int (iI ((k4 : Nat) : Int)), .int (iI ((k5 : Nat) : Int)), .ref y1, .ref y2, .ref y3, .ref y4, .ref y5, .ref y6, .ref y7, .int (iI ((ms : Nat) : Int)), .int (iI ((kw : Nat) : Int)), .int (iI ((kd : Nat) : Int)), .int (iI ((ma : Nat) : Int)), .int (iI (lk : Int))])), (x4, .inl (cI, 900, .inl (apL g3 k3 [((((w) >>> ((iI (24 : Int)) &&& 31))) &&& (iI (255 : Int)))])))] H := hP
    have hD : va_D A [(hm, .inr (5, [.int cd, .ref x1, .ref x2, .ref x3, .ref x4, .ref x5, .ref x6, .ref x7, .int (iI ((kt : Nat) : Int)), .int (iI ((k1 : Nat) : Int)), .int (iI ((k2 : Nat) : Int)), .int (iI ((k3 + 1 : Nat) : Int)), .int (iI ((k4 : Nat) : Int)), .int (iI ((k5 : Nat) : Int)), .ref y1, .ref y2, .ref y3, .ref y4, .ref y5, .ref y6, .ref y7, .int (iI ((ms : Nat) : Int)), .int (iI ((kw : Nat) : Int)), .int (iI ((kd : Nat) : Int)), .int (iI ((ma : Nat) : Int)), .int (iI (lk : Int))])), (x4, .inl (cI, 900, .inl (apL g3 k3 [((((w) >>> ((iI (24 : Int)) &&& 31))) &&& (iI (255 : Int)))])))] := hD
    refine W.widen (k := 0) (n := 0) (Nat.le_of_ble_eq_true rfl) (Nat.le_of_ble_eq_true rfl) ?_
    rw [show (apL g3 k3 [((((w) >>> ((iI (24 : Int)) &&& 31))) &&& (iI (255 : Int)))]) = (apL g3 k3 [wB w 24]) from (by rw [w_b24])] at hP hD
    refine lv_iinc (v := iI (16 : Int)) (lv' := [(2, .int (iI (16 : Int))), (0, .ref hm), (1, .int w)]) hx hb dX5_putCheck_14 hl (k := 0) rfl (iA (by omega)) (by decide) rfl (fun ls hl => ?_)
    refine lv_goto (tgt := 3) hx hb dX5_putCheck_17 (by decide) ?_
    refine lv_iload_n hx hb dX5_putCheck_3 rfl (lv_at hl 0 rfl) ?_
    refine lv_if_lt (tgt := 20) hx hb dX5_putCheck_4 (by decide) (fun c4 => ?_) (fun c4 => ?_)
    · skip
      have c4 := iI_ltT (a := (16 : Int)) (b := (0 : Int)) c4 (by omega)
      omega
    · skip
      have c4 := iI_ltF (a := (16 : Int)) (b := (0 : Int)) c4 (by omega)
      refine lv_aload_n hx hb dX5_putCheck_7 rfl (lv_at hl 1 rfl) ?_
      refine lv_iload_n hx hb dX5_putCheck_8 rfl (lv_at hl 2 rfl) ?_
      refine lv_iload_n hx hb dX5_putCheck_9 rfl (lv_at hl 0 rfl) ?_
      refine lv_ishr hx hb dX5_putCheck_10 ?_
      refine k_callv (wc := [(hm, .inr (5, [.int cd, .ref x1, .ref x2, .ref x3, .ref x4, .ref x5, .ref x6, .ref x7, .int (iI ((kt : Nat) : Int)), .int (iI ((k1 : Nat) : Int)), .int (iI ((k2 : Nat) : Int)), .int (iI ((k3 + 1 : Nat) : Int)), .int (iI ((k4 : Nat) : Int)), .int (iI ((k5 : Nat) : Int)), .ref y1, .ref y2, .ref y3, .ref y4, .ref y5, .ref y6, .ref y7, .int (iI ((ms : Nat) : Int)), .int (iI ((kw : Nat) : Int)), .int (iI ((kd : Nat) : Int)), .int (iI ((ma : Nat) : Int)), .int (iI (lk : Int))])), (x4, .inl (cI, 900, .inl (apL g3 k3 [wB w 24])))]) (wr := []) (wf := fun _ => [(hm, .inr (5, [.int cd, .ref x1, .ref x2, .ref x3, .ref x4, .ref x5, .ref x6, .ref x7, .int (iI ((kt : Nat) : Int)), .int (iI ((k1 : Nat) : Int)), .int (iI ((k2 : Nat) : Int)), .int (iI (((k3 + 1) + 1 : Nat) : Int)), .int (iI ((k4 : Nat) : Int)), .int (iI ((k5 : Nat) : Int)), .ref y1, .ref y2, .ref y3, .ref y4, .ref y5, .ref y6, .ref y7, .int (iI ((ms : Nat) : Int)), .int (iI ((kw : Nat) : Int)), .int (iI ((kd : Nat) : Int)), .int (iI ((ma : Nat) : Int)), .int (iI (lk : Int))])), (x4, .inl (cI, 900, .inl (apL (apL g3 k3 [wB w 24]) (k3 + 1) [((((w) >>> ((iI (16 : Int)) &&& 31))) &&& (iI (255 : Int)))])))]) hK hP hD hS hA [0, 1] [] [0, 1] ⟨⟨rfl, rfl, by decide⟩, rfl, by decide, by decide⟩ (fun _ => ⟨rfl, rfl⟩) (by decide) (fun hPc hDc => va_runV (As := [.int ((w) >>> ((iI (16 : Int)) &&& 31))]) (rest := []) ⟨hx, hb, hml, hown, hts⟩ (c_Mo_put l D cI cZ (hm := hm) (cd := cd) (x1 := x1) (x2 := x2) (x3 := x3) (x4 := x4) (x5 := x5) (x6 := x6) (x7 := x7) (kt := kt) (k1 := k1) (k2 := k2) (k3 := k3 + 1) (k4 := k4) (k5 := k5) (y1 := y1) (y2 := y2) (y3 := y3) (y4 := y4) (y5 := y5) (y6 := y6) (y7 := y7) (ms := ms) (kw := kw) (kd := kd) (ma := ma) (lk := lk) (g3 := (apL g3 k3 [wB w 24])) (x := ((w) >>> ((iI (16 : Int)) &&& 31))) (hk3 := by omega) _) (cwV 1 hts (kgV wm604 wm606 wm28 wm44 wmcX5_put) rfl rfl rfl (by decide +kernel) ⟨Nat.le_of_ble_eq_true rfl, Nat.le_of_ble_eq_true rfl⟩) (k_preV hK hPc hDc (ci := 5) (q0 := 0) rfl rfl) rfl rfl hl.1 rfl (lv_room (Nat.le_of_ble_eq_true rfl)) dX5_putCheck_11 ⟨Nat.le_of_ble_eq_true rfl, Nat.le_of_ble_eq_true rfl⟩) (fun u H locs hw hP hD hS => ?_)
      have hP : va_P D vwCl [(hm, .inr (5, [.int cd, .ref x1, .ref x2, .ref x3, .ref x4, .ref x5, .ref x6, .ref x7, .int (iI ((kt : Nat) : Int)), .int (iI ((k1 : Nat) : Int)), .int (iI ((k2 : Nat) : Int)), .int (iI (((k3 + 1) + 1 : Nat) : Int)), .int (iI ((k4 : Nat) : Int)), .int (iI ((k5 : Nat) : Int)), .ref y1, .ref y2, .ref y3, .ref y4, .ref y5, .ref y6, .ref y7, .int (iI ((ms : Nat) : Int)), .int (iI ((kw : Nat) : Int)), .int (iI ((kd : Nat) : Int)), .int (iI ((ma : Nat) : Int)), .int (iI (lk : Int))])), (x4, .inl (cI, 900, .inl (apL (apL g3 k3 [wB w 24]) (k3 + 1) [((((w) >>> ((iI (16 : Int)) &&& 31))) &&& (iI (255 : Int)))])))] H := hP
      have hD : va_D A [(hm, .inr (5, [.int cd, .ref x1, .ref x2, .ref x3, .ref x4, .ref x5, .ref x6, .ref x7, .int (iI ((kt : Nat) : Int)), .int (iI ((k1 : Nat) : Int)), .int (iI ((k2 : Nat) : Int)), .int (iI (((k3 + 1) + 1 : Nat) : Int)), .int (iI ((k4 : Nat) : Int)), .int (iI ((k5 : Nat) : Int)), .ref y1, .ref y2, .ref y3, .ref y4, .ref y5, .ref y6, .ref y7, .int (iI ((ms : Nat) : Int)), .int (iI ((kw : Nat) : Int)), .int (iI ((kd : Nat) : Int)), .int (iI ((ma : Nat) : Int)), .int (iI (lk : Int))])), (x4, .inl (cI, 900, .inl (apL (apL g3 k3 [wB w 24]) (k3 + 1) [((((w) >>> ((iI (16 : Int)) &&& 31))) &&& (iI (255 : Int)))])))] := hD
      refine W.widen (k := 0) (n := 0) (Nat.le_of_ble_eq_true rfl) (Nat.le_of_ble_eq_true rfl) ?_
      rw [show (apL (apL g3 k3 [wB w 24]) (k3 + 1) [((((w) >>> ((iI (16 : Int)) &&& 31))) &&& (iI (255 : Int)))]) = (apL g3 k3 [wB w 24, wB w 16]) from (by rw [w_b16]; exact apL_at rfl _)] at hP hD
      refine lv_iinc (v := iI (8 : Int)) (lv' := [(2, .int (iI (8 : Int))), (0, .ref hm), (1, .int w)]) hx hb dX5_putCheck_14 hl (k := 0) rfl (iA (by omega)) (by decide) rfl (fun ls hl => ?_)
      refine lv_goto (tgt := 3) hx hb dX5_putCheck_17 (by decide) ?_
      refine lv_iload_n hx hb dX5_putCheck_3 rfl (lv_at hl 0 rfl) ?_
      refine lv_if_lt (tgt := 20) hx hb dX5_putCheck_4 (by decide) (fun c4 => ?_) (fun c4 => ?_)
      · skip
        have c4 := iI_ltT (a := (8 : Int)) (b := (0 : Int)) c4 (by omega)
        omega
      · skip
        have c4 := iI_ltF (a := (8 : Int)) (b := (0 : Int)) c4 (by omega)
        refine lv_aload_n hx hb dX5_putCheck_7 rfl (lv_at hl 1 rfl) ?_
        refine lv_iload_n hx hb dX5_putCheck_8 rfl (lv_at hl 2 rfl) ?_
        refine lv_iload_n hx hb dX5_putCheck_9 rfl (lv_at hl 0 rfl) ?_
        refine lv_ishr hx hb dX5_putCheck_10 ?_
        refine k_callv (wc := [(hm, .inr (5, [.int cd, .ref x1, .ref x2, .ref x3, .ref x4, .ref x5, .ref x6, .ref x7, .int (iI ((kt : Nat) : Int)), .int (iI ((k1 : Nat) : Int)), .int (iI ((k2 : Nat) : Int)), .int (iI (((k3 + 1) + 1 : Nat) : Int)), .int (iI ((k4 : Nat) : Int)), .int (iI ((k5 : Nat) : Int)), .ref y1, .ref y2, .ref y3, .ref y4, .ref y5, .ref y6, .ref y7, .int (iI ((ms : Nat) : Int)), .int (iI ((kw : Nat) : Int)), .int (iI ((kd : Nat) : Int)), .int (iI ((ma : Nat) : Int)), .int (iI (lk : Int))])), (x4, .inl (cI, 900, .inl (apL g3 k3 [wB w 24, wB w 16])))]) (wr := []) (wf := fun _ => [(hm, .inr (5, [.int cd, .ref x1, .ref x2, .ref x3, .ref x4, .ref x5, .ref x6, .ref x7, .int (iI ((kt : Nat) : Int)), .int (iI ((k1 : Nat) : Int)), .int (iI ((k2 : Nat) : Int)), .int (iI ((((k3 + 1) + 1) + 1 : Nat) : Int)), .int (iI ((k4 : Nat) : Int)), .int (iI ((k5 : Nat) : Int)), .ref y1, .ref y2, .ref y3, .ref y4, .ref y5, .ref y6, .ref y7, .int (iI ((ms : Nat) : Int)), .int (iI ((kw : Nat) : Int)), .int (iI ((kd : Nat) : Int)), .int (iI ((ma : Nat) : Int)), .int (iI (lk : Int))])), (x4, .inl (cI, 900, .inl (apL (apL g3 k3 [wB w 24, wB w 16]) ((k3 + 1) + 1) [((((w) >>> ((iI (8 : Int)) &&& 31))) &&& (iI (255 : Int)))])))]) hK hP hD hS hA [0, 1] [] [0, 1] ⟨⟨rfl, rfl, by decide⟩, rfl, by decide, by decide⟩ (fun _ => ⟨rfl, rfl⟩) (by decide) (fun hPc hDc => va_runV (As := [.int ((w) >>> ((iI (8 : Int)) &&& 31))]) (rest := []) ⟨hx, hb, hml, hown, hts⟩ (c_Mo_put l D cI cZ (hm := hm) (cd := cd) (x1 := x1) (x2 := x2) (x3 := x3) (x4 := x4) (x5 := x5) (x6 := x6) (x7 := x7) (kt := kt) (k1 := k1) (k2 := k2) (k3 := (k3 + 1) + 1) (k4 := k4) (k5 := k5) (y1 := y1) (y2 := y2) (y3 := y3) (y4 := y4) (y5 := y5) (y6 := y6) (y7 := y7) (ms := ms) (kw := kw) (kd := kd) (ma := ma) (lk := lk) (g3 := (apL g3 k3 [wB w 24, wB w 16])) (x := ((w) >>> ((iI (8 : Int)) &&& 31))) (hk3 := by omega) _) (cwV 1 hts (kgV wm604 wm606 wm28 wm44 wmcX5_put) rfl rfl rfl (by decide +kernel) ⟨Nat.le_of_ble_eq_true rfl, Nat.le_of_ble_eq_true rfl⟩) (k_preV hK hPc hDc (ci := 5) (q0 := 0) rfl rfl) rfl rfl hl.1 rfl (lv_room (Nat.le_of_ble_eq_true rfl)) dX5_putCheck_11 ⟨Nat.le_of_ble_eq_true rfl, Nat.le_of_ble_eq_true rfl⟩) (fun u H locs hw hP hD hS => ?_)
        have hP : va_P D vwCl [(hm, .inr (5, [.int cd, .ref x1, .ref x2, .ref x3, .ref x4, .ref x5, .ref x6, .ref x7, .int (iI ((kt : Nat) : Int)), .int (iI ((k1 : Nat) : Int)), .int (iI ((k2 : Nat) : Int)), .int (iI ((((k3 + 1) + 1) + 1 : Nat) : Int)), .int (iI ((k4 : Nat) : Int)), .int (iI ((k5 : Nat) : Int)), .ref y1, .ref y2, .ref y3, .ref y4, .ref y5, .ref y6, .ref y7, .int (iI ((ms : Nat) : Int)), .int (iI ((kw : Nat) : Int)), .int (iI ((kd : Nat) : Int)), .int (iI ((ma : Nat) : Int)), .int (iI (lk : Int))])), (x4, .inl (cI, 900, .inl (apL (apL g3 k3 [wB w 24, wB w 16]) ((k3 + 1) + 1) [((((w) >>> ((iI (8 : Int)) &&& 31))) &&& (iI (255 : Int)))])))] H := hP
        have hD : va_D A [(hm, .inr (5, [.int cd, .ref x1, .ref x2, .ref x3, .ref x4, .ref x5, .ref x6, .ref x7, .int (iI ((kt : Nat) : Int)), .int (iI ((k1 : Nat) : Int)), .int (iI ((k2 : Nat) : Int)), .int (iI ((((k3 + 1) + 1) + 1 : Nat) : Int)), .int (iI ((k4 : Nat) : Int)), .int (iI ((k5 : Nat) : Int)), .ref y1, .ref y2, .ref y3, .ref y4, .ref y5, .ref y6, .ref y7, .int (iI ((ms : Nat) : Int)), .int (iI ((kw : Nat) : Int)), .int (iI ((kd : Nat) : Int)), .int (iI ((ma : Nat) : Int)), .int (iI (lk : Int))])), (x4, .inl (cI, 900, .inl (apL (apL g3 k3 [wB w 24, wB w 16]) ((k3 + 1) + 1) [((((w) >>> ((iI (8 : Int)) &&& 31))) &&& (iI (255 : Int)))])))] := hD
        refine W.widen (k := 0) (n := 0) (Nat.le_of_ble_eq_true rfl) (Nat.le_of_ble_eq_true rfl) ?_
        rw [show (apL (apL g3 k3 [wB w 24, wB w 16]) ((k3 + 1) + 1) [((((w) >>> ((iI (8 : Int)) &&& 31))) &&& (iI (255 : Int)))]) = (apL g3 k3 [wB w 24, wB w 16, wB w 8]) from (by rw [w_b8]; exact apL_at rfl _)] at hP hD
        refine lv_iinc (v := iI (0 : Int)) (lv' := [(2, .int (iI (0 : Int))), (0, .ref hm), (1, .int w)]) hx hb dX5_putCheck_14 hl (k := 0) rfl (iA (by omega)) (by decide) rfl (fun ls hl => ?_)
        refine lv_goto (tgt := 3) hx hb dX5_putCheck_17 (by decide) ?_
        refine lv_iload_n hx hb dX5_putCheck_3 rfl (lv_at hl 0 rfl) ?_
        refine lv_if_lt (tgt := 20) hx hb dX5_putCheck_4 (by decide) (fun c4 => ?_) (fun c4 => ?_)
        · skip
          have c4 := iI_ltT (a := (0 : Int)) (b := (0 : Int)) c4 (by omega)
          omega
        · skip
          have c4 := iI_ltF (a := (0 : Int)) (b := (0 : Int)) c4 (by omega)
          refine lv_aload_n hx hb dX5_putCheck_7 rfl (lv_at hl 1 rfl) ?_
          refine lv_iload_n hx hb dX5_putCheck_8 rfl (lv_at hl 2 rfl) ?_
          refine lv_iload_n hx hb dX5_putCheck_9 rfl (lv_at hl 0 rfl) ?_
          refine lv_ishr hx hb dX5_putCheck_10 ?_
          refine k_callv (wc := [(hm, .inr (5, [.int cd, .ref x1, .ref x2, .ref x3, .ref x4, .ref x5, .ref x6, .ref x7, .int (iI ((kt : Nat) : Int)), .int (iI ((k1 : Nat) : Int)), .int (iI ((k2 : Nat) : Int)), .int (iI ((((k3 + 1) + 1) + 1 : Nat) : Int)), .int (iI ((k4 : Nat) : Int)), .int (iI ((k5 : Nat) : Int)), .ref y1, .ref y2, .ref y3, .ref y4, .ref y5, .ref y6, .ref y7, .int (iI ((ms : Nat) : Int)), .int (iI ((kw : Nat) : Int)), .int (iI ((kd : Nat) : Int)), .int (iI ((ma : Nat) : Int)), .int (iI (lk : Int))])), (x4, .inl (cI, 900, .inl (apL g3 k3 [wB w 24, wB w 16, wB w 8])))]) (wr := []) (wf := fun _ => [(hm, .inr (5, [.int cd, .ref x1, .ref x2, .ref x3, .ref x4, .ref x5, .ref x6, .ref x7, .int (iI ((kt : Nat) : Int)), .int (iI ((k1 : Nat) : Int)), .int (iI ((k2 : Nat) : Int)), .int (iI (((((k3 + 1) + 1) + 1) + 1 : Nat) : Int)), .int (iI ((k4 : Nat) : Int)), .int (iI ((k5 : Nat) : Int)), .ref y1, .ref y2, .ref y3, .ref y4, .ref y5, .ref y6, .ref y7, .int (iI ((ms : Nat) : Int)), .int (iI ((kw : Nat) : Int)), .int (iI ((kd : Nat) : Int)), .int (iI ((ma : Nat) : Int)), .int (iI (lk : Int))])), (x4, .inl (cI, 900, .inl (apL (apL g3 k3 [wB w 24, wB w 16, wB w 8]) (((k3 + 1) + 1) + 1) [((((w) >>> ((iI (0 : Int)) &&& 31))) &&& (iI (255 : Int)))])))]) hK hP hD hS hA [0, 1] [] [0, 1] ⟨⟨rfl, rfl, by decide⟩, rfl, by decide, by decide⟩ (fun _ => ⟨rfl, rfl⟩) (by decide) (fun hPc hDc => va_runV (As := [.int ((w) >>> ((iI (0 : Int)) &&& 31))]) (rest := []) ⟨hx, hb, hml, hown, hts⟩ (c_Mo_put l D cI cZ (hm := hm) (cd := cd) (x1 := x1) (x2 := x2) (x3 := x3) (x4 := x4) (x5 := x5) (x6 := x6) (x7 := x7) (kt := kt) (k1 := k1) (k2 := k2) (k3 := ((k3 + 1) + 1) + 1) (k4 := k4) (k5 := k5) (y1 := y1) (y2 := y2) (y3 := y3) (y4 := y4) (y5 := y5) (y6 := y6) (y7 := y7) (ms := ms) (kw := kw) (kd := kd) (ma := ma) (lk := lk) (g3 := (apL g3 k3 [wB w 24, wB w 16, wB w 8])) (x := ((w) >>> ((iI (0 : Int)) &&& 31))) (hk3 := by omega) _) (cwV 1 hts (kgV wm604 wm606 wm28 wm44 wmcX5_put) rfl rfl rfl (by decide +kernel) ⟨Nat.le_of_ble_eq_true rfl, Nat.le_of_ble_eq_true rfl⟩) (k_preV hK hPc hDc (ci := 5) (q0 := 0) rfl rfl) rfl rfl hl.1 rfl (lv_room (Nat.le_of_ble_eq_true rfl)) dX5_putCheck_11 ⟨Nat.le_of_ble_eq_true rfl, Nat.le_of_ble_eq_true rfl⟩) (fun u H locs hw hP hD hS => ?_)
          have hP : va_P D vwCl [(hm, .inr (5, [.int cd, .ref x1, .ref x2, .ref x3, .ref x4, .ref x5, .ref x6, .ref x7, .int (iI ((kt : Nat) : Int)), .int (iI ((k1 : Nat) : Int)), .int (iI ((k2 : Nat) : Int)), .int (iI (((((k3 + 1) + 1) + 1) + 1 : Nat) : Int)), .int (iI ((k4 : Nat) : Int)), .int (iI ((k5 : Nat) : Int)), .ref y1, .ref y2, .ref y3, .ref y4, .ref y5, .ref y6, .ref y7, .int (iI ((ms : Nat) : Int)), .int (iI ((kw : Nat) : Int)), .int (iI ((kd : Nat) : Int)), .int (iI ((ma : Nat) : Int)), .int (iI (lk : Int))])), (x4, .inl (cI, 900, .inl (apL (apL g3 k3 [wB w 24, wB w 16, wB w 8]) (((k3 + 1) + 1) + 1) [((((w) >>> ((iI (0 : Int)) &&& 31))) &&& (iI (255 : Int)))])))] H := hP
          have hD : va_D A [(hm, .inr (5, [.int cd, .ref x1, .ref x2, .ref x3, .ref x4, .ref x5, .ref x6, .ref x7, .int (iI ((kt : Nat) : Int)), .int (iI ((k1 : Nat) : Int)), .int (iI ((k2 : Nat) : Int)), .int (iI (((((k3 + 1) + 1) + 1) + 1 : Nat) : Int)), .int (iI ((k4 : Nat) : Int)), .int (iI ((k5 : Nat) : Int)), .ref y1, .ref y2, .ref y3, .ref y4, .ref y5, .ref y6, .ref y7, .int (iI ((ms : Nat) : Int)), .int (iI ((kw : Nat) : Int)), .int (iI ((kd : Nat) : Int)), .int (iI ((ma : Nat) : Int)), .int (iI (lk : Int))])), (x4, .inl (cI, 900, .inl (apL (apL g3 k3 [wB w 24, wB w 16, wB w 8]) (((k3 + 1) + 1) + 1) [((((w) >>> ((iI (0 : Int)) &&& 31))) &&& (iI (255 : Int)))])))] := hD
          refine W.widen (k := 0) (n := 0) (Nat.le_of_ble_eq_true rfl) (Nat.le_of_ble_eq_true rfl) ?_
          rw [show (apL (apL g3 k3 [wB w 24, wB w 16, wB w 8]) (((k3 + 1) + 1) + 1) [((((w) >>> ((iI (0 : Int)) &&& 31))) &&& (iI (255 : Int)))]) = (apL g3 k3 [wB w 24, wB w 16, wB w 8, wB w 0]) from (by rw [w_b0]; exact apL_at rfl _)] at hP hD
          refine lv_iinc (v := iI (-8 : Int)) (lv' := [(2, .int (iI (-8 : Int))), (0, .ref hm), (1, .int w)]) hx hb dX5_putCheck_14 hl (k := 0) rfl (iA (by omega)) (by decide) rfl (fun ls hl => ?_)
          refine lv_goto (tgt := 3) hx hb dX5_putCheck_17 (by decide) ?_
          refine lv_iload_n hx hb dX5_putCheck_3 rfl (lv_at hl 0 rfl) ?_
          refine lv_if_lt (tgt := 20) hx hb dX5_putCheck_4 (by decide) (fun c4 => ?_) (fun c4 => ?_)
          · skip
            have c4 := iI_ltT (a := (-8 : Int)) (b := (0 : Int)) c4 (by omega)
            exact k_vret () hx hb hr hlocks hK hP hD hS [0, 1] (by decide) rfl rfl (trivial) hAe hQ dX5_putCheck_20
          · skip
            have c4 := iI_ltF (a := (-8 : Int)) (b := (0 : Int)) c4 (by omega)
            omega

abbrev rm_c_Mo_steps : Room := { frames := 0, cells := 0, slots := 0, locals := 0 }
set_option maxHeartbeats 4000000 in
set_option maxRecDepth 100000 in
theorem c_Mo_steps (l : Launch) (D : va_G) (cI cZ : ClassId) (hm : Nat) (cd : Int32) (x1 : Nat) (x2 : Nat) (x3 : Nat) (x4 : Nat) (x5 : Nat) (x6 : Nat) (x7 : Nat) (kt : Nat) (k1 : Nat) (k2 : Nat) (k3 : Nat) (k4 : Nat) (k5 : Nat) (y1 : Nat) (y2 : Nat) (y3 : Nat) (y4 : Nat) (y5 : Nat) (y6 : Nat) (y7 : Nat) (ms : Nat) (kw : Nat) (kd : Nat) (ma : Nat) (lk : Int)  : MI l yX5_steps wsX5_steps rm_c_Mo_steps D (kT cI cZ) [.ref hm] [(hm, .inr (5, [.int cd, .ref x1, .ref x2, .ref x3, .ref x4, .ref x5, .ref x6, .ref x7, .int (iI ((kt : Nat) : Int)), .int (iI ((k1 : Nat) : Int)), .int (iI ((k2 : Nat) : Int)), .int (iI ((k3 : Nat) : Int)), .int (iI ((k4 : Nat) : Int)), .int (iI ((k5 : Nat) : Int)), .ref y1, .ref y2, .ref y3, .ref y4, .ref y5, .ref y6, .ref y7, .int (iI ((ms : Nat) : Int)), .int (iI ((kw : Nat) : Int)), .int (iI ((kd : Nat) : Int)), .int (iI ((ma : Nat) : Int)), .int (iI (lk : Int))]))] (fun (r : Int32) (_ : Unit) => r = iI ((ms : Nat) : Int)) (fun (u : Unit) => match u with | _ => [(hm, .inr (5, [.int (iI (0 : Int)), .ref x1, .ref x2, .ref x3, .ref x4, .ref x5, .ref x6, .ref x7, .int (iI ((kt : Nat) : Int)), .int (iI ((k1 : Nat) : Int)), .int (iI ((k2 : Nat) : Int)), .int (iI ((k3 : Nat) : Int)), .int (iI ((k4 : Nat) : Int)), .int (iI ((k5 : Nat) : Int)), .ref y1, .ref y2, .ref y3, .ref y4, .ref y5, .ref y6, .ref y7, .int (iI ((ms : Nat) : Int)), .int (iI ((kw : Nat) : Int)), .int (iI ((kd : Nat) : Int)), .int (iI ((ma : Nat) : Int)), .int (iI (lk : Int))]))]) 0 0 := by
  intro sz
  refine k_of (cc := cX5_steps) (maxL := 1) (ret := (some .int)) (by decide) rfl (Nat.le_of_ble_eq_true rfl) ?_
  intro p e s m args below meth c A Q hAe hQ hx hb hr hml hts hown hlocks hnm hP hK hD hS hA ls hl
  have hl : lv_has ls 1 [(0, .ref hm)] := hl
  have hi_X5 : ∀ w ∈ u_ws RX5 TX5 26, w ∈ wsX5_steps := fun w h => km (ikX5 w h)
  have fl52 := hts _ (km wm475)
  have fl88 := hts _ (km wm496)
  refine lv_aload_n hx hb dX5_steps_0 rfl (lv_at hl 0 rfl) ?_
  refine lv_iconst (v := iI (0 : Int)) hx hb dX5_steps_1 rfl ?_
  refine va_put (D := D) (ci := 5) (v := .int (iI (0 : Int))) (ty := .int) (C := RX5) (T := TX5) (N := 26) hx hb hts hi_X5 tyX5 tyX5_ok nmX5 hown hK hP hD hS 0 rfl rfl 0 (by decide) fl52 (fun _ h9 => h9) rfl (by decide +kernel) rfl rfl (Nat.le_of_ble_eq_true rfl) dX5_steps_2 (fun H locs hP hD hS => ?_)
  have hP : va_P D vwCl [(hm, .inr (5, [.int (iI (0 : Int)), .ref x1, .ref x2, .ref x3, .ref x4, .ref x5, .ref x6, .ref x7, .int (iI ((kt : Nat) : Int)), .int (iI ((k1 : Nat) : Int)), .int (iI ((k2 : Nat) : Int)), .int (iI ((k3 : Nat) : Int)), .int (iI ((k4 : Nat) : Int)), .int (iI ((k5 : Nat) : Int)), .ref y1, .ref y2, .ref y3, .ref y4, .ref y5, .ref y6, .ref y7, .int (iI ((ms : Nat) : Int)), .int (iI ((kw : Nat) : Int)), .int (iI ((kd : Nat) : Int)), .int (iI ((ma : Nat) : Int)), .int (iI (lk : Int))]))] H := hP
  have hD : va_D A [(hm, .inr (5, [.int (iI (0 : Int)), .ref x1, .ref x2, .ref x3, .ref x4, .ref x5, .ref x6, .ref x7, .int (iI ((kt : Nat) : Int)), .int (iI ((k1 : Nat) : Int)), .int (iI ((k2 : Nat) : Int)), .int (iI ((k3 : Nat) : Int)), .int (iI ((k4 : Nat) : Int)), .int (iI ((k5 : Nat) : Int)), .ref y1, .ref y2, .ref y3, .ref y4, .ref y5, .ref y6, .ref y7, .int (iI ((ms : Nat) : Int)), .int (iI ((kw : Nat) : Int)), .int (iI ((kd : Nat) : Int)), .int (iI ((ma : Nat) : Int)), .int (iI (lk : Int))]))] := hD
  refine lv_aload_n hx hb dX5_steps_5 rfl (lv_at hl 0 rfl) ?_
  refine va_get (D := D) (ci := 5) (v := .int (iI ((ms : Nat) : Int))) (C := RX5) (T := TX5) (N := 26) hx hb hts hi_X5 hown hK hP 0 rfl rfl 21 (by decide) fl88 (fun _ h9 => h9) rfl dX5_steps_6 ?_
  exact k_iret () hx hb hr hlocks hK hP hD hS [0] (by decide) rfl rfl (rfl) hAe hQ dX5_steps_9

abbrev rm_c_Mo_step : Room := { frames := 0, cells := 0, slots := 0, locals := 0 }
set_option maxHeartbeats 4000000 in
set_option maxRecDepth 100000 in
theorem c_Mo_step (l : Launch) (D : va_G) (cI cZ : ClassId) (hm : Nat) (cd : Int32) (x1 : Nat) (x2 : Nat) (x3 : Nat) (x4 : Nat) (x5 : Nat) (x6 : Nat) (x7 : Nat) (kt : Nat) (k1 : Nat) (k2 : Nat) (k3 : Nat) (k4 : Nat) (k5 : Nat) (y1 : Nat) (y2 : Nat) (y3 : Nat) (y4 : Nat) (y5 : Nat) (y6 : Nat) (y7 : Nat) (ms : Nat) (kw : Nat) (kd : Nat) (ma : Nat) (lk : Int) (Q1 : Nat → Int) (Q2 : Nat → Int) (Q3 : Nat → Int) (Q4 : Nat → Int) (Q5 : Nat → Int) (i0 : Int) (z : Int) (hms : ms ≤ 300) (hQ3 : ∀ i, i < ms → -1 ≤ Q3 i ∧ Q3 i ≤ 300) (hQ4 : ∀ i, i < ms → Q4 i = 0 ∨ Q4 i = 1) (hzr : -2147483648 ≤ z ∧ z < 2147483648) (hir : -2147483648 ≤ i0 ∧ i0 < 2147483648) : MI l yX5_step wsX5_step rm_c_Mo_step D (kT cI cZ) [.ref hm, .int (iI (i0 : Int)), .int (iI (z : Int))] [(hm, .inr (5, [.int cd, .ref x1, .ref x2, .ref x3, .ref x4, .ref x5, .ref x6, .ref x7, .int (iI ((kt : Nat) : Int)), .int (iI ((k1 : Nat) : Int)), .int (iI ((k2 : Nat) : Int)), .int (iI ((k3 : Nat) : Int)), .int (iI ((k4 : Nat) : Int)), .int (iI ((k5 : Nat) : Int)), .ref y1, .ref y2, .ref y3, .ref y4, .ref y5, .ref y6, .ref y7, .int (iI ((ms : Nat) : Int)), .int (iI ((kw : Nat) : Int)), .int (iI ((kd : Nat) : Int)), .int (iI ((ma : Nat) : Int)), .int (iI (lk : Int))])), (y1, .inl (cI, 300, .inl (kA Q1))), (y2, .inl (cI, 300, .inl (kA Q2))), (y3, .inl (cI, 300, .inl (kA Q3))), (y4, .inl (cI, 300, .inl (kA Q4))), (y5, .inl (cI, 300, .inl (kA Q5)))] (fun (r : Int32) (_ : Unit) => r = iI (spF i0 z ms Q1 Q2 Q3 Q4 Q5 : Int)) (fun (u : Unit) => match u with | _ => [(hm, .inr (5, [.int (iI (0 : Int)), .ref x1, .ref x2, .ref x3, .ref x4, .ref x5, .ref x6, .ref x7, .int (iI ((kt : Nat) : Int)), .int (iI ((k1 : Nat) : Int)), .int (iI ((k2 : Nat) : Int)), .int (iI ((k3 : Nat) : Int)), .int (iI ((k4 : Nat) : Int)), .int (iI ((k5 : Nat) : Int)), .ref y1, .ref y2, .ref y3, .ref y4, .ref y5, .ref y6, .ref y7, .int (iI ((ms : Nat) : Int)), .int (iI ((kw : Nat) : Int)), .int (iI ((kd : Nat) : Int)), .int (iI ((ma : Nat) : Int)), .int (iI (lk : Int))])), (y1, .inl (cI, 300, .inl (kA Q1))), (y2, .inl (cI, 300, .inl (kA Q2))), (y3, .inl (cI, 300, .inl (kA Q3))), (y4, .inl (cI, 300, .inl (kA Q4))), (y5, .inl (cI, 300, .inl (kA Q5)))]) 0 0 := by
  intro sz
  refine k_of (cc := cX5_step) (maxL := 3) (ret := (some .int)) (by decide) rfl (Nat.le_of_ble_eq_true rfl) ?_
  intro p e s m args below meth c A Q hAe hQ hx hb hr hml hts hown hlocks hnm hP hK hD hS hA ls hl
  have hl : lv_has ls 3 [(0, .ref hm), (1, .int (iI (i0 : Int))), (2, .int (iI (z : Int)))] := hl
  have hi_X5 : ∀ w ∈ u_ws RX5 TX5 26, w ∈ wsX5_step := fun w h => km (ikX5 w h)
  have fl52 := hts _ (km wm475)
  have fl88 := hts _ (km wm496)
  have fl37 := hts _ (km wm491)
  have fl31 := hts _ (km wm489)
  have fl34 := hts _ (km wm490)
  have fl40 := hts _ (km wm492)
  have fl43 := hts _ (km wm493)
  refine lv_aload_n hx hb dX5_step_0 rfl (lv_at hl 0 rfl) ?_
  refine lv_iconst (v := iI (0 : Int)) hx hb dX5_step_1 rfl ?_
  refine va_put (D := D) (ci := 5) (v := .int (iI (0 : Int))) (ty := .int) (C := RX5) (T := TX5) (N := 26) hx hb hts hi_X5 tyX5 tyX5_ok nmX5 hown hK hP hD hS 0 rfl rfl 0 (by decide) fl52 (fun _ h9 => h9) rfl (by decide +kernel) rfl rfl (Nat.le_of_ble_eq_true rfl) dX5_step_2 (fun H locs hP hD hS => ?_)
  have hP : va_P D vwCl [(hm, .inr (5, [.int (iI (0 : Int)), .ref x1, .ref x2, .ref x3, .ref x4, .ref x5, .ref x6, .ref x7, .int (iI ((kt : Nat) : Int)), .int (iI ((k1 : Nat) : Int)), .int (iI ((k2 : Nat) : Int)), .int (iI ((k3 : Nat) : Int)), .int (iI ((k4 : Nat) : Int)), .int (iI ((k5 : Nat) : Int)), .ref y1, .ref y2, .ref y3, .ref y4, .ref y5, .ref y6, .ref y7, .int (iI ((ms : Nat) : Int)), .int (iI ((kw : Nat) : Int)), .int (iI ((kd : Nat) : Int)), .int (iI ((ma : Nat) : Int)), .int (iI (lk : Int))])), (y1, .inl (cI, 300, .inl (kA Q1))), (y2, .inl (cI, 300, .inl (kA Q2))), (y3, .inl (cI, 300, .inl (kA Q3))), (y4, .inl (cI, 300, .inl (kA Q4))), (y5, .inl (cI, 300, .inl (kA Q5)))] H := hP
  have hD : va_D A [(hm, .inr (5, [.int (iI (0 : Int)), .ref x1, .ref x2, .ref x3, .ref x4, .ref x5, .ref x6, .ref x7, .int (iI ((kt : Nat) : Int)), .int (iI ((k1 : Nat) : Int)), .int (iI ((k2 : Nat) : Int)), .int (iI ((k3 : Nat) : Int)), .int (iI ((k4 : Nat) : Int)), .int (iI ((k5 : Nat) : Int)), .ref y1, .ref y2, .ref y3, .ref y4, .ref y5, .ref y6, .ref y7, .int (iI ((ms : Nat) : Int)), .int (iI ((kw : Nat) : Int)), .int (iI ((kd : Nat) : Int)), .int (iI ((ma : Nat) : Int)), .int (iI (lk : Int))])), (y1, .inl (cI, 300, .inl (kA Q1))), (y2, .inl (cI, 300, .inl (kA Q2))), (y3, .inl (cI, 300, .inl (kA Q3))), (y4, .inl (cI, 300, .inl (kA Q4))), (y5, .inl (cI, 300, .inl (kA Q5)))] := hD
  refine lv_iload_n hx hb dX5_step_5 rfl (lv_at hl 1 rfl) ?_
  refine lv_if_lt (tgt := 17) hx hb dX5_step_6 (by decide) (fun c6 => ?_) (fun c6 => ?_)
  · skip
    have c6 := iI_ltT (a := (i0 : Int)) (b := (0 : Int)) c6 (by omega)
    refine lv_iconst (v := iI (-1 : Int)) hx hb dX5_step_17 rfl ?_
    exact k_iret () hx hb hr hlocks hK hP hD hS [0, 1, 2, 3, 4, 5] (by decide) rfl rfl (by unfold spF; rw [if_pos (by omega)]) hAe hQ dX5_step_18
  · skip
    have c6 := iI_ltF (a := (i0 : Int)) (b := (0 : Int)) c6 (by omega)
    refine lv_iload_n hx hb dX5_step_9 rfl (lv_at hl 1 rfl) ?_
    refine lv_aload_n hx hb dX5_step_10 rfl (lv_at hl 0 rfl) ?_
    refine va_get (D := D) (ci := 5) (v := .int (iI ((ms : Nat) : Int))) (C := RX5) (T := TX5) (N := 26) hx hb hts hi_X5 hown hK hP 0 rfl rfl 21 (by decide) fl88 (fun _ h9 => h9) rfl dX5_step_11 ?_
    refine lv_icmp_lt (tgt := 19) hx hb dX5_step_14 (by decide) (fun c14 => ?_) (fun c14 => ?_)
    · skip
      have c14 := iI_ltT (a := (i0 : Int)) (b := ((ms : Nat) : Int)) c14 (by omega)
      have h3 := hQ3 i0.toNat (by omega)
      have h4 := hQ4 i0.toNat (by omega)
      refine lv_iload_n hx hb dX5_step_19 rfl (lv_at hl 2 rfl) ?_
      by_cases hsw20 : (z : Int) < 0 ∨ 5 < (z : Int)
      · skip
        refine lv_tableOut (tgt := 111) hx hb dX5_step_20 (by rw [iI_T (by omega)]; exact hsw20) (by decide) ?_
        refine lv_iconst (v := iI (-1 : Int)) hx hb dX5_step_111 rfl ?_
        exact k_iret () hx hb hr hlocks hK hP hD hS [0, 1, 2, 3, 4, 5] (by decide) rfl rfl (by unfold spF; rw [if_neg (fun h => h (by omega)), if_neg (by omega), if_neg (by omega), if_neg (by omega), if_neg (by omega), if_neg (by omega), if_neg (by omega)]) hAe hQ dX5_step_112
      · skip
        rcases (show (z : Int) = 0 ∨ (z : Int) = 1 ∨ (z : Int) = 2 ∨ (z : Int) = 3 ∨ (z : Int) = 4 ∨ (z : Int) = 5 by omega) with hsw20 | hsw20 | hsw20 | hsw20 | hsw20 | hsw20
        · skip
          refine lv_tableIn (off := 40) (tgt := 60) hx hb dX5_step_20 (by rw [iI_T (by omega)]; omega) (by rw [iI_T (by omega)]; omega) (by rw [iI_T (by omega), hsw20]; rfl) (by decide) ?_
          refine lv_aload_n hx hb dX5_step_60 rfl (lv_at hl 0 rfl) ?_
          refine va_get (D := D) (ci := 5) (v := .ref y3) (C := RX5) (T := TX5) (N := 26) hx hb hts hi_X5 hown hK hP 0 rfl rfl 16 (by decide) fl37 (fun _ h9 => h9) rfl dX5_step_61 ?_
          refine lv_iload_n hx hb dX5_step_64 rfl (lv_at hl 1 rfl) ?_
          refine k_iald hx hb hK hP 3 0 rfl rfl i0.toNat (by omega) dX5_step_65 ?_
          refine kn_i (y := iI (Q3 i0.toNat : Int)) (rfl) ?_
          refine lv_iconst (v := iI (-1 : Int)) hx hb dX5_step_66 rfl ?_
          refine lv_icmp_ne (tgt := 74) hx hb dX5_step_67 (by decide) (fun c67 => ?_) (fun c67 => ?_)
          · skip
            have c67 := iI_eqF (a := (Q3 i0.toNat : Int)) (b := (-1 : Int)) c67 (by omega)
            refine lv_iconst (v := iI (1 : Int)) hx hb dX5_step_74 rfl ?_
            exact k_iret () hx hb hr hlocks hK hP hD hS [0, 1, 2, 3, 4, 5] (by decide) rfl rfl (by unfold spF; rw [if_neg (fun h => h (by omega)), if_pos hsw20]; first | rw [if_pos (by omega)] | rw [if_neg (by omega)]) hAe hQ dX5_step_75
          · skip
            have c67 := iI_eqT (a := (Q3 i0.toNat : Int)) (b := (-1 : Int)) c67 (by omega)
            refine lv_iconst (v := iI (0 : Int)) hx hb dX5_step_70 rfl ?_
            refine lv_goto (tgt := 75) hx hb dX5_step_71 (by decide) ?_
            exact k_iret () hx hb hr hlocks hK hP hD hS [0, 1, 2, 3, 4, 5] (by decide) rfl rfl (by unfold spF; rw [if_neg (fun h => h (by omega)), if_pos hsw20]; first | rw [if_pos (by omega)] | rw [if_neg (by omega)]) hAe hQ dX5_step_75
        · skip
          refine lv_tableIn (off := 56) (tgt := 76) hx hb dX5_step_20 (by rw [iI_T (by omega)]; omega) (by rw [iI_T (by omega)]; omega) (by rw [iI_T (by omega), hsw20]; rfl) (by decide) ?_
          refine lv_aload_n hx hb dX5_step_76 rfl (lv_at hl 0 rfl) ?_
          refine va_get (D := D) (ci := 5) (v := .ref y1) (C := RX5) (T := TX5) (N := 26) hx hb hts hi_X5 hown hK hP 0 rfl rfl 14 (by decide) fl31 (fun _ h9 => h9) rfl dX5_step_77 ?_
          refine lv_iload_n hx hb dX5_step_80 rfl (lv_at hl 1 rfl) ?_
          refine k_iald hx hb hK hP 1 0 rfl rfl i0.toNat (by omega) dX5_step_81 ?_
          refine kn_i (y := iI (Q1 i0.toNat : Int)) (rfl) ?_
          exact k_iret () hx hb hr hlocks hK hP hD hS [0, 1, 2, 3, 4, 5] (by decide) rfl rfl (by unfold spF; rw [if_neg (fun h => h (by omega)), if_neg (by omega), if_pos hsw20]) hAe hQ dX5_step_82
        · skip
          refine lv_tableIn (off := 63) (tgt := 83) hx hb dX5_step_20 (by rw [iI_T (by omega)]; omega) (by rw [iI_T (by omega)]; omega) (by rw [iI_T (by omega), hsw20]; rfl) (by decide) ?_
          refine lv_aload_n hx hb dX5_step_83 rfl (lv_at hl 0 rfl) ?_
          refine va_get (D := D) (ci := 5) (v := .ref y2) (C := RX5) (T := TX5) (N := 26) hx hb hts hi_X5 hown hK hP 0 rfl rfl 15 (by decide) fl34 (fun _ h9 => h9) rfl dX5_step_84 ?_
          refine lv_iload_n hx hb dX5_step_87 rfl (lv_at hl 1 rfl) ?_
          refine k_iald hx hb hK hP 2 0 rfl rfl i0.toNat (by omega) dX5_step_88 ?_
          refine kn_i (y := iI (Q2 i0.toNat : Int)) (rfl) ?_
          exact k_iret () hx hb hr hlocks hK hP hD hS [0, 1, 2, 3, 4, 5] (by decide) rfl rfl (by unfold spF; rw [if_neg (fun h => h (by omega)), if_neg (by omega), if_neg (by omega), if_pos hsw20]) hAe hQ dX5_step_89
        · skip
          refine lv_tableIn (off := 70) (tgt := 90) hx hb dX5_step_20 (by rw [iI_T (by omega)]; omega) (by rw [iI_T (by omega)]; omega) (by rw [iI_T (by omega), hsw20]; rfl) (by decide) ?_
          refine lv_aload_n hx hb dX5_step_90 rfl (lv_at hl 0 rfl) ?_
          refine va_get (D := D) (ci := 5) (v := .ref y3) (C := RX5) (T := TX5) (N := 26) hx hb hts hi_X5 hown hK hP 0 rfl rfl 16 (by decide) fl37 (fun _ h9 => h9) rfl dX5_step_91 ?_
          refine lv_iload_n hx hb dX5_step_94 rfl (lv_at hl 1 rfl) ?_
          refine k_iald hx hb hK hP 3 0 rfl rfl i0.toNat (by omega) dX5_step_95 ?_
          refine kn_i (y := iI (Q3 i0.toNat : Int)) (rfl) ?_
          exact k_iret () hx hb hr hlocks hK hP hD hS [0, 1, 2, 3, 4, 5] (by decide) rfl rfl (by unfold spF; rw [if_neg (fun h => h (by omega)), if_neg (by omega), if_neg (by omega), if_neg (by omega), if_pos hsw20]) hAe hQ dX5_step_96
        · skip
          refine lv_tableIn (off := 77) (tgt := 97) hx hb dX5_step_20 (by rw [iI_T (by omega)]; omega) (by rw [iI_T (by omega)]; omega) (by rw [iI_T (by omega), hsw20]; rfl) (by decide) ?_
          refine lv_aload_n hx hb dX5_step_97 rfl (lv_at hl 0 rfl) ?_
          refine va_get (D := D) (ci := 5) (v := .ref y4) (C := RX5) (T := TX5) (N := 26) hx hb hts hi_X5 hown hK hP 0 rfl rfl 17 (by decide) fl40 (fun _ h9 => h9) rfl dX5_step_98 ?_
          refine lv_iload_n hx hb dX5_step_101 rfl (lv_at hl 1 rfl) ?_
          refine k_iald hx hb hK hP 4 0 rfl rfl i0.toNat (by omega) dX5_step_102 ?_
          refine kn_i (y := iI (Q4 i0.toNat : Int)) (rfl) ?_
          exact k_iret () hx hb hr hlocks hK hP hD hS [0, 1, 2, 3, 4, 5] (by decide) rfl rfl (by unfold spF; rw [if_neg (fun h => h (by omega)), if_neg (by omega), if_neg (by omega), if_neg (by omega), if_neg (by omega), if_pos hsw20]; split <;> exact congrArg iI (by omega)) hAe hQ dX5_step_103
        · skip
          refine lv_tableIn (off := 84) (tgt := 104) hx hb dX5_step_20 (by rw [iI_T (by omega)]; omega) (by rw [iI_T (by omega)]; omega) (by rw [iI_T (by omega), hsw20]; rfl) (by decide) ?_
          refine lv_aload_n hx hb dX5_step_104 rfl (lv_at hl 0 rfl) ?_
          refine va_get (D := D) (ci := 5) (v := .ref y5) (C := RX5) (T := TX5) (N := 26) hx hb hts hi_X5 hown hK hP 0 rfl rfl 18 (by decide) fl43 (fun _ h9 => h9) rfl dX5_step_105 ?_
          refine lv_iload_n hx hb dX5_step_108 rfl (lv_at hl 1 rfl) ?_
          refine k_iald hx hb hK hP 5 0 rfl rfl i0.toNat (by omega) dX5_step_109 ?_
          refine kn_i (y := iI (Q5 i0.toNat : Int)) (rfl) ?_
          exact k_iret () hx hb hr hlocks hK hP hD hS [0, 1, 2, 3, 4, 5] (by decide) rfl rfl (by unfold spF; rw [if_neg (fun h => h (by omega)), if_neg (by omega), if_neg (by omega), if_neg (by omega), if_neg (by omega), if_neg (by omega), if_pos hsw20]) hAe hQ dX5_step_110
    · skip
      have c14 := iI_ltF (a := (i0 : Int)) (b := ((ms : Nat) : Int)) c14 (by omega)
      refine lv_iconst (v := iI (-1 : Int)) hx hb dX5_step_17 rfl ?_
      exact k_iret () hx hb hr hlocks hK hP hD hS [0, 1, 2, 3, 4, 5] (by decide) rfl rfl (by unfold spF; rw [if_pos (by omega)]) hAe hQ dX5_step_18
