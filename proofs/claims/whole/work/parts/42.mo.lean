abbrev rm_c_Mo_feedN : Room := { frames := 0, cells := 0, slots := 0, locals := 0 }
set_option maxHeartbeats 4000000 in
set_option maxRecDepth 100000 in
theorem c_Mo_feedN (l : Launch) (D : va_G) (cI cZ : ClassId) (hm : Nat) (cd : Int32) (x1 : Nat) (x2 : Nat) (x3 : Nat) (x4 : Nat) (x5 : Nat) (x6 : Nat) (x7 : Nat) (kt : Nat) (k1 : Nat) (k2 : Nat) (k3 : Nat) (k4 : Nat) (k5 : Nat) (y1 : Nat) (y2 : Nat) (y3 : Nat) (y4 : Nat) (y5 : Nat) (y6 : Nat) (y7 : Nat) (ms : Nat) (kw : Nat) (kd : Nat) (ma : Nat) (lk : Int) (w : Int64) (z : Int) (hkt : kt ≤ 900) (hzr : -2147483648 ≤ z ∧ z < 2147483648) (hbad : ¬ (1 ≤ z ∧ z ≤ 8 ∧ (kt : Int) + z ≤ 900)) : MI l yX5_feed wsX5_feed rm_c_Mo_feedN D (kT cI cZ) [.ref hm, .long w, .int (iI (z : Int))] [(hm, .inr (5, [.int cd, .ref x1, .ref x2, .ref x3, .ref x4, .ref x5, .ref x6, .ref x7, .int (iI ((kt : Nat) : Int)), .int (iI ((k1 : Nat) : Int)), .int (iI ((k2 : Nat) : Int)), .int (iI ((k3 : Nat) : Int)), .int (iI ((k4 : Nat) : Int)), .int (iI ((k5 : Nat) : Int)), .ref y1, .ref y2, .ref y3, .ref y4, .ref y5, .ref y6, .ref y7, .int (iI ((ms : Nat) : Int)), .int (iI ((kw : Nat) : Int)), .int (iI ((kd : Nat) : Int)), .int (iI ((ma : Nat) : Int)), .int (iI (lk : Int))]))] (fun (r : Int32) (_ : Unit) => r = iI (0 : Int)) (fun (u : Unit) => match u with | _ => [(hm, .inr (5, [.int (iI (0 : Int)), .ref x1, .ref x2, .ref x3, .ref x4, .ref x5, .ref x6, .ref x7, .int (iI ((kt : Nat) : Int)), .int (iI ((k1 : Nat) : Int)), .int (iI ((k2 : Nat) : Int)), .int (iI ((k3 : Nat) : Int)), .int (iI ((k4 : Nat) : Int)), .int (iI ((k5 : Nat) : Int)), .ref y1, .ref y2, .ref y3, .ref y4, .ref y5, .ref y6, .ref y7, .int (iI ((ms : Nat) : Int)), .int (iI ((kw : Nat) : Int)), .int (iI ((kd : Nat) : Int)), .int (iI ((ma : Nat) : Int)), .int (iI (lk : Int))]))]) 0 0 := by
  intro sz
  refine k_of (cc := cX5_feed) (maxL := 5) (ret := (some .boolean)) (by decide) rfl (Nat.le_of_ble_eq_true rfl) ?_
  intro p e s m args below meth c A Q hAe hQ hx hb hr hml hts hown hlocks hnm hP hK hD hS hA ls hl
  have hl : lv_has ls 5 [(0, .ref hm), (1, .long w), (3, .int (iI (z : Int)))] := hl
  have hi_X5 : ∀ w ∈ u_ws RX5 TX5 26, w ∈ wsX5_feed := fun w h => km (ikX5 w h)
  have fl52 := hts _ (km wm475)
  have fl56 := hts _ (km wm483)
  have fl7 := hts _ (km wm476)
  refine lv_aload_n hx hb dX5_feed_0 rfl (lv_at hl 0 rfl) ?_
  refine lv_iconst (v := iI (0 : Int)) hx hb dX5_feed_1 rfl ?_
  refine va_put (D := D) (ci := 5) (v := .int (iI (0 : Int))) (ty := .int) (C := RX5) (T := TX5) (N := 26) hx hb hts hi_X5 tyX5 tyX5_ok nmX5 hown hK hP hD hS 0 rfl rfl 0 (by decide) fl52 (fun _ h9 => h9) rfl (by decide +kernel) rfl rfl (Nat.le_of_ble_eq_true rfl) dX5_feed_2 (fun H locs hP hD hS => ?_)
  have hP : va_P D vwCl [(hm, .inr (5, [.int (iI (0 : Int)), .ref x1, .ref x2, .ref x3, .ref x4, .ref x5, .ref x6, .ref x7, .int (iI ((kt : Nat) : Int)), .int (iI ((k1 : Nat) : Int)), .int (iI ((k2 : Nat) : Int)), .int (iI ((k3 : Nat) : Int)), .int (iI ((k4 : Nat) : Int)), .int (iI ((k5 : Nat) : Int)), .ref y1, .ref y2, .ref y3, .ref y4, .ref y5, .ref y6, .ref y7, .int (iI ((ms : Nat) : Int)), .int (iI ((kw : Nat) : Int)), .int (iI ((kd : Nat) : Int)), .int (iI ((ma : Nat) : Int)), .int (iI (lk : Int))]))] H := hP
  have hD : va_D A [(hm, .inr (5, [.int (iI (0 : Int)), .ref x1, .ref x2, .ref x3, .ref x4, .ref x5, .ref x6, .ref x7, .int (iI ((kt : Nat) : Int)), .int (iI ((k1 : Nat) : Int)), .int (iI ((k2 : Nat) : Int)), .int (iI ((k3 : Nat) : Int)), .int (iI ((k4 : Nat) : Int)), .int (iI ((k5 : Nat) : Int)), .ref y1, .ref y2, .ref y3, .ref y4, .ref y5, .ref y6, .ref y7, .int (iI ((ms : Nat) : Int)), .int (iI ((kw : Nat) : Int)), .int (iI ((kd : Nat) : Int)), .int (iI ((ma : Nat) : Int)), .int (iI (lk : Int))]))] := hD
  refine lv_iload_n hx hb dX5_feed_5 rfl (lv_at hl 2 rfl) ?_
  refine lv_iconst (v := iI (1 : Int)) hx hb dX5_feed_6 rfl ?_
  refine lv_icmp_lt (tgt := 28) hx hb dX5_feed_7 (by decide) (fun c7 => ?_) (fun c7 => ?_)
  · skip
    have c7 := iI_ltT (a := (z : Int)) (b := (1 : Int)) c7 (by omega)
    refine lv_iconst (v := iI (0 : Int)) hx hb dX5_feed_28 rfl ?_
    exact k_zret () hx hb hr (by decide) hlocks hK hP hD hS [0] (by decide) rfl rfl (rfl) hAe hQ dX5_feed_29
  · skip
    have c7 := iI_ltF (a := (z : Int)) (b := (1 : Int)) c7 (by omega)
    refine lv_iload_n hx hb dX5_feed_10 rfl (lv_at hl 2 rfl) ?_
    refine lv_bipush (v := iI (8 : Int)) hx hb dX5_feed_11 (by decide) ?_
    refine lv_icmp_gt (tgt := 28) hx hb dX5_feed_13 (by decide) (fun c13 => ?_) (fun c13 => ?_)
    · skip
      have c13 := iI_ltT (a := (8 : Int)) (b := (z : Int)) c13 (by omega)
      refine lv_iconst (v := iI (0 : Int)) hx hb dX5_feed_28 rfl ?_
      exact k_zret () hx hb hr (by decide) hlocks hK hP hD hS [0] (by decide) rfl rfl (rfl) hAe hQ dX5_feed_29
    · skip
      have c13 := iI_ltF (a := (8 : Int)) (b := (z : Int)) c13 (by omega)
      refine lv_aload_n hx hb dX5_feed_16 rfl (lv_at hl 0 rfl) ?_
      refine va_get (D := D) (ci := 5) (v := .int (iI ((kt : Nat) : Int))) (C := RX5) (T := TX5) (N := 26) hx hb hts hi_X5 hown hK hP 0 rfl rfl 8 (by decide) fl56 (fun _ h9 => h9) rfl dX5_feed_17 ?_
      refine lv_iload_n hx hb dX5_feed_20 rfl (lv_at hl 2 rfl) ?_
      refine lv_iadd hx hb dX5_feed_21 ?_
      refine kn_i (iA (c := (((kt : Nat) : Int) + (z : Int) : Int)) (by omega)) ?_
      refine lv_sipush (v := iI (900 : Int)) hx hb dX5_feed_22 (by decide) ?_
      refine lv_icmp_le (tgt := 30) hx hb dX5_feed_25 (by decide) (fun c25 => ?_) (fun c25 => ?_)
      · skip
        have c25 := iI_leT (a := (((kt : Nat) : Int) + (z : Int) : Int)) (b := (900 : Int)) c25 (by omega)
        omega
      · skip
        have c25 := iI_leF (a := (((kt : Nat) : Int) + (z : Int) : Int)) (b := (900 : Int)) c25 (by omega)
        refine lv_iconst (v := iI (0 : Int)) hx hb dX5_feed_28 rfl ?_
        exact k_zret () hx hb hr (by decide) hlocks hK hP hD hS [0] (by decide) rfl rfl (rfl) hAe hQ dX5_feed_29

abbrev rm_c_Mo_feedY : Room := { frames := 0, cells := 0, slots := 0, locals := 0 }
set_option maxHeartbeats 4000000 in
set_option maxRecDepth 100000 in
theorem c_Mo_feedY (l : Launch) (D : va_G) (cI cZ : ClassId) (hm : Nat) (cd : Int32) (x1 : Nat) (x2 : Nat) (x3 : Nat) (x4 : Nat) (x5 : Nat) (x6 : Nat) (x7 : Nat) (kt : Nat) (k1 : Nat) (k2 : Nat) (k3 : Nat) (k4 : Nat) (k5 : Nat) (y1 : Nat) (y2 : Nat) (y3 : Nat) (y4 : Nat) (y5 : Nat) (y6 : Nat) (y7 : Nat) (ms : Nat) (kw : Nat) (kd : Nat) (ma : Nat) (lk : Int) (gt : Nat → Int32) (w : Int64) (z : Int) (hkt : kt ≤ 900) (hzr : -2147483648 ≤ z ∧ z < 2147483648) (hok : 1 ≤ z ∧ z ≤ 8 ∧ (kt : Int) + z ≤ 900) : MI l yX5_feed wsX5_feed rm_c_Mo_feedY D (kT cI cZ) [.ref hm, .long w, .int (iI (z : Int))] [(hm, .inr (5, [.int cd, .ref x1, .ref x2, .ref x3, .ref x4, .ref x5, .ref x6, .ref x7, .int (iI ((kt : Nat) : Int)), .int (iI ((k1 : Nat) : Int)), .int (iI ((k2 : Nat) : Int)), .int (iI ((k3 : Nat) : Int)), .int (iI ((k4 : Nat) : Int)), .int (iI ((k5 : Nat) : Int)), .ref y1, .ref y2, .ref y3, .ref y4, .ref y5, .ref y6, .ref y7, .int (iI ((ms : Nat) : Int)), .int (iI ((kw : Nat) : Int)), .int (iI ((kd : Nat) : Int)), .int (iI ((ma : Nat) : Int)), .int (iI (lk : Int))])), (x1, .inl (cI, 900, .inl gt))] (fun (r : Int32) (_ : Unit) => r = iI (1 : Int)) (fun (u : Unit) => match u with | _ => [(hm, .inr (5, [.int (iI (0 : Int)), .ref x1, .ref x2, .ref x3, .ref x4, .ref x5, .ref x6, .ref x7, .int (iI ((kt + (fdL w z.toNat).length : Nat) : Int)), .int (iI ((k1 : Nat) : Int)), .int (iI ((k2 : Nat) : Int)), .int (iI ((k3 : Nat) : Int)), .int (iI ((k4 : Nat) : Int)), .int (iI ((k5 : Nat) : Int)), .ref y1, .ref y2, .ref y3, .ref y4, .ref y5, .ref y6, .ref y7, .int (iI ((ms : Nat) : Int)), .int (iI ((kw : Nat) : Int)), .int (iI ((kd : Nat) : Int)), .int (iI ((ma : Nat) : Int)), .int (iI (lk : Int))])), (x1, .inl (cI, 900, .inl (apL gt kt (fdL w z.toNat))))]) 0 0 := by
  intro sz
  refine k_of (cc := cX5_feed) (maxL := 5) (ret := (some .boolean)) (by decide) rfl (Nat.le_of_ble_eq_true rfl) ?_
  intro p e s m args below meth c A Q hAe hQ hx hb hr hml hts hown hlocks hnm hP hK hD hS hA ls hl
  have hl : lv_has ls 5 [(0, .ref hm), (1, .long w), (3, .int (iI (z : Int)))] := hl
  have hi_X5 : ∀ w ∈ u_ws RX5 TX5 26, w ∈ wsX5_feed := fun w h => km (ikX5 w h)
  have fl52 := hts _ (km wm475)
  have fl56 := hts _ (km wm483)
  have fl7 := hts _ (km wm476)
  refine lv_aload_n hx hb dX5_feed_0 rfl (lv_at hl 0 rfl) ?_
  refine lv_iconst (v := iI (0 : Int)) hx hb dX5_feed_1 rfl ?_
  refine va_put (D := D) (ci := 5) (v := .int (iI (0 : Int))) (ty := .int) (C := RX5) (T := TX5) (N := 26) hx hb hts hi_X5 tyX5 tyX5_ok nmX5 hown hK hP hD hS 0 rfl rfl 0 (by decide) fl52 (fun _ h9 => h9) rfl (by decide +kernel) rfl rfl (Nat.le_of_ble_eq_true rfl) dX5_feed_2 (fun H locs hP hD hS => ?_)
  have hP : va_P D vwCl [(hm, .inr (5, [.int (iI (0 : Int)), .ref x1, .ref x2, .ref x3, .ref x4, .ref x5, .ref x6, .ref x7, .int (iI ((kt : Nat) : Int)), .int (iI ((k1 : Nat) : Int)), .int (iI ((k2 : Nat) : Int)), .int (iI ((k3 : Nat) : Int)), .int (iI ((k4 : Nat) : Int)), .int (iI ((k5 : Nat) : Int)), .ref y1, .ref y2, .ref y3, .ref y4, .ref y5, .ref y6, .ref y7, .int (iI ((ms : Nat) : Int)), .int (iI ((kw : Nat) : Int)), .int (iI ((kd : Nat) : Int)), .int (iI ((ma : Nat) : Int)), .int (iI (lk : Int))])), (x1, .inl (cI, 900, .inl gt))] H := hP
  have hD : va_D A [(hm, .inr (5, [.int (iI (0 : Int)), .ref x1, .ref x2, .ref x3, .ref x4, .ref x5, .ref x6, .ref x7, .int (iI ((kt : Nat) : Int)), .int (iI ((k1 : Nat) : Int)), .int (iI ((k2 : Nat) : Int)), .int (iI ((k3 : Nat) : Int)), .int (iI ((k4 : Nat) : Int)), .int (iI ((k5 : Nat) : Int)), .ref y1, .ref y2, .ref y3, .ref y4, .ref y5, .ref y6, .ref y7, .int (iI ((ms : Nat) : Int)), .int (iI ((kw : Nat) : Int)), .int (iI ((kd : Nat) : Int)), .int (iI ((ma : Nat) : Int)), .int (iI (lk : Int))])), (x1, .inl (cI, 900, .inl gt))] := hD
  refine lv_iload_n hx hb dX5_feed_5 rfl (lv_at hl 2 rfl) ?_
  refine lv_iconst (v := iI (1 : Int)) hx hb dX5_feed_6 rfl ?_
  refine lv_icmp_lt (tgt := 28) hx hb dX5_feed_7 (by decide) (fun c7 => ?_) (fun c7 => ?_)
  · skip
    have c7 := iI_ltT (a := (z : Int)) (b := (1 : Int)) c7 (by omega)
    omega
  · skip
    have c7 := iI_ltF (a := (z : Int)) (b := (1 : Int)) c7 (by omega)
    refine lv_iload_n hx hb dX5_feed_10 rfl (lv_at hl 2 rfl) ?_
    refine lv_bipush (v := iI (8 : Int)) hx hb dX5_feed_11 (by decide) ?_
    refine lv_icmp_gt (tgt := 28) hx hb dX5_feed_13 (by decide) (fun c13 => ?_) (fun c13 => ?_)
    · skip
      have c13 := iI_ltT (a := (8 : Int)) (b := (z : Int)) c13 (by omega)
      omega
    · skip
      have c13 := iI_ltF (a := (8 : Int)) (b := (z : Int)) c13 (by omega)
      refine lv_aload_n hx hb dX5_feed_16 rfl (lv_at hl 0 rfl) ?_
      refine va_get (D := D) (ci := 5) (v := .int (iI ((kt : Nat) : Int))) (C := RX5) (T := TX5) (N := 26) hx hb hts hi_X5 hown hK hP 0 rfl rfl 8 (by decide) fl56 (fun _ h9 => h9) rfl dX5_feed_17 ?_
      refine lv_iload_n hx hb dX5_feed_20 rfl (lv_at hl 2 rfl) ?_
      refine lv_iadd hx hb dX5_feed_21 ?_
      refine kn_i (iA (c := (((kt : Nat) : Int) + (z : Int) : Int)) (by omega)) ?_
      refine lv_sipush (v := iI (900 : Int)) hx hb dX5_feed_22 (by decide) ?_
      refine lv_icmp_le (tgt := 30) hx hb dX5_feed_25 (by decide) (fun c25 => ?_) (fun c25 => ?_)
      · skip
        have c25 := iI_leT (a := (((kt : Nat) : Int) + (z : Int) : Int)) (b := (900 : Int)) c25 (by omega)
        refine lv_iload_n hx hb dX5_feed_30 rfl (lv_at hl 2 rfl) ?_
        refine lv_iconst (v := iI (1 : Int)) hx hb dX5_feed_31 rfl ?_
        refine lv_isub hx hb dX5_feed_32 ?_
        refine kn_i (iB (c := (((z.toNat : Nat) : Int) - 1 : Int)) (by omega)) ?_
        refine lv_istore (lv' := [(4, .int (iI (((z.toNat : Nat) : Int) - 1 : Int))), (0, .ref hm), (1, .long w), (3, .int (iI (z : Int)))]) hx hb dX5_feed_33 hl (by decide) rfl (fun ls hl => ?_)
        have lp35 : ∀ (fu : Nat) (k : Nat) (T : List Int32) (H : Heap) (locs : List Loc) (ls : Array Slot), k < fu → ((k : Int) ≤ 8) → (T ++ fdL w k = fdL w z.toNat) → (T.length + k = z.toNat) → va_P D vwCl [(hm, .inr (5, [.int (iI (0 : Int)), .ref x1, .ref x2, .ref x3, .ref x4, .ref x5, .ref x6, .ref x7, .int (iI ((kt + (T).length : Nat) : Int)), .int (iI ((k1 : Nat) : Int)), .int (iI ((k2 : Nat) : Int)), .int (iI ((k3 : Nat) : Int)), .int (iI ((k4 : Nat) : Int)), .int (iI ((k5 : Nat) : Int)), .ref y1, .ref y2, .ref y3, .ref y4, .ref y5, .ref y6, .ref y7, .int (iI ((ms : Nat) : Int)), .int (iI ((kw : Nat) : Int)), .int (iI ((kd : Nat) : Int)), .int (iI ((ma : Nat) : Int)), .int (iI (lk : Int))])), (x1, .inl (cI, 900, .inl (apL gt kt (T))))] H → va_D A [(hm, .inr (5, [.int (iI (0 : Int)), .ref x1, .ref x2, .ref x3, .ref x4, .ref x5, .ref x6, .ref x7, .int (iI ((kt + (T).length : Nat) : Int)), .int (iI ((k1 : Nat) : Int)), .int (iI ((k2 : Nat) : Int)), .int (iI ((k3 : Nat) : Int)), .int (iI ((k4 : Nat) : Int)), .int (iI ((k5 : Nat) : Int)), .ref y1, .ref y2, .ref y3, .ref y4, .ref y5, .ref y6, .ref y7, .int (iI ((ms : Nat) : Int)), .int (iI ((kw : Nat) : Int)), .int (iI ((kd : Nat) : Int)), .int (iI ((ma : Nat) : Int)), .int (iI (lk : Int))])), (x1, .inl (cI, 900, .inl (apL gt kt (T))))] → va_S A s.heap H locs → lv_has ls 5 [(0, .ref hm), (1, .long w), (4, .int (iI (((k : Nat) : Int) - 1 : Int)))] → W p l e rm_c_Mo_feedY s m args below meth c H locs 0 0 Q (F0 m 35 ls []) := by
          intro fu
          induction fu with
          | zero => intro k T H locs ls hfu; exact absurd hfu (Nat.not_lt_zero _)
          | succ fu ih35 =>
            intro k T H locs ls hfu hk hT hTl hP hD hS hl
            refine lv_iload hx hb dX5_feed_35 (lv_at hl 2 rfl) ?_
            refine lv_if_lt (tgt := 77) hx hb dX5_feed_37 (by decide) (fun c37 => ?_) (fun c37 => ?_)
            · skip
              have c37 := iI_ltT (a := (((k : Nat) : Int) - 1 : Int)) (b := (0 : Int)) c37 (by omega)
              refine lv_iconst (v := iI (1 : Int)) hx hb dX5_feed_77 rfl ?_
              obtain rfl : k = 0 := by omega
              obtain rfl : T = fdL w z.toNat := by rw [← hT]; simp [fdL]
              exact k_zret () hx hb hr (by decide) hlocks hK hP hD hS [0, 1] (by decide) rfl rfl (rfl) hAe hQ dX5_feed_78
            · skip
              have c37 := iI_ltF (a := (((k : Nat) : Int) - 1 : Int)) (b := (0 : Int)) c37 (by omega)
              refine lv_aload_n hx hb dX5_feed_40 rfl (lv_at hl 0 rfl) ?_
              refine va_get (D := D) (ci := 5) (v := .ref x1) (C := RX5) (T := TX5) (N := 26) hx hb hts hi_X5 hown hK hP 0 rfl rfl 1 (by decide) fl7 (fun _ h9 => h9) rfl dX5_feed_41 ?_
              refine lv_aload_n hx hb dX5_feed_44 rfl (lv_at hl 0 rfl) ?_
              refine va_get (D := D) (ci := 5) (v := .int (iI ((kt + (T).length : Nat) : Int))) (C := RX5) (T := TX5) (N := 26) hx hb hts hi_X5 hown hK hP 0 rfl rfl 8 (by decide) fl56 (fun _ h9 => h9) rfl dX5_feed_45 ?_
              refine lv_lload_n hx hb dX5_feed_48 rfl (lv_at hl 1 rfl) ?_
              refine lv_bipush (v := iI (8 : Int)) hx hb dX5_feed_49 (by decide) ?_
              refine lv_iload hx hb dX5_feed_51 (lv_at hl 2 rfl) ?_
              refine lv_imul hx hb dX5_feed_53 ?_
              refine kn_i (iM (c := (8 * (((k : Nat) : Int) - 1) : Int)) (by omega)) ?_
              refine lv_lshr hx hb dX5_feed_54 rfl ?_
              refine lv_ldc2 (v := 255) hx hb hown (hts _ (km wm558)) dX5_feed_55 ?_
              refine lv_land hx hb dX5_feed_58 ?_
              refine lv_l2i hx hb dX5_feed_59 rfl ?_
              refine kn_i (y := (fdb w (8 * (((k : Nat) : Int) - 1)))) (fd_eqk w (by omega)) ?_
              refine k_iast hx hb hK hP hD hS 1 0 rfl rfl (kt + (T).length) (by omega) dX5_feed_60 (fun H locs hP hD hS => ?_)
              have hP : va_P D vwCl [(hm, .inr (5, [.int (iI (0 : Int)), .ref x1, .ref x2, .ref x3, .ref x4, .ref x5, .ref x6, .ref x7, .int (iI ((kt + (T).length : Nat) : Int)), .int (iI ((k1 : Nat) : Int)), .int (iI ((k2 : Nat) : Int)), .int (iI ((k3 : Nat) : Int)), .int (iI ((k4 : Nat) : Int)), .int (iI ((k5 : Nat) : Int)), .ref y1, .ref y2, .ref y3, .ref y4, .ref y5, .ref y6, .ref y7, .int (iI ((ms : Nat) : Int)), .int (iI ((kw : Nat) : Int)), .int (iI ((kd : Nat) : Int)), .int (iI ((ma : Nat) : Int)), .int (iI (lk : Int))])), (x1, .inl (cI, 900, .inl (upd (apL gt kt (T)) (kt + (T).length) ((fdb w (8 * (((k : Nat) : Int) - 1)))))))] H := hP
              have hD : va_D A [(hm, .inr (5, [.int (iI (0 : Int)), .ref x1, .ref x2, .ref x3, .ref x4, .ref x5, .ref x6, .ref x7, .int (iI ((kt + (T).length : Nat) : Int)), .int (iI ((k1 : Nat) : Int)), .int (iI ((k2 : Nat) : Int)), .int (iI ((k3 : Nat) : Int)), .int (iI ((k4 : Nat) : Int)), .int (iI ((k5 : Nat) : Int)), .ref y1, .ref y2, .ref y3, .ref y4, .ref y5, .ref y6, .ref y7, .int (iI ((ms : Nat) : Int)), .int (iI ((kw : Nat) : Int)), .int (iI ((kd : Nat) : Int)), .int (iI ((ma : Nat) : Int)), .int (iI (lk : Int))])), (x1, .inl (cI, 900, .inl (upd (apL gt kt (T)) (kt + (T).length) ((fdb w (8 * (((k : Nat) : Int) - 1)))))))] := hD
              rw [show (upd (apL gt kt (T)) (kt + (T).length) ((fdb w (8 * (((k : Nat) : Int) - 1))))) = (apL gt kt (T ++ [fdb w (8 * (((k : Nat) : Int) - 1))])) from apL_up rfl] at hP hD
              refine lv_aload_n hx hb dX5_feed_61 rfl (lv_at hl 0 rfl) ?_
              refine lv_dup hx hb dX5_feed_62 rfl ?_
              refine va_get (D := D) (ci := 5) (v := .int (iI ((kt + (T).length : Nat) : Int))) (C := RX5) (T := TX5) (N := 26) hx hb hts hi_X5 hown hK hP 0 rfl rfl 8 (by decide) fl56 (fun _ h9 => h9) rfl dX5_feed_63 ?_
              refine lv_iconst (v := iI (1 : Int)) hx hb dX5_feed_66 rfl ?_
              have hl9 : (T ++ [fdb w (8 * (((k : Nat) : Int) - 1))]).length = T.length + 1 := by rw [List.length_append]; rfl
              refine lv_iadd hx hb dX5_feed_67 ?_
              refine kn_i (iA (c := ((kt + (T ++ [fdb w (8 * (((k : Nat) : Int) - 1))]).length : Nat) : Int)) (by omega)) ?_
              refine va_put (D := D) (ci := 5) (v := .int (iI ((kt + (T ++ [fdb w (8 * (((k : Nat) : Int) - 1))]).length : Nat) : Int))) (ty := .int) (C := RX5) (T := TX5) (N := 26) hx hb hts hi_X5 tyX5 tyX5_ok nmX5 hown hK hP hD hS 0 rfl rfl 8 (by decide) fl56 (fun _ h9 => h9) rfl (by decide +kernel) rfl rfl (Nat.le_of_ble_eq_true rfl) dX5_feed_68 (fun H locs hP hD hS => ?_)
              have hP : va_P D vwCl [(hm, .inr (5, [.int (iI (0 : Int)), .ref x1, .ref x2, .ref x3, .ref x4, .ref x5, .ref x6, .ref x7, .int (iI ((kt + (T ++ [fdb w (8 * (((k : Nat) : Int) - 1))]).length : Nat) : Int)), .int (iI ((k1 : Nat) : Int)), .int (iI ((k2 : Nat) : Int)), .int (iI ((k3 : Nat) : Int)), .int (iI ((k4 : Nat) : Int)), .int (iI ((k5 : Nat) : Int)), .ref y1, .ref y2, .ref y3, .ref y4, .ref y5, .ref y6, .ref y7, .int (iI ((ms : Nat) : Int)), .int (iI ((kw : Nat) : Int)), .int (iI ((kd : Nat) : Int)), .int (iI ((ma : Nat) : Int)), .int (iI (lk : Int))])), (x1, .inl (cI, 900, .inl (apL gt kt (T ++ [fdb w (8 * (((k : Nat) : Int) - 1))]))))] H := hP
              have hD : va_D A [(hm, .inr (5, [.int (iI (0 : Int)), .ref x1, .ref x2, .ref x3, .ref x4, .ref x5, .ref x6, .ref x7, .int (iI ((kt + (T ++ [fdb w (8 * (((k : Nat) : Int) - 1))]).length : Nat) : Int)), .int (iI ((k1 : Nat) : Int)), .int (iI ((k2 : Nat) : Int)), .int (iI ((k3 : Nat) : Int)), .int (iI ((k4 : Nat) : Int)), .int (iI ((k5 : Nat) : Int)), .ref y1, .ref y2, .ref y3, .ref y4, .ref y5, .ref y6, .ref y7, .int (iI ((ms : Nat) : Int)), .int (iI ((kw : Nat) : Int)), .int (iI ((kd : Nat) : Int)), .int (iI ((ma : Nat) : Int)), .int (iI (lk : Int))])), (x1, .inl (cI, 900, .inl (apL gt kt (T ++ [fdb w (8 * (((k : Nat) : Int) - 1))]))))] := hD
              refine lv_iinc (v := iI (((k - 1 : Nat) : Int) - 1 : Int)) (lv' := [(4, .int (iI (((k - 1 : Nat) : Int) - 1 : Int))), (0, .ref hm), (1, .long w)]) hx hb dX5_feed_71 hl (k := 2) rfl (iA (by omega)) (by decide) rfl (fun ls hl => ?_)
              refine lv_goto (tgt := 35) hx hb dX5_feed_74 (by decide) ?_
              exact ih35 (k - 1) (T ++ [fdb w (8 * (((k : Nat) : Int) - 1))]) _ _ _ (by omega) (by omega) (by rw [← hT, fdL_s (k := k) (by omega), List.append_assoc]; rfl) (by rw [List.length_append]; show T.length + 1 + (k - 1) = z.toNat; omega) hP hD hS (lv_sub hl [1, 2, 0] rfl)
        rw [show gt = (apL gt kt (([] : List Int32))) from (apL_nil gt kt).symm] at hP hD
        rw [show iI ((kt : Nat) : Int) = iI ((kt + (([] : List Int32)).length : Nat) : Int) from rfl] at hP hD
        exact lp35 _ z.toNat ([] : List Int32) _ _ _ (Nat.lt_succ_self _) (by omega) (by rfl) (by simp) hP hD hS (lv_sub hl [1, 2, 0] rfl)
      · skip
        have c25 := iI_leF (a := (((kt : Nat) : Int) + (z : Int) : Int)) (b := (900 : Int)) c25 (by omega)
        omega

abbrev rm_c_Mo_take : Room := { frames := 0, cells := 0, slots := 0, locals := 0 }
set_option maxHeartbeats 4000000 in
set_option maxRecDepth 100000 in
theorem c_Mo_take (l : Launch) (D : va_G) (cI cZ : ClassId) (hm : Nat) (cd : Int32) (x1 : Nat) (x2 : Nat) (x3 : Nat) (x4 : Nat) (x5 : Nat) (x6 : Nat) (x7 : Nat) (kt : Nat) (k1 : Nat) (k2 : Nat) (k3 : Nat) (k4 : Nat) (k5 : Nat) (y1 : Nat) (y2 : Nat) (y3 : Nat) (y4 : Nat) (y5 : Nat) (y6 : Nat) (y7 : Nat) (ms : Nat) (kw : Nat) (kd : Nat) (ma : Nat) (lk : Int) (gt : Nat → Int32) (g1 : Nat → Int32) (g2 : Nat → Int32) (g3 : Nat → Int32) (z : Int) (hkt : kt ≤ 900) (hk1 : k1 ≤ 300) (hk2 : k2 ≤ 300) (hk3 : k3 ≤ 900) (hzr : -2147483648 ≤ z ∧ z < 2147483648) : MI l yX5_take wsX5_take rm_c_Mo_take D (kT cI cZ) [.ref hm, .int (iI (z : Int))] [(hm, .inr (5, [.int cd, .ref x1, .ref x2, .ref x3, .ref x4, .ref x5, .ref x6, .ref x7, .int (iI ((kt : Nat) : Int)), .int (iI ((k1 : Nat) : Int)), .int (iI ((k2 : Nat) : Int)), .int (iI ((k3 : Nat) : Int)), .int (iI ((k4 : Nat) : Int)), .int (iI ((k5 : Nat) : Int)), .ref y1, .ref y2, .ref y3, .ref y4, .ref y5, .ref y6, .ref y7, .int (iI ((ms : Nat) : Int)), .int (iI ((kw : Nat) : Int)), .int (iI ((kd : Nat) : Int)), .int (iI ((ma : Nat) : Int)), .int (iI (lk : Int))])), (x1, .inl (cI, 900, .inl gt)), (x2, .inl (cI, 300, .inl g1)), (x3, .inl (cI, 300, .inl g2)), (x4, .inl (cI, 900, .inl g3))] (fun (r : Int32) (u : TkR) => r = iI (tkF z kt gt k1 g1 k2 g2 k3 g3).1 ∧ u = (tkF z kt gt k1 g1 k2 g2 k3 g3).2) (fun (u : TkR) => match u with | ⟨kt9, k19, g19, k29, g29, k39, g39⟩ => [(hm, .inr (5, [.int (iI (0 : Int)), .ref x1, .ref x2, .ref x3, .ref x4, .ref x5, .ref x6, .ref x7, .int (iI ((kt9 : Nat) : Int)), .int (iI ((k19 : Nat) : Int)), .int (iI ((k29 : Nat) : Int)), .int (iI ((k39 : Nat) : Int)), .int (iI ((k4 : Nat) : Int)), .int (iI ((k5 : Nat) : Int)), .ref y1, .ref y2, .ref y3, .ref y4, .ref y5, .ref y6, .ref y7, .int (iI ((ms : Nat) : Int)), .int (iI ((kw : Nat) : Int)), .int (iI ((kd : Nat) : Int)), .int (iI ((ma : Nat) : Int)), .int (iI (lk : Int))])), (x1, .inl (cI, 900, .inl gt)), (x2, .inl (cI, 300, .inl g19)), (x3, .inl (cI, 300, .inl g29)), (x4, .inl (cI, 900, .inl g39))]) 0 0 := by
  intro sz
  refine k_of (cc := cX5_take) (maxL := 3) (ret := (some .boolean)) (by decide) rfl (Nat.le_of_ble_eq_true rfl) ?_
  intro p e s m args below meth c A Q hAe hQ hx hb hr hml hts hown hlocks hnm hP hK hD hS hA ls hl
  have hl : lv_has ls 3 [(0, .ref hm), (1, .int (iI (z : Int)))] := hl
  have hi_X5 : ∀ w ∈ u_ws RX5 TX5 26, w ∈ wsX5_take := fun w h => km (ikX5 w h)
  have fl52 := hts _ (km wm475)
  have fl56 := hts _ (km wm483)
  have fl13 := hts _ (km wm477)
  have fl7 := hts _ (km wm476)
  have fl16 := hts _ (km wm478)
  have fl19 := hts _ (km wm479)
  have fl61 := hts _ (km wm484)
  have fl64 := hts _ (km wm485)
  have fl67 := hts _ (km wm486)
  refine lv_aload_n hx hb dX5_take_0 rfl (lv_at hl 0 rfl) ?_
  refine lv_iconst (v := iI (0 : Int)) hx hb dX5_take_1 rfl ?_
  refine va_put (D := D) (ci := 5) (v := .int (iI (0 : Int))) (ty := .int) (C := RX5) (T := TX5) (N := 26) hx hb hts hi_X5 tyX5 tyX5_ok nmX5 hown hK hP hD hS 0 rfl rfl 0 (by decide) fl52 (fun _ h9 => h9) rfl (by decide +kernel) rfl rfl (Nat.le_of_ble_eq_true rfl) dX5_take_2 (fun H locs hP hD hS => ?_)
  have hP : va_P D vwCl [(hm, .inr (5, [.int (iI (0 : Int)), .ref x1, .ref x2, .ref x3, .ref x4, .ref x5, .ref x6, .ref x7, .int (iI ((kt : Nat) : Int)), .int (iI ((k1 : Nat) : Int)), .int (iI ((k2 : Nat) : Int)), .int (iI ((k3 : Nat) : Int)), .int (iI ((k4 : Nat) : Int)), .int (iI ((k5 : Nat) : Int)), .ref y1, .ref y2, .ref y3, .ref y4, .ref y5, .ref y6, .ref y7, .int (iI ((ms : Nat) : Int)), .int (iI ((kw : Nat) : Int)), .int (iI ((kd : Nat) : Int)), .int (iI ((ma : Nat) : Int)), .int (iI (lk : Int))])), (x1, .inl (cI, 900, .inl gt)), (x2, .inl (cI, 300, .inl g1)), (x3, .inl (cI, 300, .inl g2)), (x4, .inl (cI, 900, .inl g3))] H := hP
  have hD : va_D A [(hm, .inr (5, [.int (iI (0 : Int)), .ref x1, .ref x2, .ref x3, .ref x4, .ref x5, .ref x6, .ref x7, .int (iI ((kt : Nat) : Int)), .int (iI ((k1 : Nat) : Int)), .int (iI ((k2 : Nat) : Int)), .int (iI ((k3 : Nat) : Int)), .int (iI ((k4 : Nat) : Int)), .int (iI ((k5 : Nat) : Int)), .ref y1, .ref y2, .ref y3, .ref y4, .ref y5, .ref y6, .ref y7, .int (iI ((ms : Nat) : Int)), .int (iI ((kw : Nat) : Int)), .int (iI ((kd : Nat) : Int)), .int (iI ((ma : Nat) : Int)), .int (iI (lk : Int))])), (x1, .inl (cI, 900, .inl gt)), (x2, .inl (cI, 300, .inl g1)), (x3, .inl (cI, 300, .inl g2)), (x4, .inl (cI, 900, .inl g3))] := hD
  refine lv_iload_n hx hb dX5_take_5 rfl (lv_at hl 1 rfl) ?_
  refine lv_if_lt (tgt := 35) hx hb dX5_take_6 (by decide) (fun c6 => ?_) (fun c6 => ?_)
  · skip
    have c6 := iI_ltT (a := (z : Int)) (b := (0 : Int)) c6 (by omega)
    refine lv_iconst (v := iI (0 : Int)) hx hb dX5_take_35 rfl ?_
    have hE : tkF z kt gt k1 g1 k2 g2 k3 g3 = (0, kt, k1, g1, k2, g2, k3, g3) := by unfold tkF; rw [if_neg (by omega), if_neg (by omega), if_neg (by omega)]
    exact k_zret (kt, k1, g1, k2, g2, k3, g3) hx hb hr (by decide) hlocks hK hP hD hS [0, 1, 2, 3, 4] (by decide) rfl rfl (⟨by rw [hE], by rw [hE]⟩) hAe hQ dX5_take_36
  · skip
    have c6 := iI_ltF (a := (z : Int)) (b := (0 : Int)) c6 (by omega)
    refine lv_iload_n hx hb dX5_take_9 rfl (lv_at hl 1 rfl) ?_
    refine lv_iconst (v := iI (2 : Int)) hx hb dX5_take_10 rfl ?_
    refine lv_icmp_gt (tgt := 35) hx hb dX5_take_11 (by decide) (fun c11 => ?_) (fun c11 => ?_)
    · skip
      have c11 := iI_ltT (a := (2 : Int)) (b := (z : Int)) c11 (by omega)
      refine lv_iconst (v := iI (0 : Int)) hx hb dX5_take_35 rfl ?_
      have hE : tkF z kt gt k1 g1 k2 g2 k3 g3 = (0, kt, k1, g1, k2, g2, k3, g3) := by unfold tkF; rw [if_neg (by omega), if_neg (by omega), if_neg (by omega)]
      exact k_zret (kt, k1, g1, k2, g2, k3, g3) hx hb hr (by decide) hlocks hK hP hD hS [0, 1, 2, 3, 4] (by decide) rfl rfl (⟨by rw [hE], by rw [hE]⟩) hAe hQ dX5_take_36
    · skip
      have c11 := iI_ltF (a := (2 : Int)) (b := (z : Int)) c11 (by omega)
      refine lv_aload_n hx hb dX5_take_14 rfl (lv_at hl 0 rfl) ?_
      refine va_get (D := D) (ci := 5) (v := .int (iI ((kt : Nat) : Int))) (C := RX5) (T := TX5) (N := 26) hx hb hts hi_X5 hown hK hP 0 rfl rfl 8 (by decide) fl56 (fun _ h9 => h9) rfl dX5_take_15 ?_
      refine lv_iload_n hx hb dX5_take_18 rfl (lv_at hl 1 rfl) ?_
      refine lv_iconst (v := iI (2 : Int)) hx hb dX5_take_19 rfl ?_
      refine lv_icmp_ge (tgt := 29) hx hb dX5_take_20 (by decide) (fun c20 => ?_) (fun c20 => ?_)
      · skip
        have c20 := iI_leT (a := (2 : Int)) (b := (z : Int)) c20 (by omega)
        refine lv_sipush (v := iI (900 : Int)) hx hb dX5_take_29 (by decide) ?_
        refine lv_icmp_le (tgt := 37) hx hb dX5_take_32 (by decide) (fun c32 => ?_) (fun c32 => ?_)
        · skip
          have c32 := iI_leT (a := ((kt : Nat) : Int)) (b := (900 : Int)) c32 (by omega)
          rcases (show (z = 0) ∨ (z = 1) ∨ (z = 2) by omega) with hz | hz | hz
          · skip
            rw [show iI (z : Int) = iI (0 : Int) from congrArg iI hz] at hl
            refine lv_iconst (v := iI ((0 : Nat) : Int)) hx hb dX5_take_37 rfl ?_
            refine lv_istore_n (lv' := [(2, .int (iI ((0 : Nat) : Int))), (0, .ref hm), (1, .int (iI (0 : Int)))]) hx hb dX5_take_38 rfl hl (by decide) rfl (fun ls hl => ?_)
            have lp39 : ∀ (fu : Nat) (k : Nat) (H : Heap) (locs : List Loc) (ls : Array Slot), kt - k < fu → (k ≤ kt) → va_P D vwCl [(hm, .inr (5, [.int (iI (0 : Int)), .ref x1, .ref x2, .ref x3, .ref x4, .ref x5, .ref x6, .ref x7, .int (iI ((kt : Nat) : Int)), .int (iI ((k1 : Nat) : Int)), .int (iI ((k2 : Nat) : Int)), .int (iI ((k3 : Nat) : Int)), .int (iI ((k4 : Nat) : Int)), .int (iI ((k5 : Nat) : Int)), .ref y1, .ref y2, .ref y3, .ref y4, .ref y5, .ref y6, .ref y7, .int (iI ((ms : Nat) : Int)), .int (iI ((kw : Nat) : Int)), .int (iI ((kd : Nat) : Int)), .int (iI ((ma : Nat) : Int)), .int (iI (lk : Int))])), (x1, .inl (cI, 900, .inl gt)), (x2, .inl (cI, 300, .inl (apL g1 0 (sl gt 0 k)))), (x3, .inl (cI, 300, .inl g2)), (x4, .inl (cI, 900, .inl g3))] H → va_D A [(hm, .inr (5, [.int (iI (0 : Int)), .ref x1, .ref x2, .ref x3, .ref x4, .ref x5, .ref x6, .ref x7, .int (iI ((kt : Nat) : Int)), .int (iI ((k1 : Nat) : Int)), .int (iI ((k2 : Nat) : Int)), .int (iI ((k3 : Nat) : Int)), .int (iI ((k4 : Nat) : Int)), .int (iI ((k5 : Nat) : Int)), .ref y1, .ref y2, .ref y3, .ref y4, .ref y5, .ref y6, .ref y7, .int (iI ((ms : Nat) : Int)), .int (iI ((kw : Nat) : Int)), .int (iI ((kd : Nat) : Int)), .int (iI ((ma : Nat) : Int)), .int (iI (lk : Int))])), (x1, .inl (cI, 900, .inl gt)), (x2, .inl (cI, 300, .inl (apL g1 0 (sl gt 0 k)))), (x3, .inl (cI, 300, .inl g2)), (x4, .inl (cI, 900, .inl g3))] → va_S A s.heap H locs → lv_has ls 3 [(0, .ref hm), (1, .int (iI (0 : Int))), (2, .int (iI ((k : Nat) : Int)))] → W p l e rm_c_Mo_take s m args below meth c H locs 0 0 Q (F0 m 39 ls []) := by
              intro fu
              induction fu with
              | zero => intro k H locs ls hfu; exact absurd hfu (Nat.not_lt_zero _)
              | succ fu ih39 =>
                intro k H locs ls hfu hk hP hD hS hl
                refine lv_iload_n hx hb dX5_take_39 rfl (lv_at hl 2 rfl) ?_
                refine lv_aload_n hx hb dX5_take_40 rfl (lv_at hl 0 rfl) ?_
                refine va_get (D := D) (ci := 5) (v := .int (iI ((kt : Nat) : Int))) (C := RX5) (T := TX5) (N := 26) hx hb hts hi_X5 hown hK hP 0 rfl rfl 8 (by decide) fl56 (fun _ h9 => h9) rfl dX5_take_41 ?_
                refine lv_icmp_ge (tgt := 104) hx hb dX5_take_44 (by decide) (fun c44 => ?_) (fun c44 => ?_)
                · skip
                  have c44 := iI_leT (a := ((kt : Nat) : Int)) (b := ((k : Nat) : Int)) c44 (by omega)
                  refine lv_iload_n hx hb dX5_take_104 rfl (lv_at hl 1 rfl) ?_
                  refine lv_if_ne (tgt := 119) hx hb dX5_take_105 (by decide) (fun c105 => ?_) (fun c105 => ?_)
                  · skip
                    have c105 := iI_eqF (a := (0 : Int)) (b := (0 : Int)) c105 (by omega)
                    omega
                  · skip
                    have c105 := iI_eqT (a := (0 : Int)) (b := (0 : Int)) c105 (by omega)
                    refine lv_aload_n hx hb dX5_take_108 rfl (lv_at hl 0 rfl) ?_
                    refine lv_aload_n hx hb dX5_take_109 rfl (lv_at hl 0 rfl) ?_
                    refine va_get (D := D) (ci := 5) (v := .int (iI ((kt : Nat) : Int))) (C := RX5) (T := TX5) (N := 26) hx hb hts hi_X5 hown hK hP 0 rfl rfl 8 (by decide) fl56 (fun _ h9 => h9) rfl dX5_take_110 ?_
                    refine va_put (D := D) (ci := 5) (v := .int (iI ((kt : Nat) : Int))) (ty := .int) (C := RX5) (T := TX5) (N := 26) hx hb hts hi_X5 tyX5 tyX5_ok nmX5 hown hK hP hD hS 0 rfl rfl 9 (by decide) fl61 (fun _ h9 => h9) rfl (by decide +kernel) rfl rfl (Nat.le_of_ble_eq_true rfl) dX5_take_113 (fun H locs hP hD hS => ?_)
                    have hP : va_P D vwCl [(hm, .inr (5, [.int (iI (0 : Int)), .ref x1, .ref x2, .ref x3, .ref x4, .ref x5, .ref x6, .ref x7, .int (iI ((kt : Nat) : Int)), .int (iI ((kt : Nat) : Int)), .int (iI ((k2 : Nat) : Int)), .int (iI ((k3 : Nat) : Int)), .int (iI ((k4 : Nat) : Int)), .int (iI ((k5 : Nat) : Int)), .ref y1, .ref y2, .ref y3, .ref y4, .ref y5, .ref y6, .ref y7, .int (iI ((ms : Nat) : Int)), .int (iI ((kw : Nat) : Int)), .int (iI ((kd : Nat) : Int)), .int (iI ((ma : Nat) : Int)), .int (iI (lk : Int))])), (x1, .inl (cI, 900, .inl gt)), (x2, .inl (cI, 300, .inl (apL g1 0 (sl gt 0 k)))), (x3, .inl (cI, 300, .inl g2)), (x4, .inl (cI, 900, .inl g3))] H := hP
                    have hD : va_D A [(hm, .inr (5, [.int (iI (0 : Int)), .ref x1, .ref x2, .ref x3, .ref x4, .ref x5, .ref x6, .ref x7, .int (iI ((kt : Nat) : Int)), .int (iI ((kt : Nat) : Int)), .int (iI ((k2 : Nat) : Int)), .int (iI ((k3 : Nat) : Int)), .int (iI ((k4 : Nat) : Int)), .int (iI ((k5 : Nat) : Int)), .ref y1, .ref y2, .ref y3, .ref y4, .ref y5, .ref y6, .ref y7, .int (iI ((ms : Nat) : Int)), .int (iI ((kw : Nat) : Int)), .int (iI ((kd : Nat) : Int)), .int (iI ((ma : Nat) : Int)), .int (iI (lk : Int))])), (x1, .inl (cI, 900, .inl gt)), (x2, .inl (cI, 300, .inl (apL g1 0 (sl gt 0 k)))), (x3, .inl (cI, 300, .inl g2)), (x4, .inl (cI, 900, .inl g3))] := hD
                    refine lv_goto (tgt := 143) hx hb dX5_take_116 (by decide) ?_
                    refine lv_aload_n hx hb dX5_take_143 rfl (lv_at hl 0 rfl) ?_
                    refine lv_iconst (v := iI ((0 : Nat) : Int)) hx hb dX5_take_144 rfl ?_
                    refine va_put (D := D) (ci := 5) (v := .int (iI ((0 : Nat) : Int))) (ty := .int) (C := RX5) (T := TX5) (N := 26) hx hb hts hi_X5 tyX5 tyX5_ok nmX5 hown hK hP hD hS 0 rfl rfl 8 (by decide) fl56 (fun _ h9 => h9) rfl (by decide +kernel) rfl rfl (Nat.le_of_ble_eq_true rfl) dX5_take_145 (fun H locs hP hD hS => ?_)
                    have hP : va_P D vwCl [(hm, .inr (5, [.int (iI (0 : Int)), .ref x1, .ref x2, .ref x3, .ref x4, .ref x5, .ref x6, .ref x7, .int (iI ((0 : Nat) : Int)), .int (iI ((kt : Nat) : Int)), .int (iI ((k2 : Nat) : Int)), .int (iI ((k3 : Nat) : Int)), .int (iI ((k4 : Nat) : Int)), .int (iI ((k5 : Nat) : Int)), .ref y1, .ref y2, .ref y3, .ref y4, .ref y5, .ref y6, .ref y7, .int (iI ((ms : Nat) : Int)), .int (iI ((kw : Nat) : Int)), .int (iI ((kd : Nat) : Int)), .int (iI ((ma : Nat) : Int)), .int (iI (lk : Int))])), (x1, .inl (cI, 900, .inl gt)), (x2, .inl (cI, 300, .inl (apL g1 0 (sl gt 0 k)))), (x3, .inl (cI, 300, .inl g2)), (x4, .inl (cI, 900, .inl g3))] H := hP
                    have hD : va_D A [(hm, .inr (5, [.int (iI (0 : Int)), .ref x1, .ref x2, .ref x3, .ref x4, .ref x5, .ref x6, .ref x7, .int (iI ((0 : Nat) : Int)), .int (iI ((kt : Nat) : Int)), .int (iI ((k2 : Nat) : Int)), .int (iI ((k3 : Nat) : Int)), .int (iI ((k4 : Nat) : Int)), .int (iI ((k5 : Nat) : Int)), .ref y1, .ref y2, .ref y3, .ref y4, .ref y5, .ref y6, .ref y7, .int (iI ((ms : Nat) : Int)), .int (iI ((kw : Nat) : Int)), .int (iI ((kd : Nat) : Int)), .int (iI ((ma : Nat) : Int)), .int (iI (lk : Int))])), (x1, .inl (cI, 900, .inl gt)), (x2, .inl (cI, 300, .inl (apL g1 0 (sl gt 0 k)))), (x3, .inl (cI, 300, .inl g2)), (x4, .inl (cI, 900, .inl g3))] := hD
                    refine lv_iconst (v := iI (1 : Int)) hx hb dX5_take_148 rfl ?_
                    have hE : tkF z kt gt k1 g1 k2 g2 k3 g3 = (1, 0, kt, (apL g1 0 (sl gt 0 kt)), k2, g2, k3, g3) := by unfold tkF; rw [if_pos (by omega)]
                    rw [show (apL g1 0 (sl gt 0 k)) = (apL g1 0 (sl gt 0 kt)) from by rw [show k = kt by omega]] at hP hD
                    exact k_zret (0, kt, (apL g1 0 (sl gt 0 kt)), k2, g2, k3, g3) hx hb hr (by decide) hlocks hK hP hD hS [0, 1, 2, 3, 4] (by decide) rfl rfl (⟨by rw [hE], by rw [hE]⟩) hAe hQ dX5_take_149
                · skip
                  have c44 := iI_leF (a := ((kt : Nat) : Int)) (b := ((k : Nat) : Int)) c44 (by omega)
                  refine lv_iload_n hx hb dX5_take_47 rfl (lv_at hl 1 rfl) ?_
                  refine lv_if_ne (tgt := 66) hx hb dX5_take_48 (by decide) (fun c48 => ?_) (fun c48 => ?_)
                  · skip
                    have c48 := iI_eqF (a := (0 : Int)) (b := (0 : Int)) c48 (by omega)
                    omega
                  · skip
                    have c48 := iI_eqT (a := (0 : Int)) (b := (0 : Int)) c48 (by omega)
                    refine lv_aload_n hx hb dX5_take_51 rfl (lv_at hl 0 rfl) ?_
                    refine va_get (D := D) (ci := 5) (v := .ref x2) (C := RX5) (T := TX5) (N := 26) hx hb hts hi_X5 hown hK hP 0 rfl rfl 2 (by decide) fl13 (fun _ h9 => h9) rfl dX5_take_52 ?_
                    refine lv_iload_n hx hb dX5_take_55 rfl (lv_at hl 2 rfl) ?_
                    refine lv_aload_n hx hb dX5_take_56 rfl (lv_at hl 0 rfl) ?_
                    refine va_get (D := D) (ci := 5) (v := .ref x1) (C := RX5) (T := TX5) (N := 26) hx hb hts hi_X5 hown hK hP 0 rfl rfl 1 (by decide) fl7 (fun _ h9 => h9) rfl dX5_take_57 ?_
                    refine lv_iload_n hx hb dX5_take_60 rfl (lv_at hl 2 rfl) ?_
                    refine k_iald hx hb hK hP 1 0 rfl rfl k (by omega) dX5_take_61 ?_
                    refine k_iast hx hb hK hP hD hS 2 0 rfl rfl k (by omega) dX5_take_62 (fun H locs hP hD hS => ?_)
                    have hP : va_P D vwCl [(hm, .inr (5, [.int (iI (0 : Int)), .ref x1, .ref x2, .ref x3, .ref x4, .ref x5, .ref x6, .ref x7, .int (iI ((kt : Nat) : Int)), .int (iI ((k1 : Nat) : Int)), .int (iI ((k2 : Nat) : Int)), .int (iI ((k3 : Nat) : Int)), .int (iI ((k4 : Nat) : Int)), .int (iI ((k5 : Nat) : Int)), .ref y1, .ref y2, .ref y3, .ref y4, .ref y5, .ref y6, .ref y7, .int (iI ((ms : Nat) : Int)), .int (iI ((kw : Nat) : Int)), .int (iI ((kd : Nat) : Int)), .int (iI ((ma : Nat) : Int)), .int (iI (lk : Int))])), (x1, .inl (cI, 900, .inl gt)), (x2, .inl (cI, 300, .inl (upd (apL g1 0 (sl gt 0 k)) k ((gt k))))), (x3, .inl (cI, 300, .inl g2)), (x4, .inl (cI, 900, .inl g3))] H := hP
                    have hD : va_D A [(hm, .inr (5, [.int (iI (0 : Int)), .ref x1, .ref x2, .ref x3, .ref x4, .ref x5, .ref x6, .ref x7, .int (iI ((kt : Nat) : Int)), .int (iI ((k1 : Nat) : Int)), .int (iI ((k2 : Nat) : Int)), .int (iI ((k3 : Nat) : Int)), .int (iI ((k4 : Nat) : Int)), .int (iI ((k5 : Nat) : Int)), .ref y1, .ref y2, .ref y3, .ref y4, .ref y5, .ref y6, .ref y7, .int (iI ((ms : Nat) : Int)), .int (iI ((kw : Nat) : Int)), .int (iI ((kd : Nat) : Int)), .int (iI ((ma : Nat) : Int)), .int (iI (lk : Int))])), (x1, .inl (cI, 900, .inl gt)), (x2, .inl (cI, 300, .inl (upd (apL g1 0 (sl gt 0 k)) k ((gt k))))), (x3, .inl (cI, 300, .inl g2)), (x4, .inl (cI, 900, .inl g3))] := hD
                    rw [show (upd (apL g1 0 (sl gt 0 k)) k ((gt k))) = (apL g1 0 (sl gt 0 (k + 1))) from apL_sl0] at hP hD
                    refine lv_goto (tgt := 98) hx hb dX5_take_63 (by decide) ?_
                    refine lv_iinc (v := iI ((k + 1 : Nat) : Int)) (lv' := [(2, .int (iI ((k + 1 : Nat) : Int))), (0, .ref hm), (1, .int (iI (0 : Int)))]) hx hb dX5_take_98 hl (k := 2) rfl (iA (by omega)) (by decide) rfl (fun ls hl => ?_)
                    refine lv_goto (tgt := 39) hx hb dX5_take_101 (by decide) ?_
                    exact ih39 (k + 1) _ _ _ (by omega) (by omega) hP hD hS (lv_sub hl [1, 2, 0] rfl)
            rw [show g1 = (apL g1 0 (sl gt 0 0)) from (apL_nil g1 0).symm] at hP hD
            exact lp39 _ 0 _ _ _ (Nat.lt_succ_self _) (by omega) hP hD hS (lv_sub hl [1, 2, 0] rfl)
          · skip
            rw [show iI (z : Int) = iI (1 : Int) from congrArg iI hz] at hl
            refine lv_iconst (v := iI ((0 : Nat) : Int)) hx hb dX5_take_37 rfl ?_
            refine lv_istore_n (lv' := [(2, .int (iI ((0 : Nat) : Int))), (0, .ref hm), (1, .int (iI (1 : Int)))]) hx hb dX5_take_38 rfl hl (by decide) rfl (fun ls hl => ?_)
            have lp39 : ∀ (fu : Nat) (k : Nat) (H : Heap) (locs : List Loc) (ls : Array Slot), kt - k < fu → (k ≤ kt) → va_P D vwCl [(hm, .inr (5, [.int (iI (0 : Int)), .ref x1, .ref x2, .ref x3, .ref x4, .ref x5, .ref x6, .ref x7, .int (iI ((kt : Nat) : Int)), .int (iI ((k1 : Nat) : Int)), .int (iI ((k2 : Nat) : Int)), .int (iI ((k3 : Nat) : Int)), .int (iI ((k4 : Nat) : Int)), .int (iI ((k5 : Nat) : Int)), .ref y1, .ref y2, .ref y3, .ref y4, .ref y5, .ref y6, .ref y7, .int (iI ((ms : Nat) : Int)), .int (iI ((kw : Nat) : Int)), .int (iI ((kd : Nat) : Int)), .int (iI ((ma : Nat) : Int)), .int (iI (lk : Int))])), (x1, .inl (cI, 900, .inl gt)), (x2, .inl (cI, 300, .inl g1)), (x3, .inl (cI, 300, .inl (apL g2 0 (sl gt 0 k)))), (x4, .inl (cI, 900, .inl g3))] H → va_D A [(hm, .inr (5, [.int (iI (0 : Int)), .ref x1, .ref x2, .ref x3, .ref x4, .ref x5, .ref x6, .ref x7, .int (iI ((kt : Nat) : Int)), .int (iI ((k1 : Nat) : Int)), .int (iI ((k2 : Nat) : Int)), .int (iI ((k3 : Nat) : Int)), .int (iI ((k4 : Nat) : Int)), .int (iI ((k5 : Nat) : Int)), .ref y1, .ref y2, .ref y3, .ref y4, .ref y5, .ref y6, .ref y7, .int (iI ((ms : Nat) : Int)), .int (iI ((kw : Nat) : Int)), .int (iI ((kd : Nat) : Int)), .int (iI ((ma : Nat) : Int)), .int (iI (lk : Int))])), (x1, .inl (cI, 900, .inl gt)), (x2, .inl (cI, 300, .inl g1)), (x3, .inl (cI, 300, .inl (apL g2 0 (sl gt 0 k)))), (x4, .inl (cI, 900, .inl g3))] → va_S A s.heap H locs → lv_has ls 3 [(0, .ref hm), (1, .int (iI (1 : Int))), (2, .int (iI ((k : Nat) : Int)))] → W p l e rm_c_Mo_take s m args below meth c H locs 0 0 Q (F0 m 39 ls []) := by
              intro fu
              induction fu with
              | zero => intro k H locs ls hfu; exact absurd hfu (Nat.not_lt_zero _)
              | succ fu ih39 =>
                intro k H locs ls hfu hk hP hD hS hl
                refine lv_iload_n hx hb dX5_take_39 rfl (lv_at hl 2 rfl) ?_
                refine lv_aload_n hx hb dX5_take_40 rfl (lv_at hl 0 rfl) ?_
                refine va_get (D := D) (ci := 5) (v := .int (iI ((kt : Nat) : Int))) (C := RX5) (T := TX5) (N := 26) hx hb hts hi_X5 hown hK hP 0 rfl rfl 8 (by decide) fl56 (fun _ h9 => h9) rfl dX5_take_41 ?_
                refine lv_icmp_ge (tgt := 104) hx hb dX5_take_44 (by decide) (fun c44 => ?_) (fun c44 => ?_)
                · skip
                  have c44 := iI_leT (a := ((kt : Nat) : Int)) (b := ((k : Nat) : Int)) c44 (by omega)
                  refine lv_iload_n hx hb dX5_take_104 rfl (lv_at hl 1 rfl) ?_
                  refine lv_if_ne (tgt := 119) hx hb dX5_take_105 (by decide) (fun c105 => ?_) (fun c105 => ?_)
                  · skip
                    have c105 := iI_eqF (a := (1 : Int)) (b := (0 : Int)) c105 (by omega)
                    refine lv_iload_n hx hb dX5_take_119 rfl (lv_at hl 1 rfl) ?_
                    refine lv_iconst (v := iI (1 : Int)) hx hb dX5_take_120 rfl ?_
                    refine lv_icmp_ne (tgt := 135) hx hb dX5_take_121 (by decide) (fun c121 => ?_) (fun c121 => ?_)
                    · skip
                      have c121 := iI_eqF (a := (1 : Int)) (b := (1 : Int)) c121 (by omega)
                      omega
                    · skip
                      have c121 := iI_eqT (a := (1 : Int)) (b := (1 : Int)) c121 (by omega)
                      refine lv_aload_n hx hb dX5_take_124 rfl (lv_at hl 0 rfl) ?_
                      refine lv_aload_n hx hb dX5_take_125 rfl (lv_at hl 0 rfl) ?_
                      refine va_get (D := D) (ci := 5) (v := .int (iI ((kt : Nat) : Int))) (C := RX5) (T := TX5) (N := 26) hx hb hts hi_X5 hown hK hP 0 rfl rfl 8 (by decide) fl56 (fun _ h9 => h9) rfl dX5_take_126 ?_
                      refine va_put (D := D) (ci := 5) (v := .int (iI ((kt : Nat) : Int))) (ty := .int) (C := RX5) (T := TX5) (N := 26) hx hb hts hi_X5 tyX5 tyX5_ok nmX5 hown hK hP hD hS 0 rfl rfl 10 (by decide) fl64 (fun _ h9 => h9) rfl (by decide +kernel) rfl rfl (Nat.le_of_ble_eq_true rfl) dX5_take_129 (fun H locs hP hD hS => ?_)
                      have hP : va_P D vwCl [(hm, .inr (5, [.int (iI (0 : Int)), .ref x1, .ref x2, .ref x3, .ref x4, .ref x5, .ref x6, .ref x7, .int (iI ((kt : Nat) : Int)), .int (iI ((k1 : Nat) : Int)), .int (iI ((kt : Nat) : Int)), .int (iI ((k3 : Nat) : Int)), .int (iI ((k4 : Nat) : Int)), .int (iI ((k5 : Nat) : Int)), .ref y1, .ref y2, .ref y3, .ref y4, .ref y5, .ref y6, .ref y7, .int (iI ((ms : Nat) : Int)), .int (iI ((kw : Nat) : Int)), .int (iI ((kd : Nat) : Int)), .int (iI ((ma : Nat) : Int)), .int (iI (lk : Int))])), (x1, .inl (cI, 900, .inl gt)), (x2, .inl (cI, 300, .inl g1)), (x3, .inl (cI, 300, .inl (apL g2 0 (sl gt 0 k)))), (x4, .inl (cI, 900, .inl g3))] H := hP
                      have hD : va_D A [(hm, .inr (5, [.int (iI (0 : Int)), .ref x1, .ref x2, .ref x3, .ref x4, .ref x5, .ref x6, .ref x7, .int (iI ((kt : Nat) : Int)), .int (iI ((k1 : Nat) : Int)), .int (iI ((kt : Nat) : Int)), .int (iI ((k3 : Nat) : Int)), .int (iI ((k4 : Nat) : Int)), .int (iI ((k5 : Nat) : Int)), .ref y1, .ref y2, .ref y3, .ref y4, .ref y5, .ref y6, .ref y7, .int (iI ((ms : Nat) : Int)), .int (iI ((kw : Nat) : Int)), .int (iI ((kd : Nat) : Int)), .int (iI ((ma : Nat) : Int)), .int (iI (lk : Int))])), (x1, .inl (cI, 900, .inl gt)), (x2, .inl (cI, 300, .inl g1)), (x3, .inl (cI, 300, .inl (apL g2 0 (sl gt 0 k)))), (x4, .inl (cI, 900, .inl g3))] := hD
                      refine lv_goto (tgt := 143) hx hb dX5_take_132 (by decide) ?_
                      refine lv_aload_n hx hb dX5_take_143 rfl (lv_at hl 0 rfl) ?_
                      refine lv_iconst (v := iI ((0 : Nat) : Int)) hx hb dX5_take_144 rfl ?_
                      refine va_put (D := D) (ci := 5) (v := .int (iI ((0 : Nat) : Int))) (ty := .int) (C := RX5) (T := TX5) (N := 26) hx hb hts hi_X5 tyX5 tyX5_ok nmX5 hown hK hP hD hS 0 rfl rfl 8 (by decide) fl56 (fun _ h9 => h9) rfl (by decide +kernel) rfl rfl (Nat.le_of_ble_eq_true rfl) dX5_take_145 (fun H locs hP hD hS => ?_)
                      have hP : va_P D vwCl [(hm, .inr (5, [.int (iI (0 : Int)), .ref x1, .ref x2, .ref x3, .ref x4, .ref x5, .ref x6, .ref x7, .int (iI ((0 : Nat) : Int)), .int (iI ((k1 : Nat) : Int)), .int (iI ((kt : Nat) : Int)), .int (iI ((k3 : Nat) : Int)), .int (iI ((k4 : Nat) : Int)), .int (iI ((k5 : Nat) : Int)), .ref y1, .ref y2, .ref y3, .ref y4, .ref y5, .ref y6, .ref y7, .int (iI ((ms : Nat) : Int)), .int (iI ((kw : Nat) : Int)), .int (iI ((kd : Nat) : Int)), .int (iI ((ma : Nat) : Int)), .int (iI (lk : Int))])), (x1, .inl (cI, 900, .inl gt)), (x2, .inl (cI, 300, .inl g1)), (x3, .inl (cI, 300, .inl (apL g2 0 (sl gt 0 k)))), (x4, .inl (cI, 900, .inl g3))] H := hP
                      have hD : va_D A [(hm, .inr (5, [.int (iI (0 : Int)), .ref x1, .ref x2, .ref x3, .ref x4, .ref x5, .ref x6, .ref x7, .int (iI ((0 : Nat) : Int)), .int (iI ((k1 : Nat) : Int)), .int (iI ((kt : Nat) : Int)), .int (iI ((k3 : Nat) : Int)), .int (iI ((k4 : Nat) : Int)), .int (iI ((k5 : Nat) : Int)), .ref y1, .ref y2, .ref y3, .ref y4, .ref y5, .ref y6, .ref y7, .int (iI ((ms : Nat) : Int)), .int (iI ((kw : Nat) : Int)), .int (iI ((kd : Nat) : Int)), .int (iI ((ma : Nat) : Int)), .int (iI (lk : Int))])), (x1, .inl (cI, 900, .inl gt)), (x2, .inl (cI, 300, .inl g1)), (x3, .inl (cI, 300, .inl (apL g2 0 (sl gt 0 k)))), (x4, .inl (cI, 900, .inl g3))] := hD
                      refine lv_iconst (v := iI (1 : Int)) hx hb dX5_take_148 rfl ?_
                      have hE : tkF z kt gt k1 g1 k2 g2 k3 g3 = (1, 0, k1, g1, kt, (apL g2 0 (sl gt 0 kt)), k3, g3) := by unfold tkF; rw [if_neg (by omega), if_pos (by omega)]
                      rw [show (apL g2 0 (sl gt 0 k)) = (apL g2 0 (sl gt 0 kt)) from by rw [show k = kt by omega]] at hP hD
                      exact k_zret (0, k1, g1, kt, (apL g2 0 (sl gt 0 kt)), k3, g3) hx hb hr (by decide) hlocks hK hP hD hS [0, 1, 2, 3, 4] (by decide) rfl rfl (⟨by rw [hE], by rw [hE]⟩) hAe hQ dX5_take_149
                  · skip
                    have c105 := iI_eqT (a := (1 : Int)) (b := (0 : Int)) c105 (by omega)
                    omega
                · skip
                  have c44 := iI_leF (a := ((kt : Nat) : Int)) (b := ((k : Nat) : Int)) c44 (by omega)
                  refine lv_iload_n hx hb dX5_take_47 rfl (lv_at hl 1 rfl) ?_
                  refine lv_if_ne (tgt := 66) hx hb dX5_take_48 (by decide) (fun c48 => ?_) (fun c48 => ?_)
                  · skip
                    have c48 := iI_eqF (a := (1 : Int)) (b := (0 : Int)) c48 (by omega)
                    refine lv_iload_n hx hb dX5_take_66 rfl (lv_at hl 1 rfl) ?_
                    refine lv_iconst (v := iI (1 : Int)) hx hb dX5_take_67 rfl ?_
                    refine lv_icmp_ne (tgt := 86) hx hb dX5_take_68 (by decide) (fun c68 => ?_) (fun c68 => ?_)
                    · skip
                      have c68 := iI_eqF (a := (1 : Int)) (b := (1 : Int)) c68 (by omega)
                      omega
                    · skip
                      have c68 := iI_eqT (a := (1 : Int)) (b := (1 : Int)) c68 (by omega)
                      refine lv_aload_n hx hb dX5_take_71 rfl (lv_at hl 0 rfl) ?_
                      refine va_get (D := D) (ci := 5) (v := .ref x3) (C := RX5) (T := TX5) (N := 26) hx hb hts hi_X5 hown hK hP 0 rfl rfl 3 (by decide) fl16 (fun _ h9 => h9) rfl dX5_take_72 ?_
                      refine lv_iload_n hx hb dX5_take_75 rfl (lv_at hl 2 rfl) ?_
                      refine lv_aload_n hx hb dX5_take_76 rfl (lv_at hl 0 rfl) ?_
                      refine va_get (D := D) (ci := 5) (v := .ref x1) (C := RX5) (T := TX5) (N := 26) hx hb hts hi_X5 hown hK hP 0 rfl rfl 1 (by decide) fl7 (fun _ h9 => h9) rfl dX5_take_77 ?_
                      refine lv_iload_n hx hb dX5_take_80 rfl (lv_at hl 2 rfl) ?_
                      refine k_iald hx hb hK hP 1 0 rfl rfl k (by omega) dX5_take_81 ?_
                      refine k_iast hx hb hK hP hD hS 3 0 rfl rfl k (by omega) dX5_take_82 (fun H locs hP hD hS => ?_)
                      have hP : va_P D vwCl [(hm, .inr (5, [.int (iI (0 : Int)), .ref x1, .ref x2, .ref x3, .ref x4, .ref x5, .ref x6, .ref x7, .int (iI ((kt : Nat) : Int)), .int (iI ((k1 : Nat) : Int)), .int (iI ((k2 : Nat) : Int)), .int (iI ((k3 : Nat) : Int)), .int (iI ((k4 : Nat) : Int)), .int (iI ((k5 : Nat) : Int)), .ref y1, .ref y2, .ref y3, .ref y4, .ref y5, .ref y6, .ref y7, .int (iI ((ms : Nat) : Int)), .int (iI ((kw : Nat) : Int)), .int (iI ((kd : Nat) : Int)), .int (iI ((ma : Nat) : Int)), .int (iI (lk : Int))])), (x1, .inl (cI, 900, .inl gt)), (x2, .inl (cI, 300, .inl g1)), (x3, .inl (cI, 300, .inl (upd (apL g2 0 (sl gt 0 k)) k ((gt k))))), (x4, .inl (cI, 900, .inl g3))] H := hP
                      have hD : va_D A [(hm, .inr (5, [.int (iI (0 : Int)), .ref x1, .ref x2, .ref x3, .ref x4, .ref x5, .ref x6, .ref x7, .int (iI ((kt : Nat) : Int)), .int (iI ((k1 : Nat) : Int)), .int (iI ((k2 : Nat) : Int)), .int (iI ((k3 : Nat) : Int)), .int (iI ((k4 : Nat) : Int)), .int (iI ((k5 : Nat) : Int)), .ref y1, .ref y2, .ref y3, .ref y4, .ref y5, .ref y6, .ref y7, .int (iI ((ms : Nat) : Int)), .int (iI ((kw : Nat) : Int)), .int (iI ((kd : Nat) : Int)), .int (iI ((ma : Nat) : Int)), .int (iI (lk : Int))])), (x1, .inl (cI, 900, .inl gt)), (x2, .inl (cI, 300, .inl g1)), (x3, .inl (cI, 300, .inl (upd (apL g2 0 (sl gt 0 k)) k ((gt k))))), (x4, .inl (cI, 900, .inl g3))] := hD
                      rw [show (upd (apL g2 0 (sl gt 0 k)) k ((gt k))) = (apL g2 0 (sl gt 0 (k + 1))) from apL_sl0] at hP hD
                      refine lv_goto (tgt := 98) hx hb dX5_take_83 (by decide) ?_
                      refine lv_iinc (v := iI ((k + 1 : Nat) : Int)) (lv' := [(2, .int (iI ((k + 1 : Nat) : Int))), (0, .ref hm), (1, .int (iI (1 : Int)))]) hx hb dX5_take_98 hl (k := 2) rfl (iA (by omega)) (by decide) rfl (fun ls hl => ?_)
                      refine lv_goto (tgt := 39) hx hb dX5_take_101 (by decide) ?_
                      exact ih39 (k + 1) _ _ _ (by omega) (by omega) hP hD hS (lv_sub hl [1, 2, 0] rfl)
                  · skip
                    have c48 := iI_eqT (a := (1 : Int)) (b := (0 : Int)) c48 (by omega)
                    omega
            rw [show g2 = (apL g2 0 (sl gt 0 0)) from (apL_nil g2 0).symm] at hP hD
            exact lp39 _ 0 _ _ _ (Nat.lt_succ_self _) (by omega) hP hD hS (lv_sub hl [1, 2, 0] rfl)
          · skip
            rw [show iI (z : Int) = iI (2 : Int) from congrArg iI hz] at hl
            refine lv_iconst (v := iI ((0 : Nat) : Int)) hx hb dX5_take_37 rfl ?_
            refine lv_istore_n (lv' := [(2, .int (iI ((0 : Nat) : Int))), (0, .ref hm), (1, .int (iI (2 : Int)))]) hx hb dX5_take_38 rfl hl (by decide) rfl (fun ls hl => ?_)
            have lp39 : ∀ (fu : Nat) (k : Nat) (H : Heap) (locs : List Loc) (ls : Array Slot), kt - k < fu → (k ≤ kt) → va_P D vwCl [(hm, .inr (5, [.int (iI (0 : Int)), .ref x1, .ref x2, .ref x3, .ref x4, .ref x5, .ref x6, .ref x7, .int (iI ((kt : Nat) : Int)), .int (iI ((k1 : Nat) : Int)), .int (iI ((k2 : Nat) : Int)), .int (iI ((k3 : Nat) : Int)), .int (iI ((k4 : Nat) : Int)), .int (iI ((k5 : Nat) : Int)), .ref y1, .ref y2, .ref y3, .ref y4, .ref y5, .ref y6, .ref y7, .int (iI ((ms : Nat) : Int)), .int (iI ((kw : Nat) : Int)), .int (iI ((kd : Nat) : Int)), .int (iI ((ma : Nat) : Int)), .int (iI (lk : Int))])), (x1, .inl (cI, 900, .inl gt)), (x2, .inl (cI, 300, .inl g1)), (x3, .inl (cI, 300, .inl g2)), (x4, .inl (cI, 900, .inl (apL g3 0 (sl gt 0 k))))] H → va_D A [(hm, .inr (5, [.int (iI (0 : Int)), .ref x1, .ref x2, .ref x3, .ref x4, .ref x5, .ref x6, .ref x7, .int (iI ((kt : Nat) : Int)), .int (iI ((k1 : Nat) : Int)), .int (iI ((k2 : Nat) : Int)), .int (iI ((k3 : Nat) : Int)), .int (iI ((k4 : Nat) : Int)), .int (iI ((k5 : Nat) : Int)), .ref y1, .ref y2, .ref y3, .ref y4, .ref y5, .ref y6, .ref y7, .int (iI ((ms : Nat) : Int)), .int (iI ((kw : Nat) : Int)), .int (iI ((kd : Nat) : Int)), .int (iI ((ma : Nat) : Int)), .int (iI (lk : Int))])), (x1, .inl (cI, 900, .inl gt)), (x2, .inl (cI, 300, .inl g1)), (x3, .inl (cI, 300, .inl g2)), (x4, .inl (cI, 900, .inl (apL g3 0 (sl gt 0 k))))] → va_S A s.heap H locs → lv_has ls 3 [(0, .ref hm), (1, .int (iI (2 : Int))), (2, .int (iI ((k : Nat) : Int)))] → W p l e rm_c_Mo_take s m args below meth c H locs 0 0 Q (F0 m 39 ls []) := by
              intro fu
              induction fu with
              | zero => intro k H locs ls hfu; exact absurd hfu (Nat.not_lt_zero _)
              | succ fu ih39 =>
                intro k H locs ls hfu hk hP hD hS hl
                refine lv_iload_n hx hb dX5_take_39 rfl (lv_at hl 2 rfl) ?_
                refine lv_aload_n hx hb dX5_take_40 rfl (lv_at hl 0 rfl) ?_
                refine va_get (D := D) (ci := 5) (v := .int (iI ((kt : Nat) : Int))) (C := RX5) (T := TX5) (N := 26) hx hb hts hi_X5 hown hK hP 0 rfl rfl 8 (by decide) fl56 (fun _ h9 => h9) rfl dX5_take_41 ?_
                refine lv_icmp_ge (tgt := 104) hx hb dX5_take_44 (by decide) (fun c44 => ?_) (fun c44 => ?_)
                · skip
                  have c44 := iI_leT (a := ((kt : Nat) : Int)) (b := ((k : Nat) : Int)) c44 (by omega)
                  refine lv_iload_n hx hb dX5_take_104 rfl (lv_at hl 1 rfl) ?_
                  refine lv_if_ne (tgt := 119) hx hb dX5_take_105 (by decide) (fun c105 => ?_) (fun c105 => ?_)
                  · skip
                    have c105 := iI_eqF (a := (2 : Int)) (b := (0 : Int)) c105 (by omega)
                    refine lv_iload_n hx hb dX5_take_119 rfl (lv_at hl 1 rfl) ?_
                    refine lv_iconst (v := iI (1 : Int)) hx hb dX5_take_120 rfl ?_
                    refine lv_icmp_ne (tgt := 135) hx hb dX5_take_121 (by decide) (fun c121 => ?_) (fun c121 => ?_)
                    · skip
                      have c121 := iI_eqF (a := (2 : Int)) (b := (1 : Int)) c121 (by omega)
                      refine lv_aload_n hx hb dX5_take_135 rfl (lv_at hl 0 rfl) ?_
                      refine lv_aload_n hx hb dX5_take_136 rfl (lv_at hl 0 rfl) ?_
                      refine va_get (D := D) (ci := 5) (v := .int (iI ((kt : Nat) : Int))) (C := RX5) (T := TX5) (N := 26) hx hb hts hi_X5 hown hK hP 0 rfl rfl 8 (by decide) fl56 (fun _ h9 => h9) rfl dX5_take_137 ?_
                      refine va_put (D := D) (ci := 5) (v := .int (iI ((kt : Nat) : Int))) (ty := .int) (C := RX5) (T := TX5) (N := 26) hx hb hts hi_X5 tyX5 tyX5_ok nmX5 hown hK hP hD hS 0 rfl rfl 11 (by decide) fl67 (fun _ h9 => h9) rfl (by decide +kernel) rfl rfl (Nat.le_of_ble_eq_true rfl) dX5_take_140 (fun H locs hP hD hS => ?_)
                      have hP : va_P D vwCl [(hm, .inr (5, [.int (iI (0 : Int)), .ref x1, .ref x2, .ref x3, .ref x4, .ref x5, .ref x6, .ref x7, .int (iI ((kt : Nat) : Int)), .int (iI ((k1 : Nat) : Int)), .int (iI ((k2 : Nat) : Int)), .int (iI ((kt : Nat) : Int)), .int (iI ((k4 : Nat) : Int)), .int (iI ((k5 : Nat) : Int)), .ref y1, .ref y2, .ref y3, .ref y4, .ref y5, .ref y6, .ref y7, .int (iI ((ms : Nat) : Int)), .int (iI ((kw : Nat) : Int)), .int (iI ((kd : Nat) : Int)), .int (iI ((ma : Nat) : Int)), .int (iI (lk : Int))])), (x1, .inl (cI, 900, .inl gt)), (x2, .inl (cI, 300, .inl g1)), (x3, .inl (cI, 300, .inl g2)), (x4, .inl (cI, 900, .inl (apL g3 0 (sl gt 0 k))))] H := hP
                      have hD : va_D A [(hm, .inr (5, [.int (iI (0 : Int)), .ref x1, .ref x2, .ref x3, .ref x4, .ref x5, .ref x6, .ref x7, .int (iI ((kt : Nat) : Int)), .int (iI ((k1 : Nat) : Int)), .int (iI ((k2 : Nat) : Int)), .int (iI ((kt : Nat) : Int)), .int (iI ((k4 : Nat) : Int)), .int (iI ((k5 : Nat) : Int)), .ref y1, .ref y2, .ref y3, .ref y4, .ref y5, .ref y6, .ref y7, .int (iI ((ms : Nat) : Int)), .int (iI ((kw : Nat) : Int)), .int (iI ((kd : Nat) : Int)), .int (iI ((ma : Nat) : Int)), .int (iI (lk : Int))])), (x1, .inl (cI, 900, .inl gt)), (x2, .inl (cI, 300, .inl g1)), (x3, .inl (cI, 300, .inl g2)), (x4, .inl (cI, 900, .inl (apL g3 0 (sl gt 0 k))))] := hD
                      refine lv_aload_n hx hb dX5_take_143 rfl (lv_at hl 0 rfl) ?_
                      refine lv_iconst (v := iI ((0 : Nat) : Int)) hx hb dX5_take_144 rfl ?_
                      refine va_put (D := D) (ci := 5) (v := .int (iI ((0 : Nat) : Int))) (ty := .int) (C := RX5) (T := TX5) (N := 26) hx hb hts hi_X5 tyX5 tyX5_ok nmX5 hown hK hP hD hS 0 rfl rfl 8 (by decide) fl56 (fun _ h9 => h9) rfl (by decide +kernel) rfl rfl (Nat.le_of_ble_eq_true rfl) dX5_take_145 (fun H locs hP hD hS => ?_)
                      have hP : va_P D vwCl [(hm, .inr (5, [.int (iI (0 : Int)), .ref x1, .ref x2, .ref x3, .ref x4, .ref x5, .ref x6, .ref x7, .int (iI ((0 : Nat) : Int)), .int (iI ((k1 : Nat) : Int)), .int (iI ((k2 : Nat) : Int)), .int (iI ((kt : Nat) : Int)), .int (iI ((k4 : Nat) : Int)), .int (iI ((k5 : Nat) : Int)), .ref y1, .ref y2, .ref y3, .ref y4, .ref y5, .ref y6, .ref y7, .int (iI ((ms : Nat) : Int)), .int (iI ((kw : Nat) : Int)), .int (iI ((kd : Nat) : Int)), .int (iI ((ma : Nat) : Int)), .int (iI (lk : Int))])), (x1, .inl (cI, 900, .inl gt)), (x2, .inl (cI, 300, .inl g1)), (x3, .inl (cI, 300, .inl g2)), (x4, .inl (cI, 900, .inl (apL g3 0 (sl gt 0 k))))] H := hP
                      have hD : va_D A [(hm, .inr (5, [.int (iI (0 : Int)), .ref x1, .ref x2, .ref x3, .ref x4, .ref x5, .ref x6, .ref x7, .int (iI ((0 : Nat) : Int)), .int (iI ((k1 : Nat) : Int)), .int (iI ((k2 : Nat) : Int)), .int (iI ((kt : Nat) : Int)), .int (iI ((k4 : Nat) : Int)), .int (iI ((k5 : Nat) : Int)), .ref y1, .ref y2, .ref y3, .ref y4, .ref y5, .ref y6, .ref y7, .int (iI ((ms : Nat) : Int)), .int (iI ((kw : Nat) : Int)), .int (iI ((kd : Nat) : Int)), .int (iI ((ma : Nat) : Int)), .int (iI (lk : Int))])), (x1, .inl (cI, 900, .inl gt)), (x2, .inl (cI, 300, .inl g1)), (x3, .inl (cI, 300, .inl g2)), (x4, .inl (cI, 900, .inl (apL g3 0 (sl gt 0 k))))] := hD
                      refine lv_iconst (v := iI (1 : Int)) hx hb dX5_take_148 rfl ?_
                      have hE : tkF z kt gt k1 g1 k2 g2 k3 g3 = (1, 0, k1, g1, k2, g2, kt, (apL g3 0 (sl gt 0 kt))) := by unfold tkF; rw [if_neg (by omega), if_neg (by omega), if_pos (by omega)]
                      rw [show (apL g3 0 (sl gt 0 k)) = (apL g3 0 (sl gt 0 kt)) from by rw [show k = kt by omega]] at hP hD
                      exact k_zret (0, k1, g1, k2, g2, kt, (apL g3 0 (sl gt 0 kt))) hx hb hr (by decide) hlocks hK hP hD hS [0, 1, 2, 3, 4] (by decide) rfl rfl (⟨by rw [hE], by rw [hE]⟩) hAe hQ dX5_take_149
                    · skip
                      have c121 := iI_eqT (a := (2 : Int)) (b := (1 : Int)) c121 (by omega)
                      omega
                  · skip
                    have c105 := iI_eqT (a := (2 : Int)) (b := (0 : Int)) c105 (by omega)
                    omega
                · skip
                  have c44 := iI_leF (a := ((kt : Nat) : Int)) (b := ((k : Nat) : Int)) c44 (by omega)
                  refine lv_iload_n hx hb dX5_take_47 rfl (lv_at hl 1 rfl) ?_
                  refine lv_if_ne (tgt := 66) hx hb dX5_take_48 (by decide) (fun c48 => ?_) (fun c48 => ?_)
                  · skip
                    have c48 := iI_eqF (a := (2 : Int)) (b := (0 : Int)) c48 (by omega)
                    refine lv_iload_n hx hb dX5_take_66 rfl (lv_at hl 1 rfl) ?_
                    refine lv_iconst (v := iI (1 : Int)) hx hb dX5_take_67 rfl ?_
                    refine lv_icmp_ne (tgt := 86) hx hb dX5_take_68 (by decide) (fun c68 => ?_) (fun c68 => ?_)
                    · skip
                      have c68 := iI_eqF (a := (2 : Int)) (b := (1 : Int)) c68 (by omega)
                      refine lv_aload_n hx hb dX5_take_86 rfl (lv_at hl 0 rfl) ?_
                      refine va_get (D := D) (ci := 5) (v := .ref x4) (C := RX5) (T := TX5) (N := 26) hx hb hts hi_X5 hown hK hP 0 rfl rfl 4 (by decide) fl19 (fun _ h9 => h9) rfl dX5_take_87 ?_
                      refine lv_iload_n hx hb dX5_take_90 rfl (lv_at hl 2 rfl) ?_
                      refine lv_aload_n hx hb dX5_take_91 rfl (lv_at hl 0 rfl) ?_
                      refine va_get (D := D) (ci := 5) (v := .ref x1) (C := RX5) (T := TX5) (N := 26) hx hb hts hi_X5 hown hK hP 0 rfl rfl 1 (by decide) fl7 (fun _ h9 => h9) rfl dX5_take_92 ?_
                      refine lv_iload_n hx hb dX5_take_95 rfl (lv_at hl 2 rfl) ?_
                      refine k_iald hx hb hK hP 1 0 rfl rfl k (by omega) dX5_take_96 ?_
                      refine k_iast hx hb hK hP hD hS 4 0 rfl rfl k (by omega) dX5_take_97 (fun H locs hP hD hS => ?_)
                      have hP : va_P D vwCl [(hm, .inr (5, [.int (iI (0 : Int)), .ref x1, .ref x2, .ref x3, .ref x4, .ref x5, .ref x6, .ref x7, .int (iI ((kt : Nat) : Int)), .int (iI ((k1 : Nat) : Int)), .int (iI ((k2 : Nat) : Int)), .int (iI ((k3 : Nat) : Int)), .int (iI ((k4 : Nat) : Int)), .int (iI ((k5 : Nat) : Int)), .ref y1, .ref y2, .ref y3, .ref y4, .ref y5, .ref y6, .ref y7, .int (iI ((ms : Nat) : Int)), .int (iI ((kw : Nat) : Int)), .int (iI ((kd : Nat) : Int)), .int (iI ((ma : Nat) : Int)), .int (iI (lk : Int))])), (x1, .inl (cI, 900, .inl gt)), (x2, .inl (cI, 300, .inl g1)), (x3, .inl (cI, 300, .inl g2)), (x4, .inl (cI, 900, .inl (upd (apL g3 0 (sl gt 0 k)) k ((gt k)))))] H := hP
                      have hD : va_D A [(hm, .inr (5, [.int (iI (0 : Int)), .ref x1, .ref x2, .ref x3, .ref x4, .ref x5, .ref x6, .ref x7, .int (iI ((kt : Nat) : Int)), .int (iI ((k1 : Nat) : Int)), .int (iI ((k2 : Nat) : Int)), .int (iI ((k3 : Nat) : Int)), .int (iI ((k4 : Nat) : Int)), .int (iI ((k5 : Nat) : Int)), .ref y1, .ref y2, .ref y3, .ref y4, .ref y5, .ref y6, .ref y7, .int (iI ((ms : Nat) : Int)), .int (iI ((kw : Nat) : Int)), .int (iI ((kd : Nat) : Int)), .int (iI ((ma : Nat) : Int)), .int (iI (lk : Int))])), (x1, .inl (cI, 900, .inl gt)), (x2, .inl (cI, 300, .inl g1)), (x3, .inl (cI, 300, .inl g2)), (x4, .inl (cI, 900, .inl (upd (apL g3 0 (sl gt 0 k)) k ((gt k)))))] := hD
                      rw [show (upd (apL g3 0 (sl gt 0 k)) k ((gt k))) = (apL g3 0 (sl gt 0 (k + 1))) from apL_sl0] at hP hD
                      refine lv_iinc (v := iI ((k + 1 : Nat) : Int)) (lv' := [(2, .int (iI ((k + 1 : Nat) : Int))), (0, .ref hm), (1, .int (iI (2 : Int)))]) hx hb dX5_take_98 hl (k := 2) rfl (iA (by omega)) (by decide) rfl (fun ls hl => ?_)
                      refine lv_goto (tgt := 39) hx hb dX5_take_101 (by decide) ?_
                      exact ih39 (k + 1) _ _ _ (by omega) (by omega) hP hD hS (lv_sub hl [1, 2, 0] rfl)
                    · skip
                      have c68 := iI_eqT (a := (2 : Int)) (b := (1 : Int)) c68 (by omega)
                      omega
                  · skip
                    have c48 := iI_eqT (a := (2 : Int)) (b := (0 : Int)) c48 (by omega)
                    omega
            rw [show g3 = (apL g3 0 (sl gt 0 0)) from (apL_nil g3 0).symm] at hP hD
            exact lp39 _ 0 _ _ _ (Nat.lt_succ_self _) (by omega) hP hD hS (lv_sub hl [1, 2, 0] rfl)
        · skip
          have c32 := iI_leF (a := ((kt : Nat) : Int)) (b := (900 : Int)) c32 (by omega)
          refine lv_iconst (v := iI (0 : Int)) hx hb dX5_take_35 rfl ?_
          have hE : tkF z kt gt k1 g1 k2 g2 k3 g3 = (0, kt, k1, g1, k2, g2, k3, g3) := by unfold tkF; rw [if_neg (by omega), if_neg (by omega), if_neg (by omega)]
          exact k_zret (kt, k1, g1, k2, g2, k3, g3) hx hb hr (by decide) hlocks hK hP hD hS [0, 1, 2, 3, 4] (by decide) rfl rfl (⟨by rw [hE], by rw [hE]⟩) hAe hQ dX5_take_36
      · skip
        have c20 := iI_leF (a := (2 : Int)) (b := (z : Int)) c20 (by omega)
        refine lv_sipush (v := iI (300 : Int)) hx hb dX5_take_23 (by decide) ?_
        refine lv_goto (tgt := 32) hx hb dX5_take_26 (by decide) ?_
        refine lv_icmp_le (tgt := 37) hx hb dX5_take_32 (by decide) (fun c32 => ?_) (fun c32 => ?_)
        · skip
          have c32 := iI_leT (a := ((kt : Nat) : Int)) (b := (300 : Int)) c32 (by omega)
          rcases (show (z = 0) ∨ (z = 1) ∨ (z = 2) by omega) with hz | hz | hz
          · skip
            rw [show iI (z : Int) = iI (0 : Int) from congrArg iI hz] at hl
            refine lv_iconst (v := iI ((0 : Nat) : Int)) hx hb dX5_take_37 rfl ?_
            refine lv_istore_n (lv' := [(2, .int (iI ((0 : Nat) : Int))), (0, .ref hm), (1, .int (iI (0 : Int)))]) hx hb dX5_take_38 rfl hl (by decide) rfl (fun ls hl => ?_)
            have lp39 : ∀ (fu : Nat) (k : Nat) (H : Heap) (locs : List Loc) (ls : Array Slot), kt - k < fu → (k ≤ kt) → va_P D vwCl [(hm, .inr (5, [.int (iI (0 : Int)), .ref x1, .ref x2, .ref x3, .ref x4, .ref x5, .ref x6, .ref x7, .int (iI ((kt : Nat) : Int)), .int (iI ((k1 : Nat) : Int)), .int (iI ((k2 : Nat) : Int)), .int (iI ((k3 : Nat) : Int)), .int (iI ((k4 : Nat) : Int)), .int (iI ((k5 : Nat) : Int)), .ref y1, .ref y2, .ref y3, .ref y4, .ref y5, .ref y6, .ref y7, .int (iI ((ms : Nat) : Int)), .int (iI ((kw : Nat) : Int)), .int (iI ((kd : Nat) : Int)), .int (iI ((ma : Nat) : Int)), .int (iI (lk : Int))])), (x1, .inl (cI, 900, .inl gt)), (x2, .inl (cI, 300, .inl (apL g1 0 (sl gt 0 k)))), (x3, .inl (cI, 300, .inl g2)), (x4, .inl (cI, 900, .inl g3))] H → va_D A [(hm, .inr (5, [.int (iI (0 : Int)), .ref x1, .ref x2, .ref x3, .ref x4, .ref x5, .ref x6, .ref x7, .int (iI ((kt : Nat) : Int)), .int (iI ((k1 : Nat) : Int)), .int (iI ((k2 : Nat) : Int)), .int (iI ((k3 : Nat) : Int)), .int (iI ((k4 : Nat) : Int)), .int (iI ((k5 : Nat) : Int)), .ref y1, .ref y2, .ref y3, .ref y4, .ref y5, .ref y6, .ref y7, .int (iI ((ms : Nat) : Int)), .int (iI ((kw : Nat) : Int)), .int (iI ((kd : Nat) : Int)), .int (iI ((ma : Nat) : Int)), .int (iI (lk : Int))])), (x1, .inl (cI, 900, .inl gt)), (x2, .inl (cI, 300, .inl (apL g1 0 (sl gt 0 k)))), (x3, .inl (cI, 300, .inl g2)), (x4, .inl (cI, 900, .inl g3))] → va_S A s.heap H locs → lv_has ls 3 [(0, .ref hm), (1, .int (iI (0 : Int))), (2, .int (iI ((k : Nat) : Int)))] → W p l e rm_c_Mo_take s m args below meth c H locs 0 0 Q (F0 m 39 ls []) := by
              intro fu
              induction fu with
              | zero => intro k H locs ls hfu; exact absurd hfu (Nat.not_lt_zero _)
              | succ fu ih39 =>
                intro k H locs ls hfu hk hP hD hS hl
                refine lv_iload_n hx hb dX5_take_39 rfl (lv_at hl 2 rfl) ?_
                refine lv_aload_n hx hb dX5_take_40 rfl (lv_at hl 0 rfl) ?_
                refine va_get (D := D) (ci := 5) (v := .int (iI ((kt : Nat) : Int))) (C := RX5) (T := TX5) (N := 26) hx hb hts hi_X5 hown hK hP 0 rfl rfl 8 (by decide) fl56 (fun _ h9 => h9) rfl dX5_take_41 ?_
                refine lv_icmp_ge (tgt := 104) hx hb dX5_take_44 (by decide) (fun c44 => ?_) (fun c44 => ?_)
                · skip
                  have c44 := iI_leT (a := ((kt : Nat) : Int)) (b := ((k : Nat) : Int)) c44 (by omega)
                  refine lv_iload_n hx hb dX5_take_104 rfl (lv_at hl 1 rfl) ?_
                  refine lv_if_ne (tgt := 119) hx hb dX5_take_105 (by decide) (fun c105 => ?_) (fun c105 => ?_)
                  · skip
                    have c105 := iI_eqF (a := (0 : Int)) (b := (0 : Int)) c105 (by omega)
                    omega
                  · skip
                    have c105 := iI_eqT (a := (0 : Int)) (b := (0 : Int)) c105 (by omega)
                    refine lv_aload_n hx hb dX5_take_108 rfl (lv_at hl 0 rfl) ?_
                    refine lv_aload_n hx hb dX5_take_109 rfl (lv_at hl 0 rfl) ?_
                    refine va_get (D := D) (ci := 5) (v := .int (iI ((kt : Nat) : Int))) (C := RX5) (T := TX5) (N := 26) hx hb hts hi_X5 hown hK hP 0 rfl rfl 8 (by decide) fl56 (fun _ h9 => h9) rfl dX5_take_110 ?_
                    refine va_put (D := D) (ci := 5) (v := .int (iI ((kt : Nat) : Int))) (ty := .int) (C := RX5) (T := TX5) (N := 26) hx hb hts hi_X5 tyX5 tyX5_ok nmX5 hown hK hP hD hS 0 rfl rfl 9 (by decide) fl61 (fun _ h9 => h9) rfl (by decide +kernel) rfl rfl (Nat.le_of_ble_eq_true rfl) dX5_take_113 (fun H locs hP hD hS => ?_)
                    have hP : va_P D vwCl [(hm, .inr (5, [.int (iI (0 : Int)), .ref x1, .ref x2, .ref x3, .ref x4, .ref x5, .ref x6, .ref x7, .int (iI ((kt : Nat) : Int)), .int (iI ((kt : Nat) : Int)), .int (iI ((k2 : Nat) : Int)), .int (iI ((k3 : Nat) : Int)), .int (iI ((k4 : Nat) : Int)), .int (iI ((k5 : Nat) : Int)), .ref y1, .ref y2, .ref y3, .ref y4, .ref y5, .ref y6, .ref y7, .int (iI ((ms : Nat) : Int)), .int (iI ((kw : Nat) : Int)), .int (iI ((kd : Nat) : Int)), .int (iI ((ma : Nat) : Int)), .int (iI (lk : Int))])), (x1, .inl (cI, 900, .inl gt)), (x2, .inl (cI, 300, .inl (apL g1 0 (sl gt 0 k)))), (x3, .inl (cI, 300, .inl g2)), (x4, .inl (cI, 900, .inl g3))] H := hP
                    have hD : va_D A [(hm, .inr (5, [.int (iI (0 : Int)), .ref x1, .ref x2, .ref x3, .ref x4, .ref x5, .ref x6, .ref x7, .int (iI ((kt : Nat) : Int)), .int (iI ((kt : Nat) : Int)), .int (iI ((k2 : Nat) : Int)), .int (iI ((k3 : Nat) : Int)), .int (iI ((k4 : Nat) : Int)), .int (iI ((k5 : Nat) : Int)), .ref y1, .ref y2, .ref y3, .ref y4, .ref y5, .ref y6, .ref y7, .int (iI ((ms : Nat) : Int)), .int (iI ((kw : Nat) : Int)), .int (iI ((kd : Nat) : Int)), .int (iI ((ma : Nat) : Int)), .int (iI (lk : Int))])), (x1, .inl (cI, 900, .inl gt)), (x2, .inl (cI, 300, .inl (apL g1 0 (sl gt 0 k)))), (x3, .inl (cI, 300, .inl g2)), (x4, .inl (cI, 900, .inl g3))] := hD
                    refine lv_goto (tgt := 143) hx hb dX5_take_116 (by decide) ?_
                    refine lv_aload_n hx hb dX5_take_143 rfl (lv_at hl 0 rfl) ?_
                    refine lv_iconst (v := iI ((0 : Nat) : Int)) hx hb dX5_take_144 rfl ?_
                    refine va_put (D := D) (ci := 5) (v := .int (iI ((0 : Nat) : Int))) (ty := .int) (C := RX5) (T := TX5) (N := 26) hx hb hts hi_X5 tyX5 tyX5_ok nmX5 hown hK hP hD hS 0 rfl rfl 8 (by decide) fl56 (fun _ h9 => h9) rfl (by decide +kernel) rfl rfl (Nat.le_of_ble_eq_true rfl) dX5_take_145 (fun H locs hP hD hS => ?_)
                    have hP : va_P D vwCl [(hm, .inr (5, [.int (iI (0 : Int)), .ref x1, .ref x2, .ref x3, .ref x4, .ref x5, .ref x6, .ref x7, .int (iI ((0 : Nat) : Int)), .int (iI ((kt : Nat) : Int)), .int (iI ((k2 : Nat) : Int)), .int (iI ((k3 : Nat) : Int)), .int (iI ((k4 : Nat) : Int)), .int (iI ((k5 : Nat) : Int)), .ref y1, .ref y2, .ref y3, .ref y4, .ref y5, .ref y6, .ref y7, .int (iI ((ms : Nat) : Int)), .int (iI ((kw : Nat) : Int)), .int (iI ((kd : Nat) : Int)), .int (iI ((ma : Nat) : Int)), .int (iI (lk : Int))])), (x1, .inl (cI, 900, .inl gt)), (x2, .inl (cI, 300, .inl (apL g1 0 (sl gt 0 k)))), (x3, .inl (cI, 300, .inl g2)), (x4, .inl (cI, 900, .inl g3))] H := hP
                    have hD : va_D A [(hm, .inr (5, [.int (iI (0 : Int)), .ref x1, .ref x2, .ref x3, .ref x4, .ref x5, .ref x6, .ref x7, .int (iI ((0 : Nat) : Int)), .int (iI ((kt : Nat) : Int)), .int (iI ((k2 : Nat) : Int)), .int (iI ((k3 : Nat) : Int)), .int (iI ((k4 : Nat) : Int)), .int (iI ((k5 : Nat) : Int)), .ref y1, .ref y2, .ref y3, .ref y4, .ref y5, .ref y6, .ref y7, .int (iI ((ms : Nat) : Int)), .int (iI ((kw : Nat) : Int)), .int (iI ((kd : Nat) : Int)), .int (iI ((ma : Nat) : Int)), .int (iI (lk : Int))])), (x1, .inl (cI, 900, .inl gt)), (x2, .inl (cI, 300, .inl (apL g1 0 (sl gt 0 k)))), (x3, .inl (cI, 300, .inl g2)), (x4, .inl (cI, 900, .inl g3))] := hD
                    refine lv_iconst (v := iI (1 : Int)) hx hb dX5_take_148 rfl ?_
                    have hE : tkF z kt gt k1 g1 k2 g2 k3 g3 = (1, 0, kt, (apL g1 0 (sl gt 0 kt)), k2, g2, k3, g3) := by unfold tkF; rw [if_pos (by omega)]
                    rw [show (apL g1 0 (sl gt 0 k)) = (apL g1 0 (sl gt 0 kt)) from by rw [show k = kt by omega]] at hP hD
                    exact k_zret (0, kt, (apL g1 0 (sl gt 0 kt)), k2, g2, k3, g3) hx hb hr (by decide) hlocks hK hP hD hS [0, 1, 2, 3, 4] (by decide) rfl rfl (⟨by rw [hE], by rw [hE]⟩) hAe hQ dX5_take_149
                · skip
                  have c44 := iI_leF (a := ((kt : Nat) : Int)) (b := ((k : Nat) : Int)) c44 (by omega)
                  refine lv_iload_n hx hb dX5_take_47 rfl (lv_at hl 1 rfl) ?_
                  refine lv_if_ne (tgt := 66) hx hb dX5_take_48 (by decide) (fun c48 => ?_) (fun c48 => ?_)
                  · skip
                    have c48 := iI_eqF (a := (0 : Int)) (b := (0 : Int)) c48 (by omega)
                    omega
                  · skip
                    have c48 := iI_eqT (a := (0 : Int)) (b := (0 : Int)) c48 (by omega)
                    refine lv_aload_n hx hb dX5_take_51 rfl (lv_at hl 0 rfl) ?_
                    refine va_get (D := D) (ci := 5) (v := .ref x2) (C := RX5) (T := TX5) (N := 26) hx hb hts hi_X5 hown hK hP 0 rfl rfl 2 (by decide) fl13 (fun _ h9 => h9) rfl dX5_take_52 ?_
                    refine lv_iload_n hx hb dX5_take_55 rfl (lv_at hl 2 rfl) ?_
                    refine lv_aload_n hx hb dX5_take_56 rfl (lv_at hl 0 rfl) ?_
                    refine va_get (D := D) (ci := 5) (v := .ref x1) (C := RX5) (T := TX5) (N := 26) hx hb hts hi_X5 hown hK hP 0 rfl rfl 1 (by decide) fl7 (fun _ h9 => h9) rfl dX5_take_57 ?_
                    refine lv_iload_n hx hb dX5_take_60 rfl (lv_at hl 2 rfl) ?_
                    refine k_iald hx hb hK hP 1 0 rfl rfl k (by omega) dX5_take_61 ?_
                    refine k_iast hx hb hK hP hD hS 2 0 rfl rfl k (by omega) dX5_take_62 (fun H locs hP hD hS => ?_)
                    have hP : va_P D vwCl [(hm, .inr (5, [.int (iI (0 : Int)), .ref x1, .ref x2, .ref x3, .ref x4, .ref x5, .ref x6, .ref x7, .int (iI ((kt : Nat) : Int)), .int (iI ((k1 : Nat) : Int)), .int (iI ((k2 : Nat) : Int)), .int (iI ((k3 : Nat) : Int)), .int (iI ((k4 : Nat) : Int)), .int (iI ((k5 : Nat) : Int)), .ref y1, .ref y2, .ref y3, .ref y4, .ref y5, .ref y6, .ref y7, .int (iI ((ms : Nat) : Int)), .int (iI ((kw : Nat) : Int)), .int (iI ((kd : Nat) : Int)), .int (iI ((ma : Nat) : Int)), .int (iI (lk : Int))])), (x1, .inl (cI, 900, .inl gt)), (x2, .inl (cI, 300, .inl (upd (apL g1 0 (sl gt 0 k)) k ((gt k))))), (x3, .inl (cI, 300, .inl g2)), (x4, .inl (cI, 900, .inl g3))] H := hP
                    have hD : va_D A [(hm, .inr (5, [.int (iI (0 : Int)), .ref x1, .ref x2, .ref x3, .ref x4, .ref x5, .ref x6, .ref x7, .int (iI ((kt : Nat) : Int)), .int (iI ((k1 : Nat) : Int)), .int (iI ((k2 : Nat) : Int)), .int (iI ((k3 : Nat) : Int)), .int (iI ((k4 : Nat) : Int)), .int (iI ((k5 : Nat) : Int)), .ref y1, .ref y2, .ref y3, .ref y4, .ref y5, .ref y6, .ref y7, .int (iI ((ms : Nat) : Int)), .int (iI ((kw : Nat) : Int)), .int (iI ((kd : Nat) : Int)), .int (iI ((ma : Nat) : Int)), .int (iI (lk : Int))])), (x1, .inl (cI, 900, .inl gt)), (x2, .inl (cI, 300, .inl (upd (apL g1 0 (sl gt 0 k)) k ((gt k))))), (x3, .inl (cI, 300, .inl g2)), (x4, .inl (cI, 900, .inl g3))] := hD
                    rw [show (upd (apL g1 0 (sl gt 0 k)) k ((gt k))) = (apL g1 0 (sl gt 0 (k + 1))) from apL_sl0] at hP hD
                    refine lv_goto (tgt := 98) hx hb dX5_take_63 (by decide) ?_
                    refine lv_iinc (v := iI ((k + 1 : Nat) : Int)) (lv' := [(2, .int (iI ((k + 1 : Nat) : Int))), (0, .ref hm), (1, .int (iI (0 : Int)))]) hx hb dX5_take_98 hl (k := 2) rfl (iA (by omega)) (by decide) rfl (fun ls hl => ?_)
                    refine lv_goto (tgt := 39) hx hb dX5_take_101 (by decide) ?_
                    exact ih39 (k + 1) _ _ _ (by omega) (by omega) hP hD hS (lv_sub hl [1, 2, 0] rfl)
            rw [show g1 = (apL g1 0 (sl gt 0 0)) from (apL_nil g1 0).symm] at hP hD
            exact lp39 _ 0 _ _ _ (Nat.lt_succ_self _) (by omega) hP hD hS (lv_sub hl [1, 2, 0] rfl)
          · skip
            rw [show iI (z : Int) = iI (1 : Int) from congrArg iI hz] at hl
            refine lv_iconst (v := iI ((0 : Nat) : Int)) hx hb dX5_take_37 rfl ?_
            refine lv_istore_n (lv' := [(2, .int (iI ((0 : Nat) : Int))), (0, .ref hm), (1, .int (iI (1 : Int)))]) hx hb dX5_take_38 rfl hl (by decide) rfl (fun ls hl => ?_)
            have lp39 : ∀ (fu : Nat) (k : Nat) (H : Heap) (locs : List Loc) (ls : Array Slot), kt - k < fu → (k ≤ kt) → va_P D vwCl [(hm, .inr (5, [.int (iI (0 : Int)), .ref x1, .ref x2, .ref x3, .ref x4, .ref x5, .ref x6, .ref x7, .int (iI ((kt : Nat) : Int)), .int (iI ((k1 : Nat) : Int)), .int (iI ((k2 : Nat) : Int)), .int (iI ((k3 : Nat) : Int)), .int (iI ((k4 : Nat) : Int)), .int (iI ((k5 : Nat) : Int)), .ref y1, .ref y2, .ref y3, .ref y4, .ref y5, .ref y6, .ref y7, .int (iI ((ms : Nat) : Int)), .int (iI ((kw : Nat) : Int)), .int (iI ((kd : Nat) : Int)), .int (iI ((ma : Nat) : Int)), .int (iI (lk : Int))])), (x1, .inl (cI, 900, .inl gt)), (x2, .inl (cI, 300, .inl g1)), (x3, .inl (cI, 300, .inl (apL g2 0 (sl gt 0 k)))), (x4, .inl (cI, 900, .inl g3))] H → va_D A [(hm, .inr (5, [.int (iI (0 : Int)), .ref x1, .ref x2, .ref x3, .ref x4, .ref x5, .ref x6, .ref x7, .int (iI ((kt : Nat) : Int)), .int (iI ((k1 : Nat) : Int)), .int (iI ((k2 : Nat) : Int)), .int (iI ((k3 : Nat) : Int)), .int (iI ((k4 : Nat) : Int)), .int (iI ((k5 : Nat) : Int)), .ref y1, .ref y2, .ref y3, .ref y4, .ref y5, .ref y6, .ref y7, .int (iI ((ms : Nat) : Int)), .int (iI ((kw : Nat) : Int)), .int (iI ((kd : Nat) : Int)), .int (iI ((ma : Nat) : Int)), .int (iI (lk : Int))])), (x1, .inl (cI, 900, .inl gt)), (x2, .inl (cI, 300, .inl g1)), (x3, .inl (cI, 300, .inl (apL g2 0 (sl gt 0 k)))), (x4, .inl (cI, 900, .inl g3))] → va_S A s.heap H locs → lv_has ls 3 [(0, .ref hm), (1, .int (iI (1 : Int))), (2, .int (iI ((k : Nat) : Int)))] → W p l e rm_c_Mo_take s m args below meth c H locs 0 0 Q (F0 m 39 ls []) := by
              intro fu
              induction fu with
              | zero => intro k H locs ls hfu; exact absurd hfu (Nat.not_lt_zero _)
              | succ fu ih39 =>
                intro k H locs ls hfu hk hP hD hS hl
                refine lv_iload_n hx hb dX5_take_39 rfl (lv_at hl 2 rfl) ?_
                refine lv_aload_n hx hb dX5_take_40 rfl (lv_at hl 0 rfl) ?_
                refine va_get (D := D) (ci := 5) (v := .int (iI ((kt : Nat) : Int))) (C := RX5) (T := TX5) (N := 26) hx hb hts hi_X5 hown hK hP 0 rfl rfl 8 (by decide) fl56 (fun _ h9 => h9) rfl dX5_take_41 ?_
                refine lv_icmp_ge (tgt := 104) hx hb dX5_take_44 (by decide) (fun c44 => ?_) (fun c44 => ?_)
                · skip
                  have c44 := iI_leT (a := ((kt : Nat) : Int)) (b := ((k : Nat) : Int)) c44 (by omega)
                  refine lv_iload_n hx hb dX5_take_104 rfl (lv_at hl 1 rfl) ?_
                  refine lv_if_ne (tgt := 119) hx hb dX5_take_105 (by decide) (fun c105 => ?_) (fun c105 => ?_)
                  · skip
                    have c105 := iI_eqF (a := (1 : Int)) (b := (0 : Int)) c105 (by omega)
                    refine lv_iload_n hx hb dX5_take_119 rfl (lv_at hl 1 rfl) ?_
                    refine lv_iconst (v := iI (1 : Int)) hx hb dX5_take_120 rfl ?_
                    refine lv_icmp_ne (tgt := 135) hx hb dX5_take_121 (by decide) (fun c121 => ?_) (fun c121 => ?_)
                    · skip
                      have c121 := iI_eqF (a := (1 : Int)) (b := (1 : Int)) c121 (by omega)
                      omega
                    · skip
                      have c121 := iI_eqT (a := (1 : Int)) (b := (1 : Int)) c121 (by omega)
                      refine lv_aload_n hx hb dX5_take_124 rfl (lv_at hl 0 rfl) ?_
                      refine lv_aload_n hx hb dX5_take_125 rfl (lv_at hl 0 rfl) ?_
                      refine va_get (D := D) (ci := 5) (v := .int (iI ((kt : Nat) : Int))) (C := RX5) (T := TX5) (N := 26) hx hb hts hi_X5 hown hK hP 0 rfl rfl 8 (by decide) fl56 (fun _ h9 => h9) rfl dX5_take_126 ?_
                      refine va_put (D := D) (ci := 5) (v := .int (iI ((kt : Nat) : Int))) (ty := .int) (C := RX5) (T := TX5) (N := 26) hx hb hts hi_X5 tyX5 tyX5_ok nmX5 hown hK hP hD hS 0 rfl rfl 10 (by decide) fl64 (fun _ h9 => h9) rfl (by decide +kernel) rfl rfl (Nat.le_of_ble_eq_true rfl) dX5_take_129 (fun H locs hP hD hS => ?_)
                      have hP : va_P D vwCl [(hm, .inr (5, [.int (iI (0 : Int)), .ref x1, .ref x2, .ref x3, .ref x4, .ref x5, .ref x6, .ref x7, .int (iI ((kt : Nat) : Int)), .int (iI ((k1 : Nat) : Int)), .int (iI ((kt : Nat) : Int)), .int (iI ((k3 : Nat) : Int)), .int (iI ((k4 : Nat) : Int)), .int (iI ((k5 : Nat) : Int)), .ref y1, .ref y2, .ref y3, .ref y4, .ref y5, .ref y6, .ref y7, .int (iI ((ms : Nat) : Int)), .int (iI ((kw : Nat) : Int)), .int (iI ((kd : Nat) : Int)), .int (iI ((ma : Nat) : Int)), .int (iI (lk : Int))])), (x1, .inl (cI, 900, .inl gt)), (x2, .inl (cI, 300, .inl g1)), (x3, .inl (cI, 300, .inl (apL g2 0 (sl gt 0 k)))), (x4, .inl (cI, 900, .inl g3))] H := hP
                      have hD : va_D A [(hm, .inr (5, [.int (iI (0 : Int)), .ref x1, .ref x2, .ref x3, .ref x4, .ref x5, .ref x6, .ref x7, .int (iI ((kt : Nat) : Int)), .int (iI ((k1 : Nat) : Int)), .int (iI ((kt : Nat) : Int)), .int (iI ((k3 : Nat) : Int)), .int (iI ((k4 : Nat) : Int)), .int (iI ((k5 : Nat) : Int)), .ref y1, .ref y2, .ref y3, .ref y4, .ref y5, .ref y6, .ref y7, .int (iI ((ms : Nat) : Int)), .int (iI ((kw : Nat) : Int)), .int (iI ((kd : Nat) : Int)), .int (iI ((ma : Nat) : Int)), .int (iI (lk : Int))])), (x1, .inl (cI, 900, .inl gt)), (x2, .inl (cI, 300, .inl g1)), (x3, .inl (cI, 300, .inl (apL g2 0 (sl gt 0 k)))), (x4, .inl (cI, 900, .inl g3))] := hD
                      refine lv_goto (tgt := 143) hx hb dX5_take_132 (by decide) ?_
                      refine lv_aload_n hx hb dX5_take_143 rfl (lv_at hl 0 rfl) ?_
                      refine lv_iconst (v := iI ((0 : Nat) : Int)) hx hb dX5_take_144 rfl ?_
                      refine va_put (D := D) (ci := 5) (v := .int (iI ((0 : Nat) : Int))) (ty := .int) (C := RX5) (T := TX5) (N := 26) hx hb hts hi_X5 tyX5 tyX5_ok nmX5 hown hK hP hD hS 0 rfl rfl 8 (by decide) fl56 (fun _ h9 => h9) rfl (by decide +kernel) rfl rfl (Nat.le_of_ble_eq_true rfl) dX5_take_145 (fun H locs hP hD hS => ?_)
                      have hP : va_P D vwCl [(hm, .inr (5, [.int (iI (0 : Int)), .ref x1, .ref x2, .ref x3, .ref x4, .ref x5, .ref x6, .ref x7, .int (iI ((0 : Nat) : Int)), .int (iI ((k1 : Nat) : Int)), .int (iI ((kt : Nat) : Int)), .int (iI ((k3 : Nat) : Int)), .int (iI ((k4 : Nat) : Int)), .int (iI ((k5 : Nat) : Int)), .ref y1, .ref y2, .ref y3, .ref y4, .ref y5, .ref y6, .ref y7, .int (iI ((ms : Nat) : Int)), .int (iI ((kw : Nat) : Int)), .int (iI ((kd : Nat) : Int)), .int (iI ((ma : Nat) : Int)), .int (iI (lk : Int))])), (x1, .inl (cI, 900, .inl gt)), (x2, .inl (cI, 300, .inl g1)), (x3, .inl (cI, 300, .inl (apL g2 0 (sl gt 0 k)))), (x4, .inl (cI, 900, .inl g3))] H := hP
                      have hD : va_D A [(hm, .inr (5, [.int (iI (0 : Int)), .ref x1, .ref x2, .ref x3, .ref x4, .ref x5, .ref x6, .ref x7, .int (iI ((0 : Nat) : Int)), .int (iI ((k1 : Nat) : Int)), .int (iI ((kt : Nat) : Int)), .int (iI ((k3 : Nat) : Int)), .int (iI ((k4 : Nat) : Int)), .int (iI ((k5 : Nat) : Int)), .ref y1, .ref y2, .ref y3, .ref y4, .ref y5, .ref y6, .ref y7, .int (iI ((ms : Nat) : Int)), .int (iI ((kw : Nat) : Int)), .int (iI ((kd : Nat) : Int)), .int (iI ((ma : Nat) : Int)), .int (iI (lk : Int))])), (x1, .inl (cI, 900, .inl gt)), (x2, .inl (cI, 300, .inl g1)), (x3, .inl (cI, 300, .inl (apL g2 0 (sl gt 0 k)))), (x4, .inl (cI, 900, .inl g3))] := hD
                      refine lv_iconst (v := iI (1 : Int)) hx hb dX5_take_148 rfl ?_
                      have hE : tkF z kt gt k1 g1 k2 g2 k3 g3 = (1, 0, k1, g1, kt, (apL g2 0 (sl gt 0 kt)), k3, g3) := by unfold tkF; rw [if_neg (by omega), if_pos (by omega)]
                      rw [show (apL g2 0 (sl gt 0 k)) = (apL g2 0 (sl gt 0 kt)) from by rw [show k = kt by omega]] at hP hD
                      exact k_zret (0, k1, g1, kt, (apL g2 0 (sl gt 0 kt)), k3, g3) hx hb hr (by decide) hlocks hK hP hD hS [0, 1, 2, 3, 4] (by decide) rfl rfl (⟨by rw [hE], by rw [hE]⟩) hAe hQ dX5_take_149
                  · skip
                    have c105 := iI_eqT (a := (1 : Int)) (b := (0 : Int)) c105 (by omega)
                    omega
                · skip
                  have c44 := iI_leF (a := ((kt : Nat) : Int)) (b := ((k : Nat) : Int)) c44 (by omega)
                  refine lv_iload_n hx hb dX5_take_47 rfl (lv_at hl 1 rfl) ?_
                  refine lv_if_ne (tgt := 66) hx hb dX5_take_48 (by decide) (fun c48 => ?_) (fun c48 => ?_)
                  · skip
                    have c48 := iI_eqF (a := (1 : Int)) (b := (0 : Int)) c48 (by omega)
                    refine lv_iload_n hx hb dX5_take_66 rfl (lv_at hl 1 rfl) ?_
                    refine lv_iconst (v := iI (1 : Int)) hx hb dX5_take_67 rfl ?_
                    refine lv_icmp_ne (tgt := 86) hx hb dX5_take_68 (by decide) (fun c68 => ?_) (fun c68 => ?_)
                    · skip
                      have c68 := iI_eqF (a := (1 : Int)) (b := (1 : Int)) c68 (by omega)
                      omega
                    · skip
                      have c68 := iI_eqT (a := (1 : Int)) (b := (1 : Int)) c68 (by omega)
                      refine lv_aload_n hx hb dX5_take_71 rfl (lv_at hl 0 rfl) ?_
                      refine va_get (D := D) (ci := 5) (v := .ref x3) (C := RX5) (T := TX5) (N := 26) hx hb hts hi_X5 hown hK hP 0 rfl rfl 3 (by decide) fl16 (fun _ h9 => h9) rfl dX5_take_72 ?_
                      refine lv_iload_n hx hb dX5_take_75 rfl (lv_at hl 2 rfl) ?_
                      refine lv_aload_n hx hb dX5_take_76 rfl (lv_at hl 0 rfl) ?_
                      refine va_get (D := D) (ci := 5) (v := .ref x1) (C := RX5) (T := TX5) (N := 26) hx hb hts hi_X5 hown hK hP 0 rfl rfl 1 (by decide) fl7 (fun _ h9 => h9) rfl dX5_take_77 ?_
                      refine lv_iload_n hx hb dX5_take_80 rfl (lv_at hl 2 rfl) ?_
                      refine k_iald hx hb hK hP 1 0 rfl rfl k (by omega) dX5_take_81 ?_
                      refine k_iast hx hb hK hP hD hS 3 0 rfl rfl k (by omega) dX5_take_82 (fun H locs hP hD hS => ?_)
                      have hP : va_P D vwCl [(hm, .inr (5, [.int (iI (0 : Int)), .ref x1, .ref x2, .ref x3, .ref x4, .ref x5, .ref x6, .ref x7, .int (iI ((kt : Nat) : Int)), .int (iI ((k1 : Nat) : Int)), .int (iI ((k2 : Nat) : Int)), .int (iI ((k3 : Nat) : Int)), .int (iI ((k4 : Nat) : Int)), .int (iI ((k5 : Nat) : Int)), .ref y1, .ref y2, .ref y3, .ref y4, .ref y5, .ref y6, .ref y7, .int (iI ((ms : Nat) : Int)), .int (iI ((kw : Nat) : Int)), .int (iI ((kd : Nat) : Int)), .int (iI ((ma : Nat) : Int)), .int (iI (lk : Int))])), (x1, .inl (cI, 900, .inl gt)), (x2, .inl (cI, 300, .inl g1)), (x3, .inl (cI, 300, .inl (upd (apL g2 0 (sl gt 0 k)) k ((gt k))))), (x4, .inl (cI, 900, .inl g3))] H := hP
                      have hD : va_D A [(hm, .inr (5, [.int (iI (0 : Int)), .ref x1, .ref x2, .ref x3, .ref x4, .ref x5, .ref x6, .ref x7, .int (iI ((kt : Nat) : Int)), .int (iI ((k1 : Nat) : Int)), .int (iI ((k2 : Nat) : Int)), .int (iI ((k3 : Nat) : Int)), .int (iI ((k4 : Nat) : Int)), .int (iI ((k5 : Nat) : Int)), .ref y1, .ref y2, .ref y3, .ref y4, .ref y5, .ref y6, .ref y7, .int (iI ((ms : Nat) : Int)), .int (iI ((kw : Nat) : Int)), .int (iI ((kd : Nat) : Int)), .int (iI ((ma : Nat) : Int)), .int (iI (lk : Int))])), (x1, .inl (cI, 900, .inl gt)), (x2, .inl (cI, 300, .inl g1)), (x3, .inl (cI, 300, .inl (upd (apL g2 0 (sl gt 0 k)) k ((gt k))))), (x4, .inl (cI, 900, .inl g3))] := hD
                      rw [show (upd (apL g2 0 (sl gt 0 k)) k ((gt k))) = (apL g2 0 (sl gt 0 (k + 1))) from apL_sl0] at hP hD
                      refine lv_goto (tgt := 98) hx hb dX5_take_83 (by decide) ?_
                      refine lv_iinc (v := iI ((k + 1 : Nat) : Int)) (lv' := [(2, .int (iI ((k + 1 : Nat) : Int))), (0, .ref hm), (1, .int (iI (1 : Int)))]) hx hb dX5_take_98 hl (k := 2) rfl (iA (by omega)) (by decide) rfl (fun ls hl => ?_)
                      refine lv_goto (tgt := 39) hx hb dX5_take_101 (by decide) ?_
                      exact ih39 (k + 1) _ _ _ (by omega) (by omega) hP hD hS (lv_sub hl [1, 2, 0] rfl)
                  · skip
                    have c48 := iI_eqT (a := (1 : Int)) (b := (0 : Int)) c48 (by omega)
                    omega
            rw [show g2 = (apL g2 0 (sl gt 0 0)) from (apL_nil g2 0).symm] at hP hD
            exact lp39 _ 0 _ _ _ (Nat.lt_succ_self _) (by omega) hP hD hS (lv_sub hl [1, 2, 0] rfl)
          · skip
            rw [show iI (z : Int) = iI (2 : Int) from congrArg iI hz] at hl
            refine lv_iconst (v := iI ((0 : Nat) : Int)) hx hb dX5_take_37 rfl ?_
            refine lv_istore_n (lv' := [(2, .int (iI ((0 : Nat) : Int))), (0, .ref hm), (1, .int (iI (2 : Int)))]) hx hb dX5_take_38 rfl hl (by decide) rfl (fun ls hl => ?_)
            have lp39 : ∀ (fu : Nat) (k : Nat) (H : Heap) (locs : List Loc) (ls : Array Slot), kt - k < fu → (k ≤ kt) → va_P D vwCl [(hm, .inr (5, [.int (iI (0 : Int)), .ref x1, .ref x2, .ref x3, .ref x4, .ref x5, .ref x6, .ref x7, .int (iI ((kt : Nat) : Int)), .int (iI ((k1 : Nat) : Int)), .int (iI ((k2 : Nat) : Int)), .int (iI ((k3 : Nat) : Int)), .int (iI ((k4 : Nat) : Int)), .int (iI ((k5 : Nat) : Int)), .ref y1, .ref y2, .ref y3, .ref y4, .ref y5, .ref y6, .ref y7, .int (iI ((ms : Nat) : Int)), .int (iI ((kw : Nat) : Int)), .int (iI ((kd : Nat) : Int)), .int (iI ((ma : Nat) : Int)), .int (iI (lk : Int))])), (x1, .inl (cI, 900, .inl gt)), (x2, .inl (cI, 300, .inl g1)), (x3, .inl (cI, 300, .inl g2)), (x4, .inl (cI, 900, .inl (apL g3 0 (sl gt 0 k))))] H → va_D A [(hm, .inr (5, [.int (iI (0 : Int)), .ref x1, .ref x2, .ref x3, .ref x4, .ref x5, .ref x6, .ref x7, .int (iI ((kt : Nat) : Int)), .int (iI ((k1 : Nat) : Int)), .int (iI ((k2 : Nat) : Int)), .int (iI ((k3 : Nat) : Int)), .int (iI ((k4 : Nat) : Int)), .int (iI ((k5 : Nat) : Int)), .ref y1, .ref y2, .ref y3, .ref y4, .ref y5, .ref y6, .ref y7, .int (iI ((ms : Nat) : Int)), .int (iI ((kw : Nat) : Int)), .int (iI ((kd : Nat) : Int)), .int (iI ((ma : Nat) : Int)), .int (iI (lk : Int))])), (x1, .inl (cI, 900, .inl gt)), (x2, .inl (cI, 300, .inl g1)), (x3, .inl (cI, 300, .inl g2)), (x4, .inl (cI, 900, .inl (apL g3 0 (sl gt 0 k))))] → va_S A s.heap H locs → lv_has ls 3 [(0, .ref hm), (1, .int (iI (2 : Int))), (2, .int (iI ((k : Nat) : Int)))] → W p l e rm_c_Mo_take s m args below meth c H locs 0 0 Q (F0 m 39 ls []) := by
              intro fu
              induction fu with
              | zero => intro k H locs ls hfu; exact absurd hfu (Nat.not_lt_zero _)
              | succ fu ih39 =>
                intro k H locs ls hfu hk hP hD hS hl
                refine lv_iload_n hx hb dX5_take_39 rfl (lv_at hl 2 rfl) ?_
                refine lv_aload_n hx hb dX5_take_40 rfl (lv_at hl 0 rfl) ?_
                refine va_get (D := D) (ci := 5) (v := .int (iI ((kt : Nat) : Int))) (C := RX5) (T := TX5) (N := 26) hx hb hts hi_X5 hown hK hP 0 rfl rfl 8 (by decide) fl56 (fun _ h9 => h9) rfl dX5_take_41 ?_
                refine lv_icmp_ge (tgt := 104) hx hb dX5_take_44 (by decide) (fun c44 => ?_) (fun c44 => ?_)
                · skip
                  have c44 := iI_leT (a := ((kt : Nat) : Int)) (b := ((k : Nat) : Int)) c44 (by omega)
                  refine lv_iload_n hx hb dX5_take_104 rfl (lv_at hl 1 rfl) ?_
                  refine lv_if_ne (tgt := 119) hx hb dX5_take_105 (by decide) (fun c105 => ?_) (fun c105 => ?_)
                  · skip
                    have c105 := iI_eqF (a := (2 : Int)) (b := (0 : Int)) c105 (by omega)
                    refine lv_iload_n hx hb dX5_take_119 rfl (lv_at hl 1 rfl) ?_
                    refine lv_iconst (v := iI (1 : Int)) hx hb dX5_take_120 rfl ?_
                    refine lv_icmp_ne (tgt := 135) hx hb dX5_take_121 (by decide) (fun c121 => ?_) (fun c121 => ?_)
                    · skip
                      have c121 := iI_eqF (a := (2 : Int)) (b := (1 : Int)) c121 (by omega)
                      refine lv_aload_n hx hb dX5_take_135 rfl (lv_at hl 0 rfl) ?_
                      refine lv_aload_n hx hb dX5_take_136 rfl (lv_at hl 0 rfl) ?_
                      refine va_get (D := D) (ci := 5) (v := .int (iI ((kt : Nat) : Int))) (C := RX5) (T := TX5) (N := 26) hx hb hts hi_X5 hown hK hP 0 rfl rfl 8 (by decide) fl56 (fun _ h9 => h9) rfl dX5_take_137 ?_
                      refine va_put (D := D) (ci := 5) (v := .int (iI ((kt : Nat) : Int))) (ty := .int) (C := RX5) (T := TX5) (N := 26) hx hb hts hi_X5 tyX5 tyX5_ok nmX5 hown hK hP hD hS 0 rfl rfl 11 (by decide) fl67 (fun _ h9 => h9) rfl (by decide +kernel) rfl rfl (Nat.le_of_ble_eq_true rfl) dX5_take_140 (fun H locs hP hD hS => ?_)
                      have hP : va_P D vwCl [(hm, .inr (5, [.int (iI (0 : Int)), .ref x1, .ref x2, .ref x3, .ref x4, .ref x5, .ref x6, .ref x7, .int (iI ((kt : Nat) : Int)), .int (iI ((k1 : Nat) : Int)), .int (iI ((k2 : Nat) : Int)), .int (iI ((kt : Nat) : Int)), .int (iI ((k4 : Nat) : Int)), .int (iI ((k5 : Nat) : Int)), .ref y1, .ref y2, .ref y3, .ref y4, .ref y5, .ref y6, .ref y7, .int (iI ((ms : Nat) : Int)), .int (iI ((kw : Nat) : Int)), .int (iI ((kd : Nat) : Int)), .int (iI ((ma : Nat) : Int)), .int (iI (lk : Int))])), (x1, .inl (cI, 900, .inl gt)), (x2, .inl (cI, 300, .inl g1)), (x3, .inl (cI, 300, .inl g2)), (x4, .inl (cI, 900, .inl (apL g3 0 (sl gt 0 k))))] H := hP
                      have hD : va_D A [(hm, .inr (5, [.int (iI (0 : Int)), .ref x1, .ref x2, .ref x3, .ref x4, .ref x5, .ref x6, .ref x7, .int (iI ((kt : Nat) : Int)), .int (iI ((k1 : Nat) : Int)), .int (iI ((k2 : Nat) : Int)), .int (iI ((kt : Nat) : Int)), .int (iI ((k4 : Nat) : Int)), .int (iI ((k5 : Nat) : Int)), .ref y1, .ref y2, .ref y3, .ref y4, .ref y5, .ref y6, .ref y7, .int (iI ((ms : Nat) : Int)), .int (iI ((kw : Nat) : Int)), .int (iI ((kd : Nat) : Int)), .int (iI ((ma : Nat) : Int)), .int (iI (lk : Int))])), (x1, .inl (cI, 900, .inl gt)), (x2, .inl (cI, 300, .inl g1)), (x3, .inl (cI, 300, .inl g2)), (x4, .inl (cI, 900, .inl (apL g3 0 (sl gt 0 k))))] := hD
                      refine lv_aload_n hx hb dX5_take_143 rfl (lv_at hl 0 rfl) ?_
                      refine lv_iconst (v := iI ((0 : Nat) : Int)) hx hb dX5_take_144 rfl ?_
                      refine va_put (D := D) (ci := 5) (v := .int (iI ((0 : Nat) : Int))) (ty := .int) (C := RX5) (T := TX5) (N := 26) hx hb hts hi_X5 tyX5 tyX5_ok nmX5 hown hK hP hD hS 0 rfl rfl 8 (by decide) fl56 (fun _ h9 => h9) rfl (by decide +kernel) rfl rfl (Nat.le_of_ble_eq_true rfl) dX5_take_145 (fun H locs hP hD hS => ?_)
                      have hP : va_P D vwCl [(hm, .inr (5, [.int (iI (0 : Int)), .ref x1, .ref x2, .ref x3, .ref x4, .ref x5, .ref x6, .ref x7, .int (iI ((0 : Nat) : Int)), .int (iI ((k1 : Nat) : Int)), .int (iI ((k2 : Nat) : Int)), .int (iI ((kt : Nat) : Int)), .int (iI ((k4 : Nat) : Int)), .int (iI ((k5 : Nat) : Int)), .ref y1, .ref y2, .ref y3, .ref y4, .ref y5, .ref y6, .ref y7, .int (iI ((ms : Nat) : Int)), .int (iI ((kw : Nat) : Int)), .int (iI ((kd : Nat) : Int)), .int (iI ((ma : Nat) : Int)), .int (iI (lk : Int))])), (x1, .inl (cI, 900, .inl gt)), (x2, .inl (cI, 300, .inl g1)), (x3, .inl (cI, 300, .inl g2)), (x4, .inl (cI, 900, .inl (apL g3 0 (sl gt 0 k))))] H := hP
                      have hD : va_D A [(hm, .inr (5, [.int (iI (0 : Int)), .ref x1, .ref x2, .ref x3, .ref x4, .ref x5, .ref x6, .ref x7, .int (iI ((0 : Nat) : Int)), .int (iI ((k1 : Nat) : Int)), .int (iI ((k2 : Nat) : Int)), .int (iI ((kt : Nat) : Int)), .int (iI ((k4 : Nat) : Int)), .int (iI ((k5 : Nat) : Int)), .ref y1, .ref y2, .ref y3, .ref y4, .ref y5, .ref y6, .ref y7, .int (iI ((ms : Nat) : Int)), .int (iI ((kw : Nat) : Int)), .int (iI ((kd : Nat) : Int)), .int (iI ((ma : Nat) : Int)), .int (iI (lk : Int))])), (x1, .inl (cI, 900, .inl gt)), (x2, .inl (cI, 300, .inl g1)), (x3, .inl (cI, 300, .inl g2)), (x4, .inl (cI, 900, .inl (apL g3 0 (sl gt 0 k))))] := hD
                      refine lv_iconst (v := iI (1 : Int)) hx hb dX5_take_148 rfl ?_
                      have hE : tkF z kt gt k1 g1 k2 g2 k3 g3 = (1, 0, k1, g1, k2, g2, kt, (apL g3 0 (sl gt 0 kt))) := by unfold tkF; rw [if_neg (by omega), if_neg (by omega), if_pos (by omega)]
                      rw [show (apL g3 0 (sl gt 0 k)) = (apL g3 0 (sl gt 0 kt)) from by rw [show k = kt by omega]] at hP hD
                      exact k_zret (0, k1, g1, k2, g2, kt, (apL g3 0 (sl gt 0 kt))) hx hb hr (by decide) hlocks hK hP hD hS [0, 1, 2, 3, 4] (by decide) rfl rfl (⟨by rw [hE], by rw [hE]⟩) hAe hQ dX5_take_149
                    · skip
                      have c121 := iI_eqT (a := (2 : Int)) (b := (1 : Int)) c121 (by omega)
                      omega
                  · skip
                    have c105 := iI_eqT (a := (2 : Int)) (b := (0 : Int)) c105 (by omega)
                    omega
                · skip
                  have c44 := iI_leF (a := ((kt : Nat) : Int)) (b := ((k : Nat) : Int)) c44 (by omega)
                  refine lv_iload_n hx hb dX5_take_47 rfl (lv_at hl 1 rfl) ?_
                  refine lv_if_ne (tgt := 66) hx hb dX5_take_48 (by decide) (fun c48 => ?_) (fun c48 => ?_)
                  · skip
                    have c48 := iI_eqF (a := (2 : Int)) (b := (0 : Int)) c48 (by omega)
                    refine lv_iload_n hx hb dX5_take_66 rfl (lv_at hl 1 rfl) ?_
                    refine lv_iconst (v := iI (1 : Int)) hx hb dX5_take_67 rfl ?_
                    refine lv_icmp_ne (tgt := 86) hx hb dX5_take_68 (by decide) (fun c68 => ?_) (fun c68 => ?_)
                    · skip
                      have c68 := iI_eqF (a := (2 : Int)) (b := (1 : Int)) c68 (by omega)
                      refine lv_aload_n hx hb dX5_take_86 rfl (lv_at hl 0 rfl) ?_
                      refine va_get (D := D) (ci := 5) (v := .ref x4) (C := RX5) (T := TX5) (N := 26) hx hb hts hi_X5 hown hK hP 0 rfl rfl 4 (by decide) fl19 (fun _ h9 => h9) rfl dX5_take_87 ?_
                      refine lv_iload_n hx hb dX5_take_90 rfl (lv_at hl 2 rfl) ?_
                      refine lv_aload_n hx hb dX5_take_91 rfl (lv_at hl 0 rfl) ?_
                      refine va_get (D := D) (ci := 5) (v := .ref x1) (C := RX5) (T := TX5) (N := 26) hx hb hts hi_X5 hown hK hP 0 rfl rfl 1 (by decide) fl7 (fun _ h9 => h9) rfl dX5_take_92 ?_
                      refine lv_iload_n hx hb dX5_take_95 rfl (lv_at hl 2 rfl) ?_
                      refine k_iald hx hb hK hP 1 0 rfl rfl k (by omega) dX5_take_96 ?_
                      refine k_iast hx hb hK hP hD hS 4 0 rfl rfl k (by omega) dX5_take_97 (fun H locs hP hD hS => ?_)
                      have hP : va_P D vwCl [(hm, .inr (5, [.int (iI (0 : Int)), .ref x1, .ref x2, .ref x3, .ref x4, .ref x5, .ref x6, .ref x7, .int (iI ((kt : Nat) : Int)), .int (iI ((k1 : Nat) : Int)), .int (iI ((k2 : Nat) : Int)), .int (iI ((k3 : Nat) : Int)), .int (iI ((k4 : Nat) : Int)), .int (iI ((k5 : Nat) : Int)), .ref y1, .ref y2, .ref y3, .ref y4, .ref y5, .ref y6, .ref y7, .int (iI ((ms : Nat) : Int)), .int (iI ((kw : Nat) : Int)), .int (iI ((kd : Nat) : Int)), .int (iI ((ma : Nat) : Int)), .int (iI (lk : Int))])), (x1, .inl (cI, 900, .inl gt)), (x2, .inl (cI, 300, .inl g1)), (x3, .inl (cI, 300, .inl g2)), (x4, .inl (cI, 900, .inl (upd (apL g3 0 (sl gt 0 k)) k ((gt k)))))] H := hP
                      have hD : va_D A [(hm, .inr (5, [.int (iI (0 : Int)), .ref x1, .ref x2, .ref x3, .ref x4, .ref x5, .ref x6, .ref x7, .int (iI ((kt : Nat) : Int)), .int (iI ((k1 : Nat) : Int)), .int (iI ((k2 : Nat) : Int)), .int (iI ((k3 : Nat) : Int)), .int (iI ((k4 : Nat) : Int)), .int (iI ((k5 : Nat) : Int)), .ref y1, .ref y2, .ref y3, .ref y4, .ref y5, .ref y6, .ref y7, .int (iI ((ms : Nat) : Int)), .int (iI ((kw : Nat) : Int)), .int (iI ((kd : Nat) : Int)), .int (iI ((ma : Nat) : Int)), .int (iI (lk : Int))])), (x1, .inl (cI, 900, .inl gt)), (x2, .inl (cI, 300, .inl g1)), (x3, .inl (cI, 300, .inl g2)), (x4, .inl (cI, 900, .inl (upd (apL g3 0 (sl gt 0 k)) k ((gt k)))))] := hD
                      rw [show (upd (apL g3 0 (sl gt 0 k)) k ((gt k))) = (apL g3 0 (sl gt 0 (k + 1))) from apL_sl0] at hP hD
                      refine lv_iinc (v := iI ((k + 1 : Nat) : Int)) (lv' := [(2, .int (iI ((k + 1 : Nat) : Int))), (0, .ref hm), (1, .int (iI (2 : Int)))]) hx hb dX5_take_98 hl (k := 2) rfl (iA (by omega)) (by decide) rfl (fun ls hl => ?_)
                      refine lv_goto (tgt := 39) hx hb dX5_take_101 (by decide) ?_
                      exact ih39 (k + 1) _ _ _ (by omega) (by omega) hP hD hS (lv_sub hl [1, 2, 0] rfl)
                    · skip
                      have c68 := iI_eqT (a := (2 : Int)) (b := (1 : Int)) c68 (by omega)
                      omega
                  · skip
                    have c48 := iI_eqT (a := (2 : Int)) (b := (0 : Int)) c48 (by omega)
                    omega
            rw [show g3 = (apL g3 0 (sl gt 0 0)) from (apL_nil g3 0).symm] at hP hD
            exact lp39 _ 0 _ _ _ (Nat.lt_succ_self _) (by omega) hP hD hS (lv_sub hl [1, 2, 0] rfl)
        · skip
          have c32 := iI_leF (a := ((kt : Nat) : Int)) (b := (300 : Int)) c32 (by omega)
          refine lv_iconst (v := iI (0 : Int)) hx hb dX5_take_35 rfl ?_
          have hE : tkF z kt gt k1 g1 k2 g2 k3 g3 = (0, kt, k1, g1, k2, g2, k3, g3) := by unfold tkF; rw [if_neg (by omega), if_neg (by omega), if_neg (by omega)]
          exact k_zret (kt, k1, g1, k2, g2, k3, g3) hx hb hr (by decide) hlocks hK hP hD hS [0, 1, 2, 3, 4] (by decide) rfl rfl (⟨by rw [hE], by rw [hE]⟩) hAe hQ dX5_take_36

abbrev rm_c_Mo_runOf : Room := { frames := 0, cells := 0, slots := 0, locals := 0 }
set_option maxHeartbeats 4000000 in
set_option maxRecDepth 100000 in
theorem c_Mo_runOf (l : Launch) (D : va_G) (cI cZ : ClassId) (hm : Nat) (cd : Int32) (x1 : Nat) (x2 : Nat) (x3 : Nat) (x4 : Nat) (x5 : Nat) (x6 : Nat) (x7 : Nat) (kt : Nat) (k1 : Nat) (k2 : Nat) (k3 : Nat) (k4 : Nat) (k5 : Nat) (y1 : Nat) (y2 : Nat) (y3 : Nat) (y4 : Nat) (y5 : Nat) (y6 : Nat) (y7 : Nat) (ms : Nat) (kw : Nat) (kd : Nat) (ma : Nat) (lk : Int) (g1 : Nat → Int32) (g2 : Nat → Int32) (p0 : Nat) (q0 : Nat) (hk1 : k1 ≤ 300) (hk2 : k2 ≤ 300) (hp0 : p0 ≤ k2) (hq0 : q0 ≤ k1) : MI l yX5_runOf wsX5_runOf rm_c_Mo_runOf D (kT cI cZ) [.ref hm, .int (iI ((p0 : Nat) : Int)), .int (iI ((q0 : Nat) : Int))] [(hm, .inr (5, [.int cd, .ref x1, .ref x2, .ref x3, .ref x4, .ref x5, .ref x6, .ref x7, .int (iI ((kt : Nat) : Int)), .int (iI ((k1 : Nat) : Int)), .int (iI ((k2 : Nat) : Int)), .int (iI ((k3 : Nat) : Int)), .int (iI ((k4 : Nat) : Int)), .int (iI ((k5 : Nat) : Int)), .ref y1, .ref y2, .ref y3, .ref y4, .ref y5, .ref y6, .ref y7, .int (iI ((ms : Nat) : Int)), .int (iI ((kw : Nat) : Int)), .int (iI ((kd : Nat) : Int)), .int (iI ((ma : Nat) : Int)), .int (iI (lk : Int))])), (x2, .inl (cI, 300, .inl g1)), (x3, .inl (cI, 300, .inl g2))] (fun (r : Int32) (_ : Unit) => r = iI ((lr g2 g1 k2 k1 p0 q0 : Nat) : Int)) (fun (u : Unit) => match u with | _ => [(hm, .inr (5, [.int cd, .ref x1, .ref x2, .ref x3, .ref x4, .ref x5, .ref x6, .ref x7, .int (iI ((kt : Nat) : Int)), .int (iI ((k1 : Nat) : Int)), .int (iI ((k2 : Nat) : Int)), .int (iI ((k3 : Nat) : Int)), .int (iI ((k4 : Nat) : Int)), .int (iI ((k5 : Nat) : Int)), .ref y1, .ref y2, .ref y3, .ref y4, .ref y5, .ref y6, .ref y7, .int (iI ((ms : Nat) : Int)), .int (iI ((kw : Nat) : Int)), .int (iI ((kd : Nat) : Int)), .int (iI ((ma : Nat) : Int)), .int (iI (lk : Int))])), (x2, .inl (cI, 300, .inl g1)), (x3, .inl (cI, 300, .inl g2))]) 0 0 := by
  intro sz
  refine k_of (cc := cX5_runOf) (maxL := 4) (ret := (some .int)) (by decide) rfl (Nat.le_of_ble_eq_true rfl) ?_
  intro p e s m args below meth c A Q hAe hQ hx hb hr hml hts hown hlocks hnm hP hK hD hS hA ls hl
  have hl : lv_has ls 4 [(0, .ref hm), (1, .int (iI ((p0 : Nat) : Int))), (2, .int (iI ((q0 : Nat) : Int)))] := hl
  have hi_X5 : ∀ w ∈ u_ws RX5 TX5 26, w ∈ wsX5_runOf := fun w h => km (ikX5 w h)
  have fl64 := hts _ (km wm485)
  have fl61 := hts _ (km wm484)
  have fl16 := hts _ (km wm478)
  have fl13 := hts _ (km wm477)
  refine lv_iconst (v := iI ((0 : Nat) : Int)) hx hb dX5_runOf_0 rfl ?_
  refine lv_istore_n (lv' := [(3, .int (iI ((0 : Nat) : Int))), (0, .ref hm), (1, .int (iI ((p0 : Nat) : Int))), (2, .int (iI ((q0 : Nat) : Int)))]) hx hb dX5_runOf_1 rfl hl (by decide) rfl (fun ls hl => ?_)
  have lp2 : ∀ (fu : Nat) (t : Nat) (H : Heap) (locs : List Loc) (ls : Array Slot), min (k2 - p0) (k1 - q0) - t < fu → (t ≤ min (k2 - p0) (k1 - q0)) → (lcp g2 g1 p0 q0 (min (k2 - p0) (k1 - q0)) = t + lcp g2 g1 (p0 + t) (q0 + t) (min (k2 - p0) (k1 - q0) - t)) → va_P D vwCl [(hm, .inr (5, [.int cd, .ref x1, .ref x2, .ref x3, .ref x4, .ref x5, .ref x6, .ref x7, .int (iI ((kt : Nat) : Int)), .int (iI ((k1 : Nat) : Int)), .int (iI ((k2 : Nat) : Int)), .int (iI ((k3 : Nat) : Int)), .int (iI ((k4 : Nat) : Int)), .int (iI ((k5 : Nat) : Int)), .ref y1, .ref y2, .ref y3, .ref y4, .ref y5, .ref y6, .ref y7, .int (iI ((ms : Nat) : Int)), .int (iI ((kw : Nat) : Int)), .int (iI ((kd : Nat) : Int)), .int (iI ((ma : Nat) : Int)), .int (iI (lk : Int))])), (x2, .inl (cI, 300, .inl g1)), (x3, .inl (cI, 300, .inl g2))] H → va_D A [(hm, .inr (5, [.int cd, .ref x1, .ref x2, .ref x3, .ref x4, .ref x5, .ref x6, .ref x7, .int (iI ((kt : Nat) : Int)), .int (iI ((k1 : Nat) : Int)), .int (iI ((k2 : Nat) : Int)), .int (iI ((k3 : Nat) : Int)), .int (iI ((k4 : Nat) : Int)), .int (iI ((k5 : Nat) : Int)), .ref y1, .ref y2, .ref y3, .ref y4, .ref y5, .ref y6, .ref y7, .int (iI ((ms : Nat) : Int)), .int (iI ((kw : Nat) : Int)), .int (iI ((kd : Nat) : Int)), .int (iI ((ma : Nat) : Int)), .int (iI (lk : Int))])), (x2, .inl (cI, 300, .inl g1)), (x3, .inl (cI, 300, .inl g2))] → va_S A s.heap H locs → lv_has ls 4 [(0, .ref hm), (1, .int (iI ((p0 : Nat) : Int))), (2, .int (iI ((q0 : Nat) : Int))), (3, .int (iI ((t : Nat) : Int)))] → W p l e rm_c_Mo_runOf s m args below meth c H locs 0 0 Q (F0 m 2 ls []) := by
    intro fu
    induction fu with
    | zero => intro t H locs ls hfu; exact absurd hfu (Nat.not_lt_zero _)
    | succ fu ih2 =>
      intro t H locs ls hfu ht hI hP hD hS hl
      refine lv_iload_n hx hb dX5_runOf_2 rfl (lv_at hl 1 rfl) ?_
      refine lv_iload_n hx hb dX5_runOf_3 rfl (lv_at hl 3 rfl) ?_
      refine lv_iadd hx hb dX5_runOf_4 ?_
      refine kn_i (iA (c := (((p0 + t) : Nat) : Int)) (by omega)) ?_
      refine lv_aload_n hx hb dX5_runOf_5 rfl (lv_at hl 0 rfl) ?_
      refine va_get (D := D) (ci := 5) (v := .int (iI ((k2 : Nat) : Int))) (C := RX5) (T := TX5) (N := 26) hx hb hts hi_X5 hown hK hP 0 rfl rfl 10 (by decide) fl64 (fun _ h9 => h9) rfl dX5_runOf_6 ?_
      refine lv_icmp_ge (tgt := 47) hx hb dX5_runOf_9 (by decide) (fun c9 => ?_) (fun c9 => ?_)
      · skip
        have c9 := iI_leT (a := ((k2 : Nat) : Int)) (b := (((p0 + t) : Nat) : Int)) c9 (by omega)
        refine lv_iload_n hx hb dX5_runOf_47 rfl (lv_at hl 3 rfl) ?_
        exact k_iret () hx hb hr hlocks hK hP hD hS [0, 1, 2] (by decide) rfl rfl (by unfold lr; rw [hI]; first | (rw [lcp_n c38]; rfl) | (rw [lcp_0 (by omega)]; rfl)) hAe hQ dX5_runOf_48
      · skip
        have c9 := iI_leF (a := ((k2 : Nat) : Int)) (b := (((p0 + t) : Nat) : Int)) c9 (by omega)
        refine lv_iload_n hx hb dX5_runOf_12 rfl (lv_at hl 2 rfl) ?_
        refine lv_iload_n hx hb dX5_runOf_13 rfl (lv_at hl 3 rfl) ?_
        refine lv_iadd hx hb dX5_runOf_14 ?_
        refine kn_i (iA (c := (((q0 + t) : Nat) : Int)) (by omega)) ?_
        refine lv_aload_n hx hb dX5_runOf_15 rfl (lv_at hl 0 rfl) ?_
        refine va_get (D := D) (ci := 5) (v := .int (iI ((k1 : Nat) : Int))) (C := RX5) (T := TX5) (N := 26) hx hb hts hi_X5 hown hK hP 0 rfl rfl 9 (by decide) fl61 (fun _ h9 => h9) rfl dX5_runOf_16 ?_
        refine lv_icmp_ge (tgt := 47) hx hb dX5_runOf_19 (by decide) (fun c19 => ?_) (fun c19 => ?_)
        · skip
          have c19 := iI_leT (a := ((k1 : Nat) : Int)) (b := (((q0 + t) : Nat) : Int)) c19 (by omega)
          refine lv_iload_n hx hb dX5_runOf_47 rfl (lv_at hl 3 rfl) ?_
          exact k_iret () hx hb hr hlocks hK hP hD hS [0, 1, 2] (by decide) rfl rfl (by unfold lr; rw [hI]; first | (rw [lcp_n c38]; rfl) | (rw [lcp_0 (by omega)]; rfl)) hAe hQ dX5_runOf_48
        · skip
          have c19 := iI_leF (a := ((k1 : Nat) : Int)) (b := (((q0 + t) : Nat) : Int)) c19 (by omega)
          refine lv_aload_n hx hb dX5_runOf_22 rfl (lv_at hl 0 rfl) ?_
          refine va_get (D := D) (ci := 5) (v := .ref x3) (C := RX5) (T := TX5) (N := 26) hx hb hts hi_X5 hown hK hP 0 rfl rfl 3 (by decide) fl16 (fun _ h9 => h9) rfl dX5_runOf_23 ?_
          refine lv_iload_n hx hb dX5_runOf_26 rfl (lv_at hl 1 rfl) ?_
          refine lv_iload_n hx hb dX5_runOf_27 rfl (lv_at hl 3 rfl) ?_
          refine lv_iadd hx hb dX5_runOf_28 ?_
          refine kn_i (iA (c := (((p0 + t) : Nat) : Int)) (by omega)) ?_
          refine k_iald hx hb hK hP 2 0 rfl rfl (p0 + t) (by omega) dX5_runOf_29 ?_
          refine lv_aload_n hx hb dX5_runOf_30 rfl (lv_at hl 0 rfl) ?_
          refine va_get (D := D) (ci := 5) (v := .ref x2) (C := RX5) (T := TX5) (N := 26) hx hb hts hi_X5 hown hK hP 0 rfl rfl 2 (by decide) fl13 (fun _ h9 => h9) rfl dX5_runOf_31 ?_
          refine lv_iload_n hx hb dX5_runOf_34 rfl (lv_at hl 2 rfl) ?_
          refine lv_iload_n hx hb dX5_runOf_35 rfl (lv_at hl 3 rfl) ?_
          refine lv_iadd hx hb dX5_runOf_36 ?_
          refine kn_i (iA (c := (((q0 + t) : Nat) : Int)) (by omega)) ?_
          refine k_iald hx hb hK hP 1 0 rfl rfl (q0 + t) (by omega) dX5_runOf_37 ?_
          refine lv_icmp_ne (tgt := 47) hx hb dX5_runOf_38 (by decide) (fun c38 => ?_) (fun c38 => ?_)
          · skip
            refine lv_iload_n hx hb dX5_runOf_47 rfl (lv_at hl 3 rfl) ?_
            exact k_iret () hx hb hr hlocks hK hP hD hS [0, 1, 2] (by decide) rfl rfl (by unfold lr; rw [hI]; first | (rw [lcp_n c38]; rfl) | (rw [lcp_0 (by omega)]; rfl)) hAe hQ dX5_runOf_48
          · skip
            refine lv_iinc (v := iI ((t + 1 : Nat) : Int)) (lv' := [(3, .int (iI ((t + 1 : Nat) : Int))), (0, .ref hm), (1, .int (iI ((p0 : Nat) : Int))), (2, .int (iI ((q0 : Nat) : Int)))]) hx hb dX5_runOf_41 hl (k := 3) rfl (iA (by omega)) (by decide) rfl (fun ls hl => ?_)
            refine lv_goto (tgt := 2) hx hb dX5_runOf_44 (by decide) ?_
            exact ih2 (t + 1) _ _ _ (by omega) (by omega) (by rw [hI, lcp_s (by omega) c38]; simp only [Nat.sub_sub, Nat.add_assoc]; omega) hP hD hS (lv_sub hl [1, 2, 3, 0] rfl)
  exact lp2 _ 0 _ _ _ (Nat.lt_succ_self _) (by omega) (by simp) hP hD hS (lv_sub hl [1, 2, 3, 0] rfl)

abbrev rm_c_Mo_findSteps : Room := { frames := 1, cells := 0, slots := 0, locals := 23 }
set_option maxHeartbeats 4000000 in
set_option maxRecDepth 100000 in
theorem c_Mo_findSteps (l : Launch) (D : va_G) (cI cZ : ClassId) (hm : Nat) (cd : Int32) (x1 : Nat) (x2 : Nat) (x3 : Nat) (x4 : Nat) (x5 : Nat) (x6 : Nat) (x7 : Nat) (kt : Nat) (k1 : Nat) (k2 : Nat) (k3 : Nat) (k4 : Nat) (k5 : Nat) (y1 : Nat) (y2 : Nat) (y3 : Nat) (y4 : Nat) (y5 : Nat) (y6 : Nat) (y7 : Nat) (ms : Nat) (kw : Nat) (kd : Nat) (ma : Nat) (lk : Int) (g1 : Nat → Int32) (g2 : Nat → Int32) (P : Nat → Int) (L : Nat → Int) (S : Nat → Int) (hk1 : k1 ≤ 300) (hk2 : k2 ≤ 300) : MV l yX5_findSteps wsX5_findSteps rm_c_Mo_findSteps D (kT cI cZ) [.ref hm] [(hm, .inr (5, [.int cd, .ref x1, .ref x2, .ref x3, .ref x4, .ref x5, .ref x6, .ref x7, .int (iI ((kt : Nat) : Int)), .int (iI ((k1 : Nat) : Int)), .int (iI ((k2 : Nat) : Int)), .int (iI ((k3 : Nat) : Int)), .int (iI ((k4 : Nat) : Int)), .int (iI ((k5 : Nat) : Int)), .ref y1, .ref y2, .ref y3, .ref y4, .ref y5, .ref y6, .ref y7, .int (iI ((ms : Nat) : Int)), .int (iI ((kw : Nat) : Int)), .int (iI ((kd : Nat) : Int)), .int (iI ((ma : Nat) : Int)), .int (iI (lk : Int))])), (x2, .inl (cI, 300, .inl g1)), (x3, .inl (cI, 300, .inl g2)), (y1, .inl (cI, 300, .inl (kA P))), (y2, .inl (cI, 300, .inl (kA L))), (y3, .inl (cI, 300, .inl (kA S)))] (fun (u : (Nat → Int) × (Nat → Int) × (Nat → Int) × Nat) => u = layF (lr g2 g1 k2 k1) k1 k2 300 0 P L S 0) (fun (u : (Nat → Int) × (Nat → Int) × (Nat → Int) × Nat) => match u with | ⟨P8, L8, S8, c8⟩ => [(hm, .inr (5, [.int cd, .ref x1, .ref x2, .ref x3, .ref x4, .ref x5, .ref x6, .ref x7, .int (iI ((kt : Nat) : Int)), .int (iI ((k1 : Nat) : Int)), .int (iI ((k2 : Nat) : Int)), .int (iI ((k3 : Nat) : Int)), .int (iI ((k4 : Nat) : Int)), .int (iI ((k5 : Nat) : Int)), .ref y1, .ref y2, .ref y3, .ref y4, .ref y5, .ref y6, .ref y7, .int (iI ((c8 : Nat) : Int)), .int (iI ((kw : Nat) : Int)), .int (iI ((kd : Nat) : Int)), .int (iI ((ma : Nat) : Int)), .int (iI (lk : Int))])), (x2, .inl (cI, 300, .inl g1)), (x3, .inl (cI, 300, .inl g2)), (y1, .inl (cI, 300, .inl (kA P8))), (y2, .inl (cI, 300, .inl (kA L8))), (y3, .inl (cI, 300, .inl (kA S8)))]) 0 0 := by
  intro sz
  refine k_of (cc := cX5_findSteps) (maxL := 6) (ret := none) (by decide) rfl (Nat.le_of_ble_eq_true rfl) ?_
  intro p e s m args below meth c A Q hAe hQ hx hb hr hml hts hown hlocks hnm hP hK hD hS hA ls hl
  have hl : lv_has ls 6 [(0, .ref hm)] := hl
  have hi_X5 : ∀ w ∈ u_ws RX5 TX5 26, w ∈ wsX5_findSteps := fun w h => km (ikX5 w h)
  have fl88 := hts _ (km wm496)
  have fl64 := hts _ (km wm485)
  have fl61 := hts _ (km wm484)
  have fl37 := hts _ (km wm491)
  have fl34 := hts _ (km wm490)
  have fl31 := hts _ (km wm489)
  refine lv_aload_n hx hb dX5_findSteps_0 rfl (lv_at hl 0 rfl) ?_
  refine lv_iconst (v := iI ((0 : Nat) : Int)) hx hb dX5_findSteps_1 rfl ?_
  refine va_put (D := D) (ci := 5) (v := .int (iI ((0 : Nat) : Int))) (ty := .int) (C := RX5) (T := TX5) (N := 26) hx hb hts hi_X5 tyX5 tyX5_ok nmX5 hown hK hP hD hS 0 rfl rfl 21 (by decide) fl88 (fun _ h9 => h9) rfl (by decide +kernel) rfl rfl (Nat.le_of_ble_eq_true rfl) dX5_findSteps_2 (fun H locs hP hD hS => ?_)
  have hP : va_P D vwCl [(hm, .inr (5, [.int cd, .ref x1, .ref x2, .ref x3, .ref x4, .ref x5, .ref x6, .ref x7, .int (iI ((kt : Nat) : Int)), .int (iI ((k1 : Nat) : Int)), .int (iI ((k2 : Nat) : Int)), .int (iI ((k3 : Nat) : Int)), .int (iI ((k4 : Nat) : Int)), .int (iI ((k5 : Nat) : Int)), .ref y1, .ref y2, .ref y3, .ref y4, .ref y5, .ref y6, .ref y7, .int (iI ((0 : Nat) : Int)), .int (iI ((kw : Nat) : Int)), .int (iI ((kd : Nat) : Int)), .int (iI ((ma : Nat) : Int)), .int (iI (lk : Int))])), (x2, .inl (cI, 300, .inl g1)), (x3, .inl (cI, 300, .inl g2)), (y1, .inl (cI, 300, .inl (kA P))), (y2, .inl (cI, 300, .inl (kA L))), (y3, .inl (cI, 300, .inl (kA S)))] H := hP
  have hD : va_D A [(hm, .inr (5, [.int cd, .ref x1, .ref x2, .ref x3, .ref x4, .ref x5, .ref x6, .ref x7, .int (iI ((kt : Nat) : Int)), .int (iI ((k1 : Nat) : Int)), .int (iI ((k2 : Nat) : Int)), .int (iI ((k3 : Nat) : Int)), .int (iI ((k4 : Nat) : Int)), .int (iI ((k5 : Nat) : Int)), .ref y1, .ref y2, .ref y3, .ref y4, .ref y5, .ref y6, .ref y7, .int (iI ((0 : Nat) : Int)), .int (iI ((kw : Nat) : Int)), .int (iI ((kd : Nat) : Int)), .int (iI ((ma : Nat) : Int)), .int (iI (lk : Int))])), (x2, .inl (cI, 300, .inl g1)), (x3, .inl (cI, 300, .inl g2)), (y1, .inl (cI, 300, .inl (kA P))), (y2, .inl (cI, 300, .inl (kA L))), (y3, .inl (cI, 300, .inl (kA S)))] := hD
  refine lv_iconst (v := iI ((0 : Nat) : Int)) hx hb dX5_findSteps_5 rfl ?_
  refine lv_istore_n (lv' := [(1, .int (iI ((0 : Nat) : Int))), (0, .ref hm)]) hx hb dX5_findSteps_6 rfl hl (by decide) rfl (fun ls hl => ?_)
  have lp7 : ∀ (fu : Nat) (t : Nat) (p0 : Nat) (ms9 : Nat) (P9 : Nat → Int) (L9 : Nat → Int) (S9 : Nat → Int) (H : Heap) (locs : List Loc) (ls : Array Slot), k2 - p0 < fu → (t ≤ p0) → (p0 ≤ k2) → (LW P9 L9 S9 ms9 k1 p0) → (layF (lr g2 g1 k2 k1) k1 k2 (300 - t) p0 P9 L9 S9 ms9 = layF (lr g2 g1 k2 k1) k1 k2 300 0 P L S 0) → va_P D vwCl [(hm, .inr (5, [.int cd, .ref x1, .ref x2, .ref x3, .ref x4, .ref x5, .ref x6, .ref x7, .int (iI ((kt : Nat) : Int)), .int (iI ((k1 : Nat) : Int)), .int (iI ((k2 : Nat) : Int)), .int (iI ((k3 : Nat) : Int)), .int (iI ((k4 : Nat) : Int)), .int (iI ((k5 : Nat) : Int)), .ref y1, .ref y2, .ref y3, .ref y4, .ref y5, .ref y6, .ref y7, .int (iI ((ms9 : Nat) : Int)), .int (iI ((kw : Nat) : Int)), .int (iI ((kd : Nat) : Int)), .int (iI ((ma : Nat) : Int)), .int (iI (lk : Int))])), (x2, .inl (cI, 300, .inl g1)), (x3, .inl (cI, 300, .inl g2)), (y1, .inl (cI, 300, .inl (kA P9))), (y2, .inl (cI, 300, .inl (kA L9))), (y3, .inl (cI, 300, .inl (kA S9)))] H → va_D A [(hm, .inr (5, [.int cd, .ref x1, .ref x2, .ref x3, .ref x4, .ref x5, .ref x6, .ref x7, .int (iI ((kt : Nat) : Int)), .int (iI ((k1 : Nat) : Int)), .int (iI ((k2 : Nat) : Int)), .int (iI ((k3 : Nat) : Int)), .int (iI ((k4 : Nat) : Int)), .int (iI ((k5 : Nat) : Int)), .ref y1, .ref y2, .ref y3, .ref y4, .ref y5, .ref y6, .ref y7, .int (iI ((ms9 : Nat) : Int)), .int (iI ((kw : Nat) : Int)), .int (iI ((kd : Nat) : Int)), .int (iI ((ma : Nat) : Int)), .int (iI (lk : Int))])), (x2, .inl (cI, 300, .inl g1)), (x3, .inl (cI, 300, .inl g2)), (y1, .inl (cI, 300, .inl (kA P9))), (y2, .inl (cI, 300, .inl (kA L9))), (y3, .inl (cI, 300, .inl (kA S9)))] → va_S A s.heap H locs → lv_has ls 6 [(0, .ref hm), (1, .int (iI ((p0 : Nat) : Int)))] → W p l e rm_c_Mo_findSteps s m args below meth c H locs 0 0 Q (F0 m 7 ls []) := by
    intro fu
    induction fu with
    | zero => intro t p0 ms9 P9 L9 S9 H locs ls hfu; exact absurd hfu (Nat.not_lt_zero _)
    | succ fu ih7 =>
      intro t p0 ms9 P9 L9 S9 H locs ls hfu ht hp0 hW hF hP hD hS hl
      refine lv_iload_n hx hb dX5_findSteps_7 rfl (lv_at hl 1 rfl) ?_
      refine lv_aload_n hx hb dX5_findSteps_8 rfl (lv_at hl 0 rfl) ?_
      refine va_get (D := D) (ci := 5) (v := .int (iI ((k2 : Nat) : Int))) (C := RX5) (T := TX5) (N := 26) hx hb hts hi_X5 hown hK hP 0 rfl rfl 10 (by decide) fl64 (fun _ h9 => h9) rfl dX5_findSteps_9 ?_
      refine lv_icmp_ge (tgt := 196) hx hb dX5_findSteps_12 (by decide) (fun c12 => ?_) (fun c12 => ?_)
      · skip
        have c12 := iI_leT (a := ((k2 : Nat) : Int)) (b := ((p0 : Nat) : Int)) c12 (by omega)
        exact k_vret (P9, L9, S9, ms9) hx hb hr hlocks hK hP hD hS [0, 1, 2, 3, 4, 5] (by decide) rfl rfl (by rw [← hF, layF_e (by omega)]) hAe hQ dX5_findSteps_196
      · skip
        have c12 := iI_leF (a := ((k2 : Nat) : Int)) (b := ((p0 : Nat) : Int)) c12 (by omega)
        have hcm := hW.2.2.2.2
        have hmx := fun q => mxR_le (r := (lr g2 g1 k2 k1 p0)) (b := k1) (fun q => lr_le) q
        refine lv_iconst (v := iI (-1 : Int)) hx hb dX5_findSteps_15 rfl ?_
        refine lv_istore_n (lv' := [(2, .int (iI (-1 : Int))), (0, .ref hm), (1, .int (iI ((p0 : Nat) : Int)))]) hx hb dX5_findSteps_16 rfl hl (by decide) rfl (fun ls hl => ?_)
        refine lv_iconst (v := iI ((3 : Nat) : Int)) hx hb dX5_findSteps_17 rfl ?_
        refine lv_istore_n (lv' := [(3, .int (iI ((3 : Nat) : Int))), (2, .int (iI (-1 : Int))), (0, .ref hm), (1, .int (iI ((p0 : Nat) : Int)))]) hx hb dX5_findSteps_18 rfl hl (by decide) rfl (fun ls hl => ?_)
        refine lv_iconst (v := iI ((0 : Nat) : Int)) hx hb dX5_findSteps_19 rfl ?_
        refine lv_istore (lv' := [(4, .int (iI ((0 : Nat) : Int))), (3, .int (iI ((3 : Nat) : Int))), (2, .int (iI (-1 : Int))), (0, .ref hm), (1, .int (iI ((p0 : Nat) : Int)))]) hx hb dX5_findSteps_20 hl (by decide) rfl (fun ls hl => ?_)
        have lp22 : ∀ (fu : Nat) (q : Nat) (H : Heap) (locs : List Loc) (ls : Array Slot), k1 - q < fu → (q ≤ k1) → va_P D vwCl [(hm, .inr (5, [.int cd, .ref x1, .ref x2, .ref x3, .ref x4, .ref x5, .ref x6, .ref x7, .int (iI ((kt : Nat) : Int)), .int (iI ((k1 : Nat) : Int)), .int (iI ((k2 : Nat) : Int)), .int (iI ((k3 : Nat) : Int)), .int (iI ((k4 : Nat) : Int)), .int (iI ((k5 : Nat) : Int)), .ref y1, .ref y2, .ref y3, .ref y4, .ref y5, .ref y6, .ref y7, .int (iI ((ms9 : Nat) : Int)), .int (iI ((kw : Nat) : Int)), .int (iI ((kd : Nat) : Int)), .int (iI ((ma : Nat) : Int)), .int (iI (lk : Int))])), (x2, .inl (cI, 300, .inl g1)), (x3, .inl (cI, 300, .inl g2)), (y1, .inl (cI, 300, .inl (kA P9))), (y2, .inl (cI, 300, .inl (kA L9))), (y3, .inl (cI, 300, .inl (kA S9)))] H → va_D A [(hm, .inr (5, [.int cd, .ref x1, .ref x2, .ref x3, .ref x4, .ref x5, .ref x6, .ref x7, .int (iI ((kt : Nat) : Int)), .int (iI ((k1 : Nat) : Int)), .int (iI ((k2 : Nat) : Int)), .int (iI ((k3 : Nat) : Int)), .int (iI ((k4 : Nat) : Int)), .int (iI ((k5 : Nat) : Int)), .ref y1, .ref y2, .ref y3, .ref y4, .ref y5, .ref y6, .ref y7, .int (iI ((ms9 : Nat) : Int)), .int (iI ((kw : Nat) : Int)), .int (iI ((kd : Nat) : Int)), .int (iI ((ma : Nat) : Int)), .int (iI (lk : Int))])), (x2, .inl (cI, 300, .inl g1)), (x3, .inl (cI, 300, .inl g2)), (y1, .inl (cI, 300, .inl (kA P9))), (y2, .inl (cI, 300, .inl (kA L9))), (y3, .inl (cI, 300, .inl (kA S9)))] → va_S A s.heap H locs → lv_has ls 6 [(0, .ref hm), (1, .int (iI ((p0 : Nat) : Int))), (2, .int (iI (bsM (lr g2 g1 k2 k1 p0) q : Int))), (3, .int (iI ((max 3 (mxR (lr g2 g1 k2 k1 p0) q) : Nat) : Int))), (4, .int (iI ((q : Nat) : Int)))] → W p l e rm_c_Mo_findSteps s m args below meth c H locs 0 0 Q (F0 m 22 ls []) := by
          intro fu
          induction fu with
          | zero => intro q H locs ls hfu; exact absurd hfu (Nat.not_lt_zero _)
          | succ fu ih22 =>
            intro q H locs ls hfu hq hP hD hS hl
            refine lv_iload hx hb dX5_findSteps_22 (lv_at hl 4 rfl) ?_
            refine lv_aload_n hx hb dX5_findSteps_24 rfl (lv_at hl 0 rfl) ?_
            refine va_get (D := D) (ci := 5) (v := .int (iI ((k1 : Nat) : Int))) (C := RX5) (T := TX5) (N := 26) hx hb hts hi_X5 hown hK hP 0 rfl rfl 9 (by decide) fl61 (fun _ h9 => h9) rfl dX5_findSteps_25 ?_
            refine lv_icmp_ge (tgt := 61) hx hb dX5_findSteps_28 (by decide) (fun c28 => ?_) (fun c28 => ?_)
            · skip
              have c28 := iI_leT (a := ((k1 : Nat) : Int)) (b := ((q : Nat) : Int)) c28 (by omega)
              have hm2 : mxR (lr g2 g1 k2 k1 p0) k1 ≤ k2 - p0 := mxR_le (fun q => lr_leg) _
              have hm3 : mxR (lr g2 g1 k2 k1 p0) k1 ≤ k1 - lsQ (lr g2 g1 k2 k1 p0) k1 := by
                have := lr_le' (fg := g2) (fb := g1) (ng := k2) (nb := k1) (p := p0) (q := lsQ (lr g2 g1 k2 k1 p0) k1)
                rw [lr_at] at this
                exact this
              have hm4 := lsQ_le (lr g2 g1 k2 k1 p0) k1
              rcases (show (4 ≤ mxR (lr g2 g1 k2 k1 p0) k1) ∨ (¬ 4 ≤ mxR (lr g2 g1 k2 k1 p0) k1) by omega) with hb4 | hb4
              · skip
                have hm2 : mxR (lr g2 g1 k2 k1 p0) k1 ≤ k2 - p0 := mxR_le (fun q => lr_leg) _
                have hm3 : mxR (lr g2 g1 k2 k1 p0) k1 ≤ k1 - lsQ (lr g2 g1 k2 k1 p0) k1 := by
                  have := lr_le' (fg := g2) (fb := g1) (ng := k2) (nb := k1) (p := p0) (q := lsQ (lr g2 g1 k2 k1 p0) k1)
                  rw [lr_at] at this
                  exact this
                have hm4 := lsQ_le (lr g2 g1 k2 k1 p0) k1
                rw [show iI (bsM (lr g2 g1 k2 k1 p0) q : Int) = iI ((lsQ (lr g2 g1 k2 k1 p0) k1 : Nat) : Int) from by rw [show q = k1 by omega]; unfold bsM; rw [if_pos hb4]] at hl
                rw [show iI ((max 3 (mxR (lr g2 g1 k2 k1 p0) q) : Nat) : Int) = iI ((mxR (lr g2 g1 k2 k1 p0) k1 : Nat) : Int) from congrArg iI (by rw [show q = k1 by omega]; omega)] at hl
                refine lv_iload_n hx hb dX5_findSteps_61 rfl (lv_at hl 2 rfl) ?_
                refine lv_iconst (v := iI (-1 : Int)) hx hb dX5_findSteps_62 rfl ?_
                refine lv_icmp_ne (tgt := 108) hx hb dX5_findSteps_63 (by decide) (fun c63 => ?_) (fun c63 => ?_)
                · skip
                  have c63 := iI_eqF (a := ((lsQ (lr g2 g1 k2 k1 p0) k1 : Nat) : Int)) (b := (-1 : Int)) c63 (by omega)
                  refine lv_iconst (v := iI (0 : Int)) hx hb dX5_findSteps_108 rfl ?_
                  refine lv_istore (lv' := [(4, .int (iI (0 : Int))), (0, .ref hm), (1, .int (iI ((p0 : Nat) : Int))), (2, .int (iI ((lsQ (lr g2 g1 k2 k1 p0) k1 : Nat) : Int))), (3, .int (iI ((mxR (lr g2 g1 k2 k1 p0) k1 : Nat) : Int)))]) hx hb dX5_findSteps_109 hl (by decide) rfl (fun ls hl => ?_)
                  refine lv_iload hx hb dX5_findSteps_111 (lv_at hl 0 rfl) ?_
                  refine lv_if_ne (tgt := 156) hx hb dX5_findSteps_113 (by decide) (fun c113 => ?_) (fun c113 => ?_)
                  · skip
                    have c113 := iI_eqF (a := (0 : Int)) (b := (0 : Int)) c113 (by omega)
                    omega
                  · skip
                    have c113 := iI_eqT (a := (0 : Int)) (b := (0 : Int)) c113 (by omega)
                    refine lv_aload_n hx hb dX5_findSteps_116 rfl (lv_at hl 1 rfl) ?_
                    refine va_get (D := D) (ci := 5) (v := .ref y1) (C := RX5) (T := TX5) (N := 26) hx hb hts hi_X5 hown hK hP 0 rfl rfl 14 (by decide) fl31 (fun _ h9 => h9) rfl dX5_findSteps_117 ?_
                    refine lv_aload_n hx hb dX5_findSteps_120 rfl (lv_at hl 1 rfl) ?_
                    refine va_get (D := D) (ci := 5) (v := .int (iI ((ms9 : Nat) : Int))) (C := RX5) (T := TX5) (N := 26) hx hb hts hi_X5 hown hK hP 0 rfl rfl 21 (by decide) fl88 (fun _ h9 => h9) rfl dX5_findSteps_121 ?_
                    refine lv_iload_n hx hb dX5_findSteps_124 rfl (lv_at hl 2 rfl) ?_
                    refine k_iast hx hb hK hP hD hS 3 0 rfl rfl ms9 (by omega) dX5_findSteps_125 (fun H locs hP hD hS => ?_)
                    have hP : va_P D vwCl [(hm, .inr (5, [.int cd, .ref x1, .ref x2, .ref x3, .ref x4, .ref x5, .ref x6, .ref x7, .int (iI ((kt : Nat) : Int)), .int (iI ((k1 : Nat) : Int)), .int (iI ((k2 : Nat) : Int)), .int (iI ((k3 : Nat) : Int)), .int (iI ((k4 : Nat) : Int)), .int (iI ((k5 : Nat) : Int)), .ref y1, .ref y2, .ref y3, .ref y4, .ref y5, .ref y6, .ref y7, .int (iI ((ms9 : Nat) : Int)), .int (iI ((kw : Nat) : Int)), .int (iI ((kd : Nat) : Int)), .int (iI ((ma : Nat) : Int)), .int (iI (lk : Int))])), (x2, .inl (cI, 300, .inl g1)), (x3, .inl (cI, 300, .inl g2)), (y1, .inl (cI, 300, .inl (upd (kA P9) ms9 (iI ((p0 : Nat) : Int))))), (y2, .inl (cI, 300, .inl (kA L9))), (y3, .inl (cI, 300, .inl (kA S9)))] H := hP
                    have hD : va_D A [(hm, .inr (5, [.int cd, .ref x1, .ref x2, .ref x3, .ref x4, .ref x5, .ref x6, .ref x7, .int (iI ((kt : Nat) : Int)), .int (iI ((k1 : Nat) : Int)), .int (iI ((k2 : Nat) : Int)), .int (iI ((k3 : Nat) : Int)), .int (iI ((k4 : Nat) : Int)), .int (iI ((k5 : Nat) : Int)), .ref y1, .ref y2, .ref y3, .ref y4, .ref y5, .ref y6, .ref y7, .int (iI ((ms9 : Nat) : Int)), .int (iI ((kw : Nat) : Int)), .int (iI ((kd : Nat) : Int)), .int (iI ((ma : Nat) : Int)), .int (iI (lk : Int))])), (x2, .inl (cI, 300, .inl g1)), (x3, .inl (cI, 300, .inl g2)), (y1, .inl (cI, 300, .inl (upd (kA P9) ms9 (iI ((p0 : Nat) : Int))))), (y2, .inl (cI, 300, .inl (kA L9))), (y3, .inl (cI, 300, .inl (kA S9)))] := hD
                    rw [show (upd (kA P9) ms9 (iI ((p0 : Nat) : Int))) = (kA (uZ P9 ms9 ((p0 : Nat) : Int))) from kA_upd P9 ms9 _] at hP hD
                    refine lv_aload_n hx hb dX5_findSteps_126 rfl (lv_at hl 1 rfl) ?_
                    refine va_get (D := D) (ci := 5) (v := .ref y2) (C := RX5) (T := TX5) (N := 26) hx hb hts hi_X5 hown hK hP 0 rfl rfl 15 (by decide) fl34 (fun _ h9 => h9) rfl dX5_findSteps_127 ?_
                    refine lv_aload_n hx hb dX5_findSteps_130 rfl (lv_at hl 1 rfl) ?_
                    refine va_get (D := D) (ci := 5) (v := .int (iI ((ms9 : Nat) : Int))) (C := RX5) (T := TX5) (N := 26) hx hb hts hi_X5 hown hK hP 0 rfl rfl 21 (by decide) fl88 (fun _ h9 => h9) rfl dX5_findSteps_131 ?_
                    refine lv_iconst (v := iI (0 : Int)) hx hb dX5_findSteps_134 rfl ?_
                    refine k_iast hx hb hK hP hD hS 4 0 rfl rfl ms9 (by omega) dX5_findSteps_135 (fun H locs hP hD hS => ?_)
                    have hP : va_P D vwCl [(hm, .inr (5, [.int cd, .ref x1, .ref x2, .ref x3, .ref x4, .ref x5, .ref x6, .ref x7, .int (iI ((kt : Nat) : Int)), .int (iI ((k1 : Nat) : Int)), .int (iI ((k2 : Nat) : Int)), .int (iI ((k3 : Nat) : Int)), .int (iI ((k4 : Nat) : Int)), .int (iI ((k5 : Nat) : Int)), .ref y1, .ref y2, .ref y3, .ref y4, .ref y5, .ref y6, .ref y7, .int (iI ((ms9 : Nat) : Int)), .int (iI ((kw : Nat) : Int)), .int (iI ((kd : Nat) : Int)), .int (iI ((ma : Nat) : Int)), .int (iI (lk : Int))])), (x2, .inl (cI, 300, .inl g1)), (x3, .inl (cI, 300, .inl g2)), (y1, .inl (cI, 300, .inl (kA (uZ P9 ms9 ((p0 : Nat) : Int))))), (y2, .inl (cI, 300, .inl (upd (kA L9) ms9 (iI (0 : Int))))), (y3, .inl (cI, 300, .inl (kA S9)))] H := hP
                    have hD : va_D A [(hm, .inr (5, [.int cd, .ref x1, .ref x2, .ref x3, .ref x4, .ref x5, .ref x6, .ref x7, .int (iI ((kt : Nat) : Int)), .int (iI ((k1 : Nat) : Int)), .int (iI ((k2 : Nat) : Int)), .int (iI ((k3 : Nat) : Int)), .int (iI ((k4 : Nat) : Int)), .int (iI ((k5 : Nat) : Int)), .ref y1, .ref y2, .ref y3, .ref y4, .ref y5, .ref y6, .ref y7, .int (iI ((ms9 : Nat) : Int)), .int (iI ((kw : Nat) : Int)), .int (iI ((kd : Nat) : Int)), .int (iI ((ma : Nat) : Int)), .int (iI (lk : Int))])), (x2, .inl (cI, 300, .inl g1)), (x3, .inl (cI, 300, .inl g2)), (y1, .inl (cI, 300, .inl (kA (uZ P9 ms9 ((p0 : Nat) : Int))))), (y2, .inl (cI, 300, .inl (upd (kA L9) ms9 (iI (0 : Int))))), (y3, .inl (cI, 300, .inl (kA S9)))] := hD
                    rw [show (upd (kA L9) ms9 (iI (0 : Int))) = (kA (uZ L9 ms9 0)) from kA_upd L9 ms9 _] at hP hD
                    refine lv_aload_n hx hb dX5_findSteps_136 rfl (lv_at hl 1 rfl) ?_
                    refine va_get (D := D) (ci := 5) (v := .ref y3) (C := RX5) (T := TX5) (N := 26) hx hb hts hi_X5 hown hK hP 0 rfl rfl 16 (by decide) fl37 (fun _ h9 => h9) rfl dX5_findSteps_137 ?_
                    refine lv_aload_n hx hb dX5_findSteps_140 rfl (lv_at hl 1 rfl) ?_
                    refine va_get (D := D) (ci := 5) (v := .int (iI ((ms9 : Nat) : Int))) (C := RX5) (T := TX5) (N := 26) hx hb hts hi_X5 hown hK hP 0 rfl rfl 21 (by decide) fl88 (fun _ h9 => h9) rfl dX5_findSteps_141 ?_
                    refine lv_iload_n hx hb dX5_findSteps_144 rfl (lv_at hl 3 rfl) ?_
                    refine k_iast hx hb hK hP hD hS 5 0 rfl rfl ms9 (by omega) dX5_findSteps_145 (fun H locs hP hD hS => ?_)
                    have hP : va_P D vwCl [(hm, .inr (5, [.int cd, .ref x1, .ref x2, .ref x3, .ref x4, .ref x5, .ref x6, .ref x7, .int (iI ((kt : Nat) : Int)), .int (iI ((k1 : Nat) : Int)), .int (iI ((k2 : Nat) : Int)), .int (iI ((k3 : Nat) : Int)), .int (iI ((k4 : Nat) : Int)), .int (iI ((k5 : Nat) : Int)), .ref y1, .ref y2, .ref y3, .ref y4, .ref y5, .ref y6, .ref y7, .int (iI ((ms9 : Nat) : Int)), .int (iI ((kw : Nat) : Int)), .int (iI ((kd : Nat) : Int)), .int (iI ((ma : Nat) : Int)), .int (iI (lk : Int))])), (x2, .inl (cI, 300, .inl g1)), (x3, .inl (cI, 300, .inl g2)), (y1, .inl (cI, 300, .inl (kA (uZ P9 ms9 ((p0 : Nat) : Int))))), (y2, .inl (cI, 300, .inl (kA (uZ L9 ms9 0)))), (y3, .inl (cI, 300, .inl (upd (kA S9) ms9 (iI ((lsQ (lr g2 g1 k2 k1 p0) k1 : Nat) : Int)))))] H := hP
                    have hD : va_D A [(hm, .inr (5, [.int cd, .ref x1, .ref x2, .ref x3, .ref x4, .ref x5, .ref x6, .ref x7, .int (iI ((kt : Nat) : Int)), .int (iI ((k1 : Nat) : Int)), .int (iI ((k2 : Nat) : Int)), .int (iI ((k3 : Nat) : Int)), .int (iI ((k4 : Nat) : Int)), .int (iI ((k5 : Nat) : Int)), .ref y1, .ref y2, .ref y3, .ref y4, .ref y5, .ref y6, .ref y7, .int (iI ((ms9 : Nat) : Int)), .int (iI ((kw : Nat) : Int)), .int (iI ((kd : Nat) : Int)), .int (iI ((ma : Nat) : Int)), .int (iI (lk : Int))])), (x2, .inl (cI, 300, .inl g1)), (x3, .inl (cI, 300, .inl g2)), (y1, .inl (cI, 300, .inl (kA (uZ P9 ms9 ((p0 : Nat) : Int))))), (y2, .inl (cI, 300, .inl (kA (uZ L9 ms9 0)))), (y3, .inl (cI, 300, .inl (upd (kA S9) ms9 (iI ((lsQ (lr g2 g1 k2 k1 p0) k1 : Nat) : Int)))))] := hD
                    rw [show (upd (kA S9) ms9 (iI ((lsQ (lr g2 g1 k2 k1 p0) k1 : Nat) : Int))) = (kA (uZ S9 ms9 ((lsQ (lr g2 g1 k2 k1 p0) k1 : Nat) : Int))) from kA_upd S9 ms9 _] at hP hD
                    refine lv_aload_n hx hb dX5_findSteps_146 rfl (lv_at hl 1 rfl) ?_
                    refine lv_dup hx hb dX5_findSteps_147 rfl ?_
                    refine va_get (D := D) (ci := 5) (v := .int (iI ((ms9 : Nat) : Int))) (C := RX5) (T := TX5) (N := 26) hx hb hts hi_X5 hown hK hP 0 rfl rfl 21 (by decide) fl88 (fun _ h9 => h9) rfl dX5_findSteps_148 ?_
                    refine lv_iconst (v := iI (1 : Int)) hx hb dX5_findSteps_151 rfl ?_
                    refine lv_iadd hx hb dX5_findSteps_152 ?_
                    refine kn_i (iA (c := ((ms9 + 1 : Nat) : Int)) (by omega)) ?_
                    refine va_put (D := D) (ci := 5) (v := .int (iI ((ms9 + 1 : Nat) : Int))) (ty := .int) (C := RX5) (T := TX5) (N := 26) hx hb hts hi_X5 tyX5 tyX5_ok nmX5 hown hK hP hD hS 0 rfl rfl 21 (by decide) fl88 (fun _ h9 => h9) rfl (by decide +kernel) rfl rfl (Nat.le_of_ble_eq_true rfl) dX5_findSteps_153 (fun H locs hP hD hS => ?_)
                    have hP : va_P D vwCl [(hm, .inr (5, [.int cd, .ref x1, .ref x2, .ref x3, .ref x4, .ref x5, .ref x6, .ref x7, .int (iI ((kt : Nat) : Int)), .int (iI ((k1 : Nat) : Int)), .int (iI ((k2 : Nat) : Int)), .int (iI ((k3 : Nat) : Int)), .int (iI ((k4 : Nat) : Int)), .int (iI ((k5 : Nat) : Int)), .ref y1, .ref y2, .ref y3, .ref y4, .ref y5, .ref y6, .ref y7, .int (iI ((ms9 + 1 : Nat) : Int)), .int (iI ((kw : Nat) : Int)), .int (iI ((kd : Nat) : Int)), .int (iI ((ma : Nat) : Int)), .int (iI (lk : Int))])), (x2, .inl (cI, 300, .inl g1)), (x3, .inl (cI, 300, .inl g2)), (y1, .inl (cI, 300, .inl (kA (uZ P9 ms9 ((p0 : Nat) : Int))))), (y2, .inl (cI, 300, .inl (kA (uZ L9 ms9 0)))), (y3, .inl (cI, 300, .inl (kA (uZ S9 ms9 ((lsQ (lr g2 g1 k2 k1 p0) k1 : Nat) : Int)))))] H := hP
                    have hD : va_D A [(hm, .inr (5, [.int cd, .ref x1, .ref x2, .ref x3, .ref x4, .ref x5, .ref x6, .ref x7, .int (iI ((kt : Nat) : Int)), .int (iI ((k1 : Nat) : Int)), .int (iI ((k2 : Nat) : Int)), .int (iI ((k3 : Nat) : Int)), .int (iI ((k4 : Nat) : Int)), .int (iI ((k5 : Nat) : Int)), .ref y1, .ref y2, .ref y3, .ref y4, .ref y5, .ref y6, .ref y7, .int (iI ((ms9 + 1 : Nat) : Int)), .int (iI ((kw : Nat) : Int)), .int (iI ((kd : Nat) : Int)), .int (iI ((ma : Nat) : Int)), .int (iI (lk : Int))])), (x2, .inl (cI, 300, .inl g1)), (x3, .inl (cI, 300, .inl g2)), (y1, .inl (cI, 300, .inl (kA (uZ P9 ms9 ((p0 : Nat) : Int))))), (y2, .inl (cI, 300, .inl (kA (uZ L9 ms9 0)))), (y3, .inl (cI, 300, .inl (kA (uZ S9 ms9 ((lsQ (lr g2 g1 k2 k1 p0) k1 : Nat) : Int)))))] := hD
                    refine lv_aload_n hx hb dX5_findSteps_156 rfl (lv_at hl 1 rfl) ?_
                    refine va_get (D := D) (ci := 5) (v := .ref y2) (C := RX5) (T := TX5) (N := 26) hx hb hts hi_X5 hown hK hP 0 rfl rfl 15 (by decide) fl34 (fun _ h9 => h9) rfl dX5_findSteps_157 ?_
                    refine lv_aload_n hx hb dX5_findSteps_160 rfl (lv_at hl 1 rfl) ?_
                    refine va_get (D := D) (ci := 5) (v := .int (iI ((ms9 + 1 : Nat) : Int))) (C := RX5) (T := TX5) (N := 26) hx hb hts hi_X5 hown hK hP 0 rfl rfl 21 (by decide) fl88 (fun _ h9 => h9) rfl dX5_findSteps_161 ?_
                    refine lv_iconst (v := iI (1 : Int)) hx hb dX5_findSteps_164 rfl ?_
                    refine lv_isub hx hb dX5_findSteps_165 ?_
                    refine kn_i (iB (c := ((ms9 : Nat) : Int)) (by omega)) ?_
                    refine lv_dup2_11 hx hb dX5_findSteps_166 rfl rfl ?_
                    refine k_iald hx hb hK hP 4 0 rfl rfl ms9 (by omega) dX5_findSteps_167 ?_
                    refine kn_i (y := iI (0 : Int)) (show kA (uZ L9 ms9 0) ms9 = iI 0 by unfold kA; rw [uZ_s]) ?_
                    refine lv_iload_n hx hb dX5_findSteps_168 rfl (lv_at hl 3 rfl) ?_
                    refine lv_iconst (v := iI (-1 : Int)) hx hb dX5_findSteps_169 rfl ?_
                    refine lv_icmp_ne (tgt := 177) hx hb dX5_findSteps_170 (by decide) (fun c170 => ?_) (fun c170 => ?_)
                    · skip
                      have c170 := iI_eqF (a := ((lsQ (lr g2 g1 k2 k1 p0) k1 : Nat) : Int)) (b := (-1 : Int)) c170 (by omega)
                      refine lv_iload_n hx hb dX5_findSteps_177 rfl (lv_at hl 4 rfl) ?_
                      refine lv_iadd hx hb dX5_findSteps_178 ?_
                      refine kn_i (iA (c := (((mxR (lr g2 g1 k2 k1 p0) k1 : Nat) : Int) : Int)) (by omega)) ?_
                      refine k_iast hx hb hK hP hD hS 4 0 rfl rfl ms9 (by omega) dX5_findSteps_179 (fun H locs hP hD hS => ?_)
                      have hP : va_P D vwCl [(hm, .inr (5, [.int cd, .ref x1, .ref x2, .ref x3, .ref x4, .ref x5, .ref x6, .ref x7, .int (iI ((kt : Nat) : Int)), .int (iI ((k1 : Nat) : Int)), .int (iI ((k2 : Nat) : Int)), .int (iI ((k3 : Nat) : Int)), .int (iI ((k4 : Nat) : Int)), .int (iI ((k5 : Nat) : Int)), .ref y1, .ref y2, .ref y3, .ref y4, .ref y5, .ref y6, .ref y7, .int (iI ((ms9 + 1 : Nat) : Int)), .int (iI ((kw : Nat) : Int)), .int (iI ((kd : Nat) : Int)), .int (iI ((ma : Nat) : Int)), .int (iI (lk : Int))])), (x2, .inl (cI, 300, .inl g1)), (x3, .inl (cI, 300, .inl g2)), (y1, .inl (cI, 300, .inl (kA (uZ P9 ms9 ((p0 : Nat) : Int))))), (y2, .inl (cI, 300, .inl (upd (kA (uZ L9 ms9 0)) ms9 (iI (((mxR (lr g2 g1 k2 k1 p0) k1 : Nat) : Int) : Int))))), (y3, .inl (cI, 300, .inl (kA (uZ S9 ms9 ((lsQ (lr g2 g1 k2 k1 p0) k1 : Nat) : Int)))))] H := hP
                      have hD : va_D A [(hm, .inr (5, [.int cd, .ref x1, .ref x2, .ref x3, .ref x4, .ref x5, .ref x6, .ref x7, .int (iI ((kt : Nat) : Int)), .int (iI ((k1 : Nat) : Int)), .int (iI ((k2 : Nat) : Int)), .int (iI ((k3 : Nat) : Int)), .int (iI ((k4 : Nat) : Int)), .int (iI ((k5 : Nat) : Int)), .ref y1, .ref y2, .ref y3, .ref y4, .ref y5, .ref y6, .ref y7, .int (iI ((ms9 + 1 : Nat) : Int)), .int (iI ((kw : Nat) : Int)), .int (iI ((kd : Nat) : Int)), .int (iI ((ma : Nat) : Int)), .int (iI (lk : Int))])), (x2, .inl (cI, 300, .inl g1)), (x3, .inl (cI, 300, .inl g2)), (y1, .inl (cI, 300, .inl (kA (uZ P9 ms9 ((p0 : Nat) : Int))))), (y2, .inl (cI, 300, .inl (upd (kA (uZ L9 ms9 0)) ms9 (iI (((mxR (lr g2 g1 k2 k1 p0) k1 : Nat) : Int) : Int))))), (y3, .inl (cI, 300, .inl (kA (uZ S9 ms9 ((lsQ (lr g2 g1 k2 k1 p0) k1 : Nat) : Int)))))] := hD
                      rw [show (upd (kA (uZ L9 ms9 0)) ms9 (iI (((mxR (lr g2 g1 k2 k1 p0) k1 : Nat) : Int) : Int))) = (kA (uZ L9 ms9 ((mxR (lr g2 g1 k2 k1 p0) k1 : Nat) : Int))) from by rw [kA_upd, uZ_uZ]] at hP hD
                      refine lv_iload_n hx hb dX5_findSteps_180 rfl (lv_at hl 2 rfl) ?_
                      refine lv_iload_n hx hb dX5_findSteps_181 rfl (lv_at hl 3 rfl) ?_
                      refine lv_iconst (v := iI (-1 : Int)) hx hb dX5_findSteps_182 rfl ?_
                      refine lv_icmp_ne (tgt := 190) hx hb dX5_findSteps_183 (by decide) (fun c183 => ?_) (fun c183 => ?_)
                      · skip
                        have c183 := iI_eqF (a := ((lsQ (lr g2 g1 k2 k1 p0) k1 : Nat) : Int)) (b := (-1 : Int)) c183 (by omega)
                        refine lv_iload_n hx hb dX5_findSteps_190 rfl (lv_at hl 4 rfl) ?_
                        refine lv_iadd hx hb dX5_findSteps_191 ?_
                        refine kn_i (iA (c := ((p0 + mxR (lr g2 g1 k2 k1 p0) k1 : Nat) : Int)) (by omega)) ?_
                        refine lv_istore_n (lv' := [(1, .int (iI ((p0 + mxR (lr g2 g1 k2 k1 p0) k1 : Nat) : Int))), (4, .int (iI (0 : Int))), (0, .ref hm), (2, .int (iI ((lsQ (lr g2 g1 k2 k1 p0) k1 : Nat) : Int))), (3, .int (iI ((mxR (lr g2 g1 k2 k1 p0) k1 : Nat) : Int)))]) hx hb dX5_findSteps_192 rfl hl (by decide) rfl (fun ls hl => ?_)
                        refine lv_goto (tgt := 7) hx hb dX5_findSteps_193 (by decide) ?_
                        exact ih7 (t + 1) (p0 + mxR (lr g2 g1 k2 k1 p0) k1) (ms9 + 1) (uZ P9 ms9 ((p0 : Nat) : Int)) (uZ L9 ms9 ((mxR (lr g2 g1 k2 k1 p0) k1 : Nat) : Int)) (uZ S9 ms9 ((lsQ (lr g2 g1 k2 k1 p0) k1 : Nat) : Int)) _ _ _ (by omega) (by omega) (by omega) (LW_push hW (by omega) (Or.inr (by omega))) (by rw [← layF_c (by omega) (by omega) (by omega)]; exact hF) hP hD hS (lv_sub hl [2, 0] rfl)
                      · skip
                        have c183 := iI_eqT (a := ((lsQ (lr g2 g1 k2 k1 p0) k1 : Nat) : Int)) (b := (-1 : Int)) c183 (by omega)
                        omega
                    · skip
                      have c170 := iI_eqT (a := ((lsQ (lr g2 g1 k2 k1 p0) k1 : Nat) : Int)) (b := (-1 : Int)) c170 (by omega)
                      omega
                · skip
                  have c63 := iI_eqT (a := ((lsQ (lr g2 g1 k2 k1 p0) k1 : Nat) : Int)) (b := (-1 : Int)) c63 (by omega)
                  omega
              · skip
                have hm2 : mxR (lr g2 g1 k2 k1 p0) k1 ≤ k2 - p0 := mxR_le (fun q => lr_leg) _
                have hm3 : mxR (lr g2 g1 k2 k1 p0) k1 ≤ k1 - lsQ (lr g2 g1 k2 k1 p0) k1 := by
                  have := lr_le' (fg := g2) (fb := g1) (ng := k2) (nb := k1) (p := p0) (q := lsQ (lr g2 g1 k2 k1 p0) k1)
                  rw [lr_at] at this
                  exact this
                have hm4 := lsQ_le (lr g2 g1 k2 k1 p0) k1
                rw [show iI (bsM (lr g2 g1 k2 k1 p0) q : Int) = iI (-1 : Int) from by rw [show q = k1 by omega]; unfold bsM; rw [if_neg hb4]] at hl
                refine lv_iload_n hx hb dX5_findSteps_61 rfl (lv_at hl 2 rfl) ?_
                refine lv_iconst (v := iI (-1 : Int)) hx hb dX5_findSteps_62 rfl ?_
                refine lv_icmp_ne (tgt := 108) hx hb dX5_findSteps_63 (by decide) (fun c63 => ?_) (fun c63 => ?_)
                · skip
                  have c63 := iI_eqF (a := (-1 : Int)) (b := (-1 : Int)) c63 (by omega)
                  omega
                · skip
                  have c63 := iI_eqT (a := (-1 : Int)) (b := (-1 : Int)) c63 (by omega)
                  refine lv_aload_n hx hb dX5_findSteps_66 rfl (lv_at hl 0 rfl) ?_
                  refine va_get (D := D) (ci := 5) (v := .int (iI ((ms9 : Nat) : Int))) (C := RX5) (T := TX5) (N := 26) hx hb hts hi_X5 hown hK hP 0 rfl rfl 21 (by decide) fl88 (fun _ h9 => h9) rfl dX5_findSteps_67 ?_
                  refine lv_if_le (tgt := 108) hx hb dX5_findSteps_70 (by decide) (fun c70 => ?_) (fun c70 => ?_)
                  · skip
                    have c70 := iI_leT (a := ((ms9 : Nat) : Int)) (b := (0 : Int)) c70 (by omega)
                    refine lv_iconst (v := iI (0 : Int)) hx hb dX5_findSteps_108 rfl ?_
                    refine lv_istore (lv' := [(4, .int (iI (0 : Int))), (0, .ref hm), (1, .int (iI ((p0 : Nat) : Int))), (2, .int (iI (-1 : Int))), (3, .int (iI ((max 3 (mxR (lr g2 g1 k2 k1 p0) q) : Nat) : Int)))]) hx hb dX5_findSteps_109 hl (by decide) rfl (fun ls hl => ?_)
                    refine lv_iload hx hb dX5_findSteps_111 (lv_at hl 0 rfl) ?_
                    refine lv_if_ne (tgt := 156) hx hb dX5_findSteps_113 (by decide) (fun c113 => ?_) (fun c113 => ?_)
                    · skip
                      have c113 := iI_eqF (a := (0 : Int)) (b := (0 : Int)) c113 (by omega)
                      omega
                    · skip
                      have c113 := iI_eqT (a := (0 : Int)) (b := (0 : Int)) c113 (by omega)
                      refine lv_aload_n hx hb dX5_findSteps_116 rfl (lv_at hl 1 rfl) ?_
                      refine va_get (D := D) (ci := 5) (v := .ref y1) (C := RX5) (T := TX5) (N := 26) hx hb hts hi_X5 hown hK hP 0 rfl rfl 14 (by decide) fl31 (fun _ h9 => h9) rfl dX5_findSteps_117 ?_
                      refine lv_aload_n hx hb dX5_findSteps_120 rfl (lv_at hl 1 rfl) ?_
                      refine va_get (D := D) (ci := 5) (v := .int (iI ((ms9 : Nat) : Int))) (C := RX5) (T := TX5) (N := 26) hx hb hts hi_X5 hown hK hP 0 rfl rfl 21 (by decide) fl88 (fun _ h9 => h9) rfl dX5_findSteps_121 ?_
                      refine lv_iload_n hx hb dX5_findSteps_124 rfl (lv_at hl 2 rfl) ?_
                      refine k_iast hx hb hK hP hD hS 3 0 rfl rfl ms9 (by omega) dX5_findSteps_125 (fun H locs hP hD hS => ?_)
                      have hP : va_P D vwCl [(hm, .inr (5, [.int cd, .ref x1, .ref x2, .ref x3, .ref x4, .ref x5, .ref x6, .ref x7, .int (iI ((kt : Nat) : Int)), .int (iI ((k1 : Nat) : Int)), .int (iI ((k2 : Nat) : Int)), .int (iI ((k3 : Nat) : Int)), .int (iI ((k4 : Nat) : Int)), .int (iI ((k5 : Nat) : Int)), .ref y1, .ref y2, .ref y3, .ref y4, .ref y5, .ref y6, .ref y7, .int (iI ((ms9 : Nat) : Int)), .int (iI ((kw : Nat) : Int)), .int (iI ((kd : Nat) : Int)), .int (iI ((ma : Nat) : Int)), .int (iI (lk : Int))])), (x2, .inl (cI, 300, .inl g1)), (x3, .inl (cI, 300, .inl g2)), (y1, .inl (cI, 300, .inl (upd (kA P9) ms9 (iI ((p0 : Nat) : Int))))), (y2, .inl (cI, 300, .inl (kA L9))), (y3, .inl (cI, 300, .inl (kA S9)))] H := hP
                      have hD : va_D A [(hm, .inr (5, [.int cd, .ref x1, .ref x2, .ref x3, .ref x4, .ref x5, .ref x6, .ref x7, .int (iI ((kt : Nat) : Int)), .int (iI ((k1 : Nat) : Int)), .int (iI ((k2 : Nat) : Int)), .int (iI ((k3 : Nat) : Int)), .int (iI ((k4 : Nat) : Int)), .int (iI ((k5 : Nat) : Int)), .ref y1, .ref y2, .ref y3, .ref y4, .ref y5, .ref y6, .ref y7, .int (iI ((ms9 : Nat) : Int)), .int (iI ((kw : Nat) : Int)), .int (iI ((kd : Nat) : Int)), .int (iI ((ma : Nat) : Int)), .int (iI (lk : Int))])), (x2, .inl (cI, 300, .inl g1)), (x3, .inl (cI, 300, .inl g2)), (y1, .inl (cI, 300, .inl (upd (kA P9) ms9 (iI ((p0 : Nat) : Int))))), (y2, .inl (cI, 300, .inl (kA L9))), (y3, .inl (cI, 300, .inl (kA S9)))] := hD
                      rw [show (upd (kA P9) ms9 (iI ((p0 : Nat) : Int))) = (kA (uZ P9 ms9 ((p0 : Nat) : Int))) from kA_upd P9 ms9 _] at hP hD
                      refine lv_aload_n hx hb dX5_findSteps_126 rfl (lv_at hl 1 rfl) ?_
                      refine va_get (D := D) (ci := 5) (v := .ref y2) (C := RX5) (T := TX5) (N := 26) hx hb hts hi_X5 hown hK hP 0 rfl rfl 15 (by decide) fl34 (fun _ h9 => h9) rfl dX5_findSteps_127 ?_
                      refine lv_aload_n hx hb dX5_findSteps_130 rfl (lv_at hl 1 rfl) ?_
                      refine va_get (D := D) (ci := 5) (v := .int (iI ((ms9 : Nat) : Int))) (C := RX5) (T := TX5) (N := 26) hx hb hts hi_X5 hown hK hP 0 rfl rfl 21 (by decide) fl88 (fun _ h9 => h9) rfl dX5_findSteps_131 ?_
                      refine lv_iconst (v := iI (0 : Int)) hx hb dX5_findSteps_134 rfl ?_
                      refine k_iast hx hb hK hP hD hS 4 0 rfl rfl ms9 (by omega) dX5_findSteps_135 (fun H locs hP hD hS => ?_)
                      have hP : va_P D vwCl [(hm, .inr (5, [.int cd, .ref x1, .ref x2, .ref x3, .ref x4, .ref x5, .ref x6, .ref x7, .int (iI ((kt : Nat) : Int)), .int (iI ((k1 : Nat) : Int)), .int (iI ((k2 : Nat) : Int)), .int (iI ((k3 : Nat) : Int)), .int (iI ((k4 : Nat) : Int)), .int (iI ((k5 : Nat) : Int)), .ref y1, .ref y2, .ref y3, .ref y4, .ref y5, .ref y6, .ref y7, .int (iI ((ms9 : Nat) : Int)), .int (iI ((kw : Nat) : Int)), .int (iI ((kd : Nat) : Int)), .int (iI ((ma : Nat) : Int)), .int (iI (lk : Int))])), (x2, .inl (cI, 300, .inl g1)), (x3, .inl (cI, 300, .inl g2)), (y1, .inl (cI, 300, .inl (kA (uZ P9 ms9 ((p0 : Nat) : Int))))), (y2, .inl (cI, 300, .inl (upd (kA L9) ms9 (iI (0 : Int))))), (y3, .inl (cI, 300, .inl (kA S9)))] H := hP
                      have hD : va_D A [(hm, .inr (5, [.int cd, .ref x1, .ref x2, .ref x3, .ref x4, .ref x5, .ref x6, .ref x7, .int (iI ((kt : Nat) : Int)), .int (iI ((k1 : Nat) : Int)), .int (iI ((k2 : Nat) : Int)), .int (iI ((k3 : Nat) : Int)), .int (iI ((k4 : Nat) : Int)), .int (iI ((k5 : Nat) : Int)), .ref y1, .ref y2, .ref y3, .ref y4, .ref y5, .ref y6, .ref y7, .int (iI ((ms9 : Nat) : Int)), .int (iI ((kw : Nat) : Int)), .int (iI ((kd : Nat) : Int)), .int (iI ((ma : Nat) : Int)), .int (iI (lk : Int))])), (x2, .inl (cI, 300, .inl g1)), (x3, .inl (cI, 300, .inl g2)), (y1, .inl (cI, 300, .inl (kA (uZ P9 ms9 ((p0 : Nat) : Int))))), (y2, .inl (cI, 300, .inl (upd (kA L9) ms9 (iI (0 : Int))))), (y3, .inl (cI, 300, .inl (kA S9)))] := hD
                      rw [show (upd (kA L9) ms9 (iI (0 : Int))) = (kA (uZ L9 ms9 0)) from kA_upd L9 ms9 _] at hP hD
                      refine lv_aload_n hx hb dX5_findSteps_136 rfl (lv_at hl 1 rfl) ?_
                      refine va_get (D := D) (ci := 5) (v := .ref y3) (C := RX5) (T := TX5) (N := 26) hx hb hts hi_X5 hown hK hP 0 rfl rfl 16 (by decide) fl37 (fun _ h9 => h9) rfl dX5_findSteps_137 ?_
                      refine lv_aload_n hx hb dX5_findSteps_140 rfl (lv_at hl 1 rfl) ?_
                      refine va_get (D := D) (ci := 5) (v := .int (iI ((ms9 : Nat) : Int))) (C := RX5) (T := TX5) (N := 26) hx hb hts hi_X5 hown hK hP 0 rfl rfl 21 (by decide) fl88 (fun _ h9 => h9) rfl dX5_findSteps_141 ?_
                      refine lv_iload_n hx hb dX5_findSteps_144 rfl (lv_at hl 3 rfl) ?_
                      refine k_iast hx hb hK hP hD hS 5 0 rfl rfl ms9 (by omega) dX5_findSteps_145 (fun H locs hP hD hS => ?_)
                      have hP : va_P D vwCl [(hm, .inr (5, [.int cd, .ref x1, .ref x2, .ref x3, .ref x4, .ref x5, .ref x6, .ref x7, .int (iI ((kt : Nat) : Int)), .int (iI ((k1 : Nat) : Int)), .int (iI ((k2 : Nat) : Int)), .int (iI ((k3 : Nat) : Int)), .int (iI ((k4 : Nat) : Int)), .int (iI ((k5 : Nat) : Int)), .ref y1, .ref y2, .ref y3, .ref y4, .ref y5, .ref y6, .ref y7, .int (iI ((ms9 : Nat) : Int)), .int (iI ((kw : Nat) : Int)), .int (iI ((kd : Nat) : Int)), .int (iI ((ma : Nat) : Int)), .int (iI (lk : Int))])), (x2, .inl (cI, 300, .inl g1)), (x3, .inl (cI, 300, .inl g2)), (y1, .inl (cI, 300, .inl (kA (uZ P9 ms9 ((p0 : Nat) : Int))))), (y2, .inl (cI, 300, .inl (kA (uZ L9 ms9 0)))), (y3, .inl (cI, 300, .inl (upd (kA S9) ms9 (iI (-1 : Int)))))] H := hP
                      have hD : va_D A [(hm, .inr (5, [.int cd, .ref x1, .ref x2, .ref x3, .ref x4, .ref x5, .ref x6, .ref x7, .int (iI ((kt : Nat) : Int)), .int (iI ((k1 : Nat) : Int)), .int (iI ((k2 : Nat) : Int)), .int (iI ((k3 : Nat) : Int)), .int (iI ((k4 : Nat) : Int)), .int (iI ((k5 : Nat) : Int)), .ref y1, .ref y2, .ref y3, .ref y4, .ref y5, .ref y6, .ref y7, .int (iI ((ms9 : Nat) : Int)), .int (iI ((kw : Nat) : Int)), .int (iI ((kd : Nat) : Int)), .int (iI ((ma : Nat) : Int)), .int (iI (lk : Int))])), (x2, .inl (cI, 300, .inl g1)), (x3, .inl (cI, 300, .inl g2)), (y1, .inl (cI, 300, .inl (kA (uZ P9 ms9 ((p0 : Nat) : Int))))), (y2, .inl (cI, 300, .inl (kA (uZ L9 ms9 0)))), (y3, .inl (cI, 300, .inl (upd (kA S9) ms9 (iI (-1 : Int)))))] := hD
                      rw [show (upd (kA S9) ms9 (iI (-1 : Int))) = (kA (uZ S9 ms9 (-1))) from kA_upd S9 ms9 _] at hP hD
                      refine lv_aload_n hx hb dX5_findSteps_146 rfl (lv_at hl 1 rfl) ?_
                      refine lv_dup hx hb dX5_findSteps_147 rfl ?_
                      refine va_get (D := D) (ci := 5) (v := .int (iI ((ms9 : Nat) : Int))) (C := RX5) (T := TX5) (N := 26) hx hb hts hi_X5 hown hK hP 0 rfl rfl 21 (by decide) fl88 (fun _ h9 => h9) rfl dX5_findSteps_148 ?_
                      refine lv_iconst (v := iI (1 : Int)) hx hb dX5_findSteps_151 rfl ?_
                      refine lv_iadd hx hb dX5_findSteps_152 ?_
                      refine kn_i (iA (c := ((ms9 + 1 : Nat) : Int)) (by omega)) ?_
                      refine va_put (D := D) (ci := 5) (v := .int (iI ((ms9 + 1 : Nat) : Int))) (ty := .int) (C := RX5) (T := TX5) (N := 26) hx hb hts hi_X5 tyX5 tyX5_ok nmX5 hown hK hP hD hS 0 rfl rfl 21 (by decide) fl88 (fun _ h9 => h9) rfl (by decide +kernel) rfl rfl (Nat.le_of_ble_eq_true rfl) dX5_findSteps_153 (fun H locs hP hD hS => ?_)
                      have hP : va_P D vwCl [(hm, .inr (5, [.int cd, .ref x1, .ref x2, .ref x3, .ref x4, .ref x5, .ref x6, .ref x7, .int (iI ((kt : Nat) : Int)), .int (iI ((k1 : Nat) : Int)), .int (iI ((k2 : Nat) : Int)), .int (iI ((k3 : Nat) : Int)), .int (iI ((k4 : Nat) : Int)), .int (iI ((k5 : Nat) : Int)), .ref y1, .ref y2, .ref y3, .ref y4, .ref y5, .ref y6, .ref y7, .int (iI ((ms9 + 1 : Nat) : Int)), .int (iI ((kw : Nat) : Int)), .int (iI ((kd : Nat) : Int)), .int (iI ((ma : Nat) : Int)), .int (iI (lk : Int))])), (x2, .inl (cI, 300, .inl g1)), (x3, .inl (cI, 300, .inl g2)), (y1, .inl (cI, 300, .inl (kA (uZ P9 ms9 ((p0 : Nat) : Int))))), (y2, .inl (cI, 300, .inl (kA (uZ L9 ms9 0)))), (y3, .inl (cI, 300, .inl (kA (uZ S9 ms9 (-1)))))] H := hP
                      have hD : va_D A [(hm, .inr (5, [.int cd, .ref x1, .ref x2, .ref x3, .ref x4, .ref x5, .ref x6, .ref x7, .int (iI ((kt : Nat) : Int)), .int (iI ((k1 : Nat) : Int)), .int (iI ((k2 : Nat) : Int)), .int (iI ((k3 : Nat) : Int)), .int (iI ((k4 : Nat) : Int)), .int (iI ((k5 : Nat) : Int)), .ref y1, .ref y2, .ref y3, .ref y4, .ref y5, .ref y6, .ref y7, .int (iI ((ms9 + 1 : Nat) : Int)), .int (iI ((kw : Nat) : Int)), .int (iI ((kd : Nat) : Int)), .int (iI ((ma : Nat) : Int)), .int (iI (lk : Int))])), (x2, .inl (cI, 300, .inl g1)), (x3, .inl (cI, 300, .inl g2)), (y1, .inl (cI, 300, .inl (kA (uZ P9 ms9 ((p0 : Nat) : Int))))), (y2, .inl (cI, 300, .inl (kA (uZ L9 ms9 0)))), (y3, .inl (cI, 300, .inl (kA (uZ S9 ms9 (-1)))))] := hD
                      refine lv_aload_n hx hb dX5_findSteps_156 rfl (lv_at hl 1 rfl) ?_
                      refine va_get (D := D) (ci := 5) (v := .ref y2) (C := RX5) (T := TX5) (N := 26) hx hb hts hi_X5 hown hK hP 0 rfl rfl 15 (by decide) fl34 (fun _ h9 => h9) rfl dX5_findSteps_157 ?_
                      refine lv_aload_n hx hb dX5_findSteps_160 rfl (lv_at hl 1 rfl) ?_
                      refine va_get (D := D) (ci := 5) (v := .int (iI ((ms9 + 1 : Nat) : Int))) (C := RX5) (T := TX5) (N := 26) hx hb hts hi_X5 hown hK hP 0 rfl rfl 21 (by decide) fl88 (fun _ h9 => h9) rfl dX5_findSteps_161 ?_
                      refine lv_iconst (v := iI (1 : Int)) hx hb dX5_findSteps_164 rfl ?_
                      refine lv_isub hx hb dX5_findSteps_165 ?_
                      refine kn_i (iB (c := ((ms9 : Nat) : Int)) (by omega)) ?_
                      refine lv_dup2_11 hx hb dX5_findSteps_166 rfl rfl ?_
                      refine k_iald hx hb hK hP 4 0 rfl rfl ms9 (by omega) dX5_findSteps_167 ?_
                      refine kn_i (y := iI (0 : Int)) (show kA (uZ L9 ms9 0) ms9 = iI 0 by unfold kA; rw [uZ_s]) ?_
                      refine lv_iload_n hx hb dX5_findSteps_168 rfl (lv_at hl 3 rfl) ?_
                      refine lv_iconst (v := iI (-1 : Int)) hx hb dX5_findSteps_169 rfl ?_
                      refine lv_icmp_ne (tgt := 177) hx hb dX5_findSteps_170 (by decide) (fun c170 => ?_) (fun c170 => ?_)
                      · skip
                        have c170 := iI_eqF (a := (-1 : Int)) (b := (-1 : Int)) c170 (by omega)
                        omega
                      · skip
                        have c170 := iI_eqT (a := (-1 : Int)) (b := (-1 : Int)) c170 (by omega)
                        refine lv_iconst (v := iI (1 : Int)) hx hb dX5_findSteps_173 rfl ?_
                        refine lv_goto (tgt := 178) hx hb dX5_findSteps_174 (by decide) ?_
                        refine lv_iadd hx hb dX5_findSteps_178 ?_
                        refine kn_i (iA (c := (1 : Int)) (by omega)) ?_
                        refine k_iast hx hb hK hP hD hS 4 0 rfl rfl ms9 (by omega) dX5_findSteps_179 (fun H locs hP hD hS => ?_)
                        have hP : va_P D vwCl [(hm, .inr (5, [.int cd, .ref x1, .ref x2, .ref x3, .ref x4, .ref x5, .ref x6, .ref x7, .int (iI ((kt : Nat) : Int)), .int (iI ((k1 : Nat) : Int)), .int (iI ((k2 : Nat) : Int)), .int (iI ((k3 : Nat) : Int)), .int (iI ((k4 : Nat) : Int)), .int (iI ((k5 : Nat) : Int)), .ref y1, .ref y2, .ref y3, .ref y4, .ref y5, .ref y6, .ref y7, .int (iI ((ms9 + 1 : Nat) : Int)), .int (iI ((kw : Nat) : Int)), .int (iI ((kd : Nat) : Int)), .int (iI ((ma : Nat) : Int)), .int (iI (lk : Int))])), (x2, .inl (cI, 300, .inl g1)), (x3, .inl (cI, 300, .inl g2)), (y1, .inl (cI, 300, .inl (kA (uZ P9 ms9 ((p0 : Nat) : Int))))), (y2, .inl (cI, 300, .inl (upd (kA (uZ L9 ms9 0)) ms9 (iI (1 : Int))))), (y3, .inl (cI, 300, .inl (kA (uZ S9 ms9 (-1)))))] H := hP
                        have hD : va_D A [(hm, .inr (5, [.int cd, .ref x1, .ref x2, .ref x3, .ref x4, .ref x5, .ref x6, .ref x7, .int (iI ((kt : Nat) : Int)), .int (iI ((k1 : Nat) : Int)), .int (iI ((k2 : Nat) : Int)), .int (iI ((k3 : Nat) : Int)), .int (iI ((k4 : Nat) : Int)), .int (iI ((k5 : Nat) : Int)), .ref y1, .ref y2, .ref y3, .ref y4, .ref y5, .ref y6, .ref y7, .int (iI ((ms9 + 1 : Nat) : Int)), .int (iI ((kw : Nat) : Int)), .int (iI ((kd : Nat) : Int)), .int (iI ((ma : Nat) : Int)), .int (iI (lk : Int))])), (x2, .inl (cI, 300, .inl g1)), (x3, .inl (cI, 300, .inl g2)), (y1, .inl (cI, 300, .inl (kA (uZ P9 ms9 ((p0 : Nat) : Int))))), (y2, .inl (cI, 300, .inl (upd (kA (uZ L9 ms9 0)) ms9 (iI (1 : Int))))), (y3, .inl (cI, 300, .inl (kA (uZ S9 ms9 (-1)))))] := hD
                        rw [show (upd (kA (uZ L9 ms9 0)) ms9 (iI (1 : Int))) = (kA (uZ L9 ms9 1)) from by rw [kA_upd, uZ_uZ]] at hP hD
                        refine lv_iload_n hx hb dX5_findSteps_180 rfl (lv_at hl 2 rfl) ?_
                        refine lv_iload_n hx hb dX5_findSteps_181 rfl (lv_at hl 3 rfl) ?_
                        refine lv_iconst (v := iI (-1 : Int)) hx hb dX5_findSteps_182 rfl ?_
                        refine lv_icmp_ne (tgt := 190) hx hb dX5_findSteps_183 (by decide) (fun c183 => ?_) (fun c183 => ?_)
                        · skip
                          have c183 := iI_eqF (a := (-1 : Int)) (b := (-1 : Int)) c183 (by omega)
                          omega
                        · skip
                          have c183 := iI_eqT (a := (-1 : Int)) (b := (-1 : Int)) c183 (by omega)
                          refine lv_iconst (v := iI (1 : Int)) hx hb dX5_findSteps_186 rfl ?_
                          refine lv_goto (tgt := 191) hx hb dX5_findSteps_187 (by decide) ?_
                          refine lv_iadd hx hb dX5_findSteps_191 ?_
                          refine kn_i (iA (c := ((p0 + 1 : Nat) : Int)) (by omega)) ?_
                          refine lv_istore_n (lv' := [(1, .int (iI ((p0 + 1 : Nat) : Int))), (4, .int (iI (0 : Int))), (0, .ref hm), (2, .int (iI (-1 : Int))), (3, .int (iI ((max 3 (mxR (lr g2 g1 k2 k1 p0) q) : Nat) : Int)))]) hx hb dX5_findSteps_192 rfl hl (by decide) rfl (fun ls hl => ?_)
                          refine lv_goto (tgt := 7) hx hb dX5_findSteps_193 (by decide) ?_
                          have hab := adB_n (P := P9) (L := L9) (S := S9) (cnt := ms9) (p := p0) (by omega)
                          have hW2 := LW_adB hW
                          have hF2 := layF_a (r := (lr g2 g1 k2 k1)) (nb := k1) (ng := k2) (t := t) (p := p0) (P := P9) (L := L9) (S := S9) (cnt := ms9) (by omega) (by omega) (by omega)
                          rw [hab] at hW2 hF2
                          exact ih7 (t + 1) (p0 + 1) (ms9 + 1) (uZ P9 ms9 ((p0 : Nat) : Int)) (uZ L9 ms9 1) (uZ S9 ms9 (-1)) _ _ _ (by omega) (by omega) (by omega) hW2 (hF2.symm.trans hF) hP hD hS (lv_sub hl [2, 0] rfl)
                  · skip
                    have c70 := iI_leF (a := ((ms9 : Nat) : Int)) (b := (0 : Int)) c70 (by omega)
                    have h1w := hW.1 (ms9 - 1) (by omega)
                    refine lv_aload_n hx hb dX5_findSteps_73 rfl (lv_at hl 0 rfl) ?_
                    refine va_get (D := D) (ci := 5) (v := .ref y3) (C := RX5) (T := TX5) (N := 26) hx hb hts hi_X5 hown hK hP 0 rfl rfl 16 (by decide) fl37 (fun _ h9 => h9) rfl dX5_findSteps_74 ?_
                    refine lv_aload_n hx hb dX5_findSteps_77 rfl (lv_at hl 0 rfl) ?_
                    refine va_get (D := D) (ci := 5) (v := .int (iI ((ms9 : Nat) : Int))) (C := RX5) (T := TX5) (N := 26) hx hb hts hi_X5 hown hK hP 0 rfl rfl 21 (by decide) fl88 (fun _ h9 => h9) rfl dX5_findSteps_78 ?_
                    refine lv_iconst (v := iI (1 : Int)) hx hb dX5_findSteps_81 rfl ?_
                    refine lv_isub hx hb dX5_findSteps_82 ?_
                    refine kn_i (iB (c := ((ms9 - 1 : Nat) : Int)) (by omega)) ?_
                    refine k_iald hx hb hK hP 5 0 rfl rfl (ms9 - 1) (by omega) dX5_findSteps_83 ?_
                    refine kn_i (y := iI (S9 (ms9 - 1) : Int)) (rfl) ?_
                    refine lv_iconst (v := iI (-1 : Int)) hx hb dX5_findSteps_84 rfl ?_
                    refine lv_icmp_ne (tgt := 108) hx hb dX5_findSteps_85 (by decide) (fun c85 => ?_) (fun c85 => ?_)
                    · skip
                      have c85 := iI_eqF (a := (S9 (ms9 - 1) : Int)) (b := (-1 : Int)) c85 (by omega)
                      refine lv_iconst (v := iI (0 : Int)) hx hb dX5_findSteps_108 rfl ?_
                      refine lv_istore (lv' := [(4, .int (iI (0 : Int))), (0, .ref hm), (1, .int (iI ((p0 : Nat) : Int))), (2, .int (iI (-1 : Int))), (3, .int (iI ((max 3 (mxR (lr g2 g1 k2 k1 p0) q) : Nat) : Int)))]) hx hb dX5_findSteps_109 hl (by decide) rfl (fun ls hl => ?_)
                      refine lv_iload hx hb dX5_findSteps_111 (lv_at hl 0 rfl) ?_
                      refine lv_if_ne (tgt := 156) hx hb dX5_findSteps_113 (by decide) (fun c113 => ?_) (fun c113 => ?_)
                      · skip
                        have c113 := iI_eqF (a := (0 : Int)) (b := (0 : Int)) c113 (by omega)
                        omega
                      · skip
                        have c113 := iI_eqT (a := (0 : Int)) (b := (0 : Int)) c113 (by omega)
                        refine lv_aload_n hx hb dX5_findSteps_116 rfl (lv_at hl 1 rfl) ?_
                        refine va_get (D := D) (ci := 5) (v := .ref y1) (C := RX5) (T := TX5) (N := 26) hx hb hts hi_X5 hown hK hP 0 rfl rfl 14 (by decide) fl31 (fun _ h9 => h9) rfl dX5_findSteps_117 ?_
                        refine lv_aload_n hx hb dX5_findSteps_120 rfl (lv_at hl 1 rfl) ?_
                        refine va_get (D := D) (ci := 5) (v := .int (iI ((ms9 : Nat) : Int))) (C := RX5) (T := TX5) (N := 26) hx hb hts hi_X5 hown hK hP 0 rfl rfl 21 (by decide) fl88 (fun _ h9 => h9) rfl dX5_findSteps_121 ?_
                        refine lv_iload_n hx hb dX5_findSteps_124 rfl (lv_at hl 2 rfl) ?_
                        refine k_iast hx hb hK hP hD hS 3 0 rfl rfl ms9 (by omega) dX5_findSteps_125 (fun H locs hP hD hS => ?_)
                        have hP : va_P D vwCl [(hm, .inr (5, [.int cd, .ref x1, .ref x2, .ref x3, .ref x4, .ref x5, .ref x6, .ref x7, .int (iI ((kt : Nat) : Int)), .int (iI ((k1 : Nat) : Int)), .int (iI ((k2 : Nat) : Int)), .int (iI ((k3 : Nat) : Int)), .int (iI ((k4 : Nat) : Int)), .int (iI ((k5 : Nat) : Int)), .ref y1, .ref y2, .ref y3, .ref y4, .ref y5, .ref y6, .ref y7, .int (iI ((ms9 : Nat) : Int)), .int (iI ((kw : Nat) : Int)), .int (iI ((kd : Nat) : Int)), .int (iI ((ma : Nat) : Int)), .int (iI (lk : Int))])), (x2, .inl (cI, 300, .inl g1)), (x3, .inl (cI, 300, .inl g2)), (y1, .inl (cI, 300, .inl (upd (kA P9) ms9 (iI ((p0 : Nat) : Int))))), (y2, .inl (cI, 300, .inl (kA L9))), (y3, .inl (cI, 300, .inl (kA S9)))] H := hP
                        have hD : va_D A [(hm, .inr (5, [.int cd, .ref x1, .ref x2, .ref x3, .ref x4, .ref x5, .ref x6, .ref x7, .int (iI ((kt : Nat) : Int)), .int (iI ((k1 : Nat) : Int)), .int (iI ((k2 : Nat) : Int)), .int (iI ((k3 : Nat) : Int)), .int (iI ((k4 : Nat) : Int)), .int (iI ((k5 : Nat) : Int)), .ref y1, .ref y2, .ref y3, .ref y4, .ref y5, .ref y6, .ref y7, .int (iI ((ms9 : Nat) : Int)), .int (iI ((kw : Nat) : Int)), .int (iI ((kd : Nat) : Int)), .int (iI ((ma : Nat) : Int)), .int (iI (lk : Int))])), (x2, .inl (cI, 300, .inl g1)), (x3, .inl (cI, 300, .inl g2)), (y1, .inl (cI, 300, .inl (upd (kA P9) ms9 (iI ((p0 : Nat) : Int))))), (y2, .inl (cI, 300, .inl (kA L9))), (y3, .inl (cI, 300, .inl (kA S9)))] := hD
                        rw [show (upd (kA P9) ms9 (iI ((p0 : Nat) : Int))) = (kA (uZ P9 ms9 ((p0 : Nat) : Int))) from kA_upd P9 ms9 _] at hP hD
                        refine lv_aload_n hx hb dX5_findSteps_126 rfl (lv_at hl 1 rfl) ?_
                        refine va_get (D := D) (ci := 5) (v := .ref y2) (C := RX5) (T := TX5) (N := 26) hx hb hts hi_X5 hown hK hP 0 rfl rfl 15 (by decide) fl34 (fun _ h9 => h9) rfl dX5_findSteps_127 ?_
                        refine lv_aload_n hx hb dX5_findSteps_130 rfl (lv_at hl 1 rfl) ?_
                        refine va_get (D := D) (ci := 5) (v := .int (iI ((ms9 : Nat) : Int))) (C := RX5) (T := TX5) (N := 26) hx hb hts hi_X5 hown hK hP 0 rfl rfl 21 (by decide) fl88 (fun _ h9 => h9) rfl dX5_findSteps_131 ?_
                        refine lv_iconst (v := iI (0 : Int)) hx hb dX5_findSteps_134 rfl ?_
                        refine k_iast hx hb hK hP hD hS 4 0 rfl rfl ms9 (by omega) dX5_findSteps_135 (fun H locs hP hD hS => ?_)
                        have hP : va_P D vwCl [(hm, .inr (5, [.int cd, .ref x1, .ref x2, .ref x3, .ref x4, .ref x5, .ref x6, .ref x7, .int (iI ((kt : Nat) : Int)), .int (iI ((k1 : Nat) : Int)), .int (iI ((k2 : Nat) : Int)), .int (iI ((k3 : Nat) : Int)), .int (iI ((k4 : Nat) : Int)), .int (iI ((k5 : Nat) : Int)), .ref y1, .ref y2, .ref y3, .ref y4, .ref y5, .ref y6, .ref y7, .int (iI ((ms9 : Nat) : Int)), .int (iI ((kw : Nat) : Int)), .int (iI ((kd : Nat) : Int)), .int (iI ((ma : Nat) : Int)), .int (iI (lk : Int))])), (x2, .inl (cI, 300, .inl g1)), (x3, .inl (cI, 300, .inl g2)), (y1, .inl (cI, 300, .inl (kA (uZ P9 ms9 ((p0 : Nat) : Int))))), (y2, .inl (cI, 300, .inl (upd (kA L9) ms9 (iI (0 : Int))))), (y3, .inl (cI, 300, .inl (kA S9)))] H := hP
                        have hD : va_D A [(hm, .inr (5, [.int cd, .ref x1, .ref x2, .ref x3, .ref x4, .ref x5, .ref x6, .ref x7, .int (iI ((kt : Nat) : Int)), .int (iI ((k1 : Nat) : Int)), .int (iI ((k2 : Nat) : Int)), .int (iI ((k3 : Nat) : Int)), .int (iI ((k4 : Nat) : Int)), .int (iI ((k5 : Nat) : Int)), .ref y1, .ref y2, .ref y3, .ref y4, .ref y5, .ref y6, .ref y7, .int (iI ((ms9 : Nat) : Int)), .int (iI ((kw : Nat) : Int)), .int (iI ((kd : Nat) : Int)), .int (iI ((ma : Nat) : Int)), .int (iI (lk : Int))])), (x2, .inl (cI, 300, .inl g1)), (x3, .inl (cI, 300, .inl g2)), (y1, .inl (cI, 300, .inl (kA (uZ P9 ms9 ((p0 : Nat) : Int))))), (y2, .inl (cI, 300, .inl (upd (kA L9) ms9 (iI (0 : Int))))), (y3, .inl (cI, 300, .inl (kA S9)))] := hD
                        rw [show (upd (kA L9) ms9 (iI (0 : Int))) = (kA (uZ L9 ms9 0)) from kA_upd L9 ms9 _] at hP hD
                        refine lv_aload_n hx hb dX5_findSteps_136 rfl (lv_at hl 1 rfl) ?_
                        refine va_get (D := D) (ci := 5) (v := .ref y3) (C := RX5) (T := TX5) (N := 26) hx hb hts hi_X5 hown hK hP 0 rfl rfl 16 (by decide) fl37 (fun _ h9 => h9) rfl dX5_findSteps_137 ?_
                        refine lv_aload_n hx hb dX5_findSteps_140 rfl (lv_at hl 1 rfl) ?_
                        refine va_get (D := D) (ci := 5) (v := .int (iI ((ms9 : Nat) : Int))) (C := RX5) (T := TX5) (N := 26) hx hb hts hi_X5 hown hK hP 0 rfl rfl 21 (by decide) fl88 (fun _ h9 => h9) rfl dX5_findSteps_141 ?_
                        refine lv_iload_n hx hb dX5_findSteps_144 rfl (lv_at hl 3 rfl) ?_
                        refine k_iast hx hb hK hP hD hS 5 0 rfl rfl ms9 (by omega) dX5_findSteps_145 (fun H locs hP hD hS => ?_)
                        have hP : va_P D vwCl [(hm, .inr (5, [.int cd, .ref x1, .ref x2, .ref x3, .ref x4, .ref x5, .ref x6, .ref x7, .int (iI ((kt : Nat) : Int)), .int (iI ((k1 : Nat) : Int)), .int (iI ((k2 : Nat) : Int)), .int (iI ((k3 : Nat) : Int)), .int (iI ((k4 : Nat) : Int)), .int (iI ((k5 : Nat) : Int)), .ref y1, .ref y2, .ref y3, .ref y4, .ref y5, .ref y6, .ref y7, .int (iI ((ms9 : Nat) : Int)), .int (iI ((kw : Nat) : Int)), .int (iI ((kd : Nat) : Int)), .int (iI ((ma : Nat) : Int)), .int (iI (lk : Int))])), (x2, .inl (cI, 300, .inl g1)), (x3, .inl (cI, 300, .inl g2)), (y1, .inl (cI, 300, .inl (kA (uZ P9 ms9 ((p0 : Nat) : Int))))), (y2, .inl (cI, 300, .inl (kA (uZ L9 ms9 0)))), (y3, .inl (cI, 300, .inl (upd (kA S9) ms9 (iI (-1 : Int)))))] H := hP
                        have hD : va_D A [(hm, .inr (5, [.int cd, .ref x1, .ref x2, .ref x3, .ref x4, .ref x5, .ref x6, .ref x7, .int (iI ((kt : Nat) : Int)), .int (iI ((k1 : Nat) : Int)), .int (iI ((k2 : Nat) : Int)), .int (iI ((k3 : Nat) : Int)), .int (iI ((k4 : Nat) : Int)), .int (iI ((k5 : Nat) : Int)), .ref y1, .ref y2, .ref y3, .ref y4, .ref y5, .ref y6, .ref y7, .int (iI ((ms9 : Nat) : Int)), .int (iI ((kw : Nat) : Int)), .int (iI ((kd : Nat) : Int)), .int (iI ((ma : Nat) : Int)), .int (iI (lk : Int))])), (x2, .inl (cI, 300, .inl g1)), (x3, .inl (cI, 300, .inl g2)), (y1, .inl (cI, 300, .inl (kA (uZ P9 ms9 ((p0 : Nat) : Int))))), (y2, .inl (cI, 300, .inl (kA (uZ L9 ms9 0)))), (y3, .inl (cI, 300, .inl (upd (kA S9) ms9 (iI (-1 : Int)))))] := hD
                        rw [show (upd (kA S9) ms9 (iI (-1 : Int))) = (kA (uZ S9 ms9 (-1))) from kA_upd S9 ms9 _] at hP hD
                        refine lv_aload_n hx hb dX5_findSteps_146 rfl (lv_at hl 1 rfl) ?_
                        refine lv_dup hx hb dX5_findSteps_147 rfl ?_
                        refine va_get (D := D) (ci := 5) (v := .int (iI ((ms9 : Nat) : Int))) (C := RX5) (T := TX5) (N := 26) hx hb hts hi_X5 hown hK hP 0 rfl rfl 21 (by decide) fl88 (fun _ h9 => h9) rfl dX5_findSteps_148 ?_
                        refine lv_iconst (v := iI (1 : Int)) hx hb dX5_findSteps_151 rfl ?_
                        refine lv_iadd hx hb dX5_findSteps_152 ?_
                        refine kn_i (iA (c := ((ms9 + 1 : Nat) : Int)) (by omega)) ?_
                        refine va_put (D := D) (ci := 5) (v := .int (iI ((ms9 + 1 : Nat) : Int))) (ty := .int) (C := RX5) (T := TX5) (N := 26) hx hb hts hi_X5 tyX5 tyX5_ok nmX5 hown hK hP hD hS 0 rfl rfl 21 (by decide) fl88 (fun _ h9 => h9) rfl (by decide +kernel) rfl rfl (Nat.le_of_ble_eq_true rfl) dX5_findSteps_153 (fun H locs hP hD hS => ?_)
                        have hP : va_P D vwCl [(hm, .inr (5, [.int cd, .ref x1, .ref x2, .ref x3, .ref x4, .ref x5, .ref x6, .ref x7, .int (iI ((kt : Nat) : Int)), .int (iI ((k1 : Nat) : Int)), .int (iI ((k2 : Nat) : Int)), .int (iI ((k3 : Nat) : Int)), .int (iI ((k4 : Nat) : Int)), .int (iI ((k5 : Nat) : Int)), .ref y1, .ref y2, .ref y3, .ref y4, .ref y5, .ref y6, .ref y7, .int (iI ((ms9 + 1 : Nat) : Int)), .int (iI ((kw : Nat) : Int)), .int (iI ((kd : Nat) : Int)), .int (iI ((ma : Nat) : Int)), .int (iI (lk : Int))])), (x2, .inl (cI, 300, .inl g1)), (x3, .inl (cI, 300, .inl g2)), (y1, .inl (cI, 300, .inl (kA (uZ P9 ms9 ((p0 : Nat) : Int))))), (y2, .inl (cI, 300, .inl (kA (uZ L9 ms9 0)))), (y3, .inl (cI, 300, .inl (kA (uZ S9 ms9 (-1)))))] H := hP
                        have hD : va_D A [(hm, .inr (5, [.int cd, .ref x1, .ref x2, .ref x3, .ref x4, .ref x5, .ref x6, .ref x7, .int (iI ((kt : Nat) : Int)), .int (iI ((k1 : Nat) : Int)), .int (iI ((k2 : Nat) : Int)), .int (iI ((k3 : Nat) : Int)), .int (iI ((k4 : Nat) : Int)), .int (iI ((k5 : Nat) : Int)), .ref y1, .ref y2, .ref y3, .ref y4, .ref y5, .ref y6, .ref y7, .int (iI ((ms9 + 1 : Nat) : Int)), .int (iI ((kw : Nat) : Int)), .int (iI ((kd : Nat) : Int)), .int (iI ((ma : Nat) : Int)), .int (iI (lk : Int))])), (x2, .inl (cI, 300, .inl g1)), (x3, .inl (cI, 300, .inl g2)), (y1, .inl (cI, 300, .inl (kA (uZ P9 ms9 ((p0 : Nat) : Int))))), (y2, .inl (cI, 300, .inl (kA (uZ L9 ms9 0)))), (y3, .inl (cI, 300, .inl (kA (uZ S9 ms9 (-1)))))] := hD
                        refine lv_aload_n hx hb dX5_findSteps_156 rfl (lv_at hl 1 rfl) ?_
                        refine va_get (D := D) (ci := 5) (v := .ref y2) (C := RX5) (T := TX5) (N := 26) hx hb hts hi_X5 hown hK hP 0 rfl rfl 15 (by decide) fl34 (fun _ h9 => h9) rfl dX5_findSteps_157 ?_
                        refine lv_aload_n hx hb dX5_findSteps_160 rfl (lv_at hl 1 rfl) ?_
                        refine va_get (D := D) (ci := 5) (v := .int (iI ((ms9 + 1 : Nat) : Int))) (C := RX5) (T := TX5) (N := 26) hx hb hts hi_X5 hown hK hP 0 rfl rfl 21 (by decide) fl88 (fun _ h9 => h9) rfl dX5_findSteps_161 ?_
                        refine lv_iconst (v := iI (1 : Int)) hx hb dX5_findSteps_164 rfl ?_
                        refine lv_isub hx hb dX5_findSteps_165 ?_
                        refine kn_i (iB (c := ((ms9 : Nat) : Int)) (by omega)) ?_
                        refine lv_dup2_11 hx hb dX5_findSteps_166 rfl rfl ?_
                        refine k_iald hx hb hK hP 4 0 rfl rfl ms9 (by omega) dX5_findSteps_167 ?_
                        refine kn_i (y := iI (0 : Int)) (show kA (uZ L9 ms9 0) ms9 = iI 0 by unfold kA; rw [uZ_s]) ?_
                        refine lv_iload_n hx hb dX5_findSteps_168 rfl (lv_at hl 3 rfl) ?_
                        refine lv_iconst (v := iI (-1 : Int)) hx hb dX5_findSteps_169 rfl ?_
                        refine lv_icmp_ne (tgt := 177) hx hb dX5_findSteps_170 (by decide) (fun c170 => ?_) (fun c170 => ?_)
                        · skip
                          have c170 := iI_eqF (a := (-1 : Int)) (b := (-1 : Int)) c170 (by omega)
                          omega
                        · skip
                          have c170 := iI_eqT (a := (-1 : Int)) (b := (-1 : Int)) c170 (by omega)
                          refine lv_iconst (v := iI (1 : Int)) hx hb dX5_findSteps_173 rfl ?_
                          refine lv_goto (tgt := 178) hx hb dX5_findSteps_174 (by decide) ?_
                          refine lv_iadd hx hb dX5_findSteps_178 ?_
                          refine kn_i (iA (c := (1 : Int)) (by omega)) ?_
                          refine k_iast hx hb hK hP hD hS 4 0 rfl rfl ms9 (by omega) dX5_findSteps_179 (fun H locs hP hD hS => ?_)
                          have hP : va_P D vwCl [(hm, .inr (5, [.int cd, .ref x1, .ref x2, .ref x3, .ref x4, .ref x5, .ref x6, .ref x7, .int (iI ((kt : Nat) : Int)), .int (iI ((k1 : Nat) : Int)), .int (iI ((k2 : Nat) : Int)), .int (iI ((k3 : Nat) : Int)), .int (iI ((k4 : Nat) : Int)), .int (iI ((k5 : Nat) : Int)), .ref y1, .ref y2, .ref y3, .ref y4, .ref y5, .ref y6, .ref y7, .int (iI ((ms9 + 1 : Nat) : Int)), .int (iI ((kw : Nat) : Int)), .int (iI ((kd : Nat) : Int)), .int (iI ((ma : Nat) : Int)), .int (iI (lk : Int))])), (x2, .inl (cI, 300, .inl g1)), (x3, .inl (cI, 300, .inl g2)), (y1, .inl (cI, 300, .inl (kA (uZ P9 ms9 ((p0 : Nat) : Int))))), (y2, .inl (cI, 300, .inl (upd (kA (uZ L9 ms9 0)) ms9 (iI (1 : Int))))), (y3, .inl (cI, 300, .inl (kA (uZ S9 ms9 (-1)))))] H := hP
                          have hD : va_D A [(hm, .inr (5, [.int cd, .ref x1, .ref x2, .ref x3, .ref x4, .ref x5, .ref x6, .ref x7, .int (iI ((kt : Nat) : Int)), .int (iI ((k1 : Nat) : Int)), .int (iI ((k2 : Nat) : Int)), .int (iI ((k3 : Nat) : Int)), .int (iI ((k4 : Nat) : Int)), .int (iI ((k5 : Nat) : Int)), .ref y1, .ref y2, .ref y3, .ref y4, .ref y5, .ref y6, .ref y7, .int (iI ((ms9 + 1 : Nat) : Int)), .int (iI ((kw : Nat) : Int)), .int (iI ((kd : Nat) : Int)), .int (iI ((ma : Nat) : Int)), .int (iI (lk : Int))])), (x2, .inl (cI, 300, .inl g1)), (x3, .inl (cI, 300, .inl g2)), (y1, .inl (cI, 300, .inl (kA (uZ P9 ms9 ((p0 : Nat) : Int))))), (y2, .inl (cI, 300, .inl (upd (kA (uZ L9 ms9 0)) ms9 (iI (1 : Int))))), (y3, .inl (cI, 300, .inl (kA (uZ S9 ms9 (-1)))))] := hD
                          rw [show (upd (kA (uZ L9 ms9 0)) ms9 (iI (1 : Int))) = (kA (uZ L9 ms9 1)) from by rw [kA_upd, uZ_uZ]] at hP hD
                          refine lv_iload_n hx hb dX5_findSteps_180 rfl (lv_at hl 2 rfl) ?_
                          refine lv_iload_n hx hb dX5_findSteps_181 rfl (lv_at hl 3 rfl) ?_
                          refine lv_iconst (v := iI (-1 : Int)) hx hb dX5_findSteps_182 rfl ?_
                          refine lv_icmp_ne (tgt := 190) hx hb dX5_findSteps_183 (by decide) (fun c183 => ?_) (fun c183 => ?_)
                          · skip
                            have c183 := iI_eqF (a := (-1 : Int)) (b := (-1 : Int)) c183 (by omega)
                            omega
                          · skip
                            have c183 := iI_eqT (a := (-1 : Int)) (b := (-1 : Int)) c183 (by omega)
                            refine lv_iconst (v := iI (1 : Int)) hx hb dX5_findSteps_186 rfl ?_
                            refine lv_goto (tgt := 191) hx hb dX5_findSteps_187 (by decide) ?_
                            refine lv_iadd hx hb dX5_findSteps_191 ?_
                            refine kn_i (iA (c := ((p0 + 1 : Nat) : Int)) (by omega)) ?_
                            refine lv_istore_n (lv' := [(1, .int (iI ((p0 + 1 : Nat) : Int))), (4, .int (iI (0 : Int))), (0, .ref hm), (2, .int (iI (-1 : Int))), (3, .int (iI ((max 3 (mxR (lr g2 g1 k2 k1 p0) q) : Nat) : Int)))]) hx hb dX5_findSteps_192 rfl hl (by decide) rfl (fun ls hl => ?_)
                            refine lv_goto (tgt := 7) hx hb dX5_findSteps_193 (by decide) ?_
                            have hab := adB_n (P := P9) (L := L9) (S := S9) (cnt := ms9) (p := p0) (by omega)
                            have hW2 := LW_adB hW
                            have hF2 := layF_a (r := (lr g2 g1 k2 k1)) (nb := k1) (ng := k2) (t := t) (p := p0) (P := P9) (L := L9) (S := S9) (cnt := ms9) (by omega) (by omega) (by omega)
                            rw [hab] at hW2 hF2
                            exact ih7 (t + 1) (p0 + 1) (ms9 + 1) (uZ P9 ms9 ((p0 : Nat) : Int)) (uZ L9 ms9 1) (uZ S9 ms9 (-1)) _ _ _ (by omega) (by omega) (by omega) hW2 (hF2.symm.trans hF) hP hD hS (lv_sub hl [2, 0] rfl)
                    · skip
                      have c85 := iI_eqT (a := (S9 (ms9 - 1) : Int)) (b := (-1 : Int)) c85 (by omega)
                      refine lv_aload_n hx hb dX5_findSteps_88 rfl (lv_at hl 0 rfl) ?_
                      refine va_get (D := D) (ci := 5) (v := .ref y2) (C := RX5) (T := TX5) (N := 26) hx hb hts hi_X5 hown hK hP 0 rfl rfl 15 (by decide) fl34 (fun _ h9 => h9) rfl dX5_findSteps_89 ?_
                      refine lv_aload_n hx hb dX5_findSteps_92 rfl (lv_at hl 0 rfl) ?_
                      refine va_get (D := D) (ci := 5) (v := .int (iI ((ms9 : Nat) : Int))) (C := RX5) (T := TX5) (N := 26) hx hb hts hi_X5 hown hK hP 0 rfl rfl 21 (by decide) fl88 (fun _ h9 => h9) rfl dX5_findSteps_93 ?_
                      refine lv_iconst (v := iI (1 : Int)) hx hb dX5_findSteps_96 rfl ?_
                      refine lv_isub hx hb dX5_findSteps_97 ?_
                      refine kn_i (iB (c := ((ms9 - 1 : Nat) : Int)) (by omega)) ?_
                      refine k_iald hx hb hK hP 4 0 rfl rfl (ms9 - 1) (by omega) dX5_findSteps_98 ?_
                      refine kn_i (y := iI (L9 (ms9 - 1) : Int)) (rfl) ?_
                      refine lv_bipush (v := iI (40 : Int)) hx hb dX5_findSteps_99 (by decide) ?_
                      refine lv_icmp_ge (tgt := 108) hx hb dX5_findSteps_101 (by decide) (fun c101 => ?_) (fun c101 => ?_)
                      · skip
                        have c101 := iI_leT (a := (40 : Int)) (b := (L9 (ms9 - 1) : Int)) c101 (by omega)
                        refine lv_iconst (v := iI (0 : Int)) hx hb dX5_findSteps_108 rfl ?_
                        refine lv_istore (lv' := [(4, .int (iI (0 : Int))), (0, .ref hm), (1, .int (iI ((p0 : Nat) : Int))), (2, .int (iI (-1 : Int))), (3, .int (iI ((max 3 (mxR (lr g2 g1 k2 k1 p0) q) : Nat) : Int)))]) hx hb dX5_findSteps_109 hl (by decide) rfl (fun ls hl => ?_)
                        refine lv_iload hx hb dX5_findSteps_111 (lv_at hl 0 rfl) ?_
                        refine lv_if_ne (tgt := 156) hx hb dX5_findSteps_113 (by decide) (fun c113 => ?_) (fun c113 => ?_)
                        · skip
                          have c113 := iI_eqF (a := (0 : Int)) (b := (0 : Int)) c113 (by omega)
                          omega
                        · skip
                          have c113 := iI_eqT (a := (0 : Int)) (b := (0 : Int)) c113 (by omega)
                          refine lv_aload_n hx hb dX5_findSteps_116 rfl (lv_at hl 1 rfl) ?_
                          refine va_get (D := D) (ci := 5) (v := .ref y1) (C := RX5) (T := TX5) (N := 26) hx hb hts hi_X5 hown hK hP 0 rfl rfl 14 (by decide) fl31 (fun _ h9 => h9) rfl dX5_findSteps_117 ?_
                          refine lv_aload_n hx hb dX5_findSteps_120 rfl (lv_at hl 1 rfl) ?_
                          refine va_get (D := D) (ci := 5) (v := .int (iI ((ms9 : Nat) : Int))) (C := RX5) (T := TX5) (N := 26) hx hb hts hi_X5 hown hK hP 0 rfl rfl 21 (by decide) fl88 (fun _ h9 => h9) rfl dX5_findSteps_121 ?_
                          refine lv_iload_n hx hb dX5_findSteps_124 rfl (lv_at hl 2 rfl) ?_
                          refine k_iast hx hb hK hP hD hS 3 0 rfl rfl ms9 (by omega) dX5_findSteps_125 (fun H locs hP hD hS => ?_)
                          have hP : va_P D vwCl [(hm, .inr (5, [.int cd, .ref x1, .ref x2, .ref x3, .ref x4, .ref x5, .ref x6, .ref x7, .int (iI ((kt : Nat) : Int)), .int (iI ((k1 : Nat) : Int)), .int (iI ((k2 : Nat) : Int)), .int (iI ((k3 : Nat) : Int)), .int (iI ((k4 : Nat) : Int)), .int (iI ((k5 : Nat) : Int)), .ref y1, .ref y2, .ref y3, .ref y4, .ref y5, .ref y6, .ref y7, .int (iI ((ms9 : Nat) : Int)), .int (iI ((kw : Nat) : Int)), .int (iI ((kd : Nat) : Int)), .int (iI ((ma : Nat) : Int)), .int (iI (lk : Int))])), (x2, .inl (cI, 300, .inl g1)), (x3, .inl (cI, 300, .inl g2)), (y1, .inl (cI, 300, .inl (upd (kA P9) ms9 (iI ((p0 : Nat) : Int))))), (y2, .inl (cI, 300, .inl (kA L9))), (y3, .inl (cI, 300, .inl (kA S9)))] H := hP
                          have hD : va_D A [(hm, .inr (5, [.int cd, .ref x1, .ref x2, .ref x3, .ref x4, .ref x5, .ref x6, .ref x7, .int (iI ((kt : Nat) : Int)), .int (iI ((k1 : Nat) : Int)), .int (iI ((k2 : Nat) : Int)), .int (iI ((k3 : Nat) : Int)), .int (iI ((k4 : Nat) : Int)), .int (iI ((k5 : Nat) : Int)), .ref y1, .ref y2, .ref y3, .ref y4, .ref y5, .ref y6, .ref y7, .int (iI ((ms9 : Nat) : Int)), .int (iI ((kw : Nat) : Int)), .int (iI ((kd : Nat) : Int)), .int (iI ((ma : Nat) : Int)), .int (iI (lk : Int))])), (x2, .inl (cI, 300, .inl g1)), (x3, .inl (cI, 300, .inl g2)), (y1, .inl (cI, 300, .inl (upd (kA P9) ms9 (iI ((p0 : Nat) : Int))))), (y2, .inl (cI, 300, .inl (kA L9))), (y3, .inl (cI, 300, .inl (kA S9)))] := hD
                          rw [show (upd (kA P9) ms9 (iI ((p0 : Nat) : Int))) = (kA (uZ P9 ms9 ((p0 : Nat) : Int))) from kA_upd P9 ms9 _] at hP hD
                          refine lv_aload_n hx hb dX5_findSteps_126 rfl (lv_at hl 1 rfl) ?_
                          refine va_get (D := D) (ci := 5) (v := .ref y2) (C := RX5) (T := TX5) (N := 26) hx hb hts hi_X5 hown hK hP 0 rfl rfl 15 (by decide) fl34 (fun _ h9 => h9) rfl dX5_findSteps_127 ?_
                          refine lv_aload_n hx hb dX5_findSteps_130 rfl (lv_at hl 1 rfl) ?_
                          refine va_get (D := D) (ci := 5) (v := .int (iI ((ms9 : Nat) : Int))) (C := RX5) (T := TX5) (N := 26) hx hb hts hi_X5 hown hK hP 0 rfl rfl 21 (by decide) fl88 (fun _ h9 => h9) rfl dX5_findSteps_131 ?_
                          refine lv_iconst (v := iI (0 : Int)) hx hb dX5_findSteps_134 rfl ?_
                          refine k_iast hx hb hK hP hD hS 4 0 rfl rfl ms9 (by omega) dX5_findSteps_135 (fun H locs hP hD hS => ?_)
                          have hP : va_P D vwCl [(hm, .inr (5, [.int cd, .ref x1, .ref x2, .ref x3, .ref x4, .ref x5, .ref x6, .ref x7, .int (iI ((kt : Nat) : Int)), .int (iI ((k1 : Nat) : Int)), .int (iI ((k2 : Nat) : Int)), .int (iI ((k3 : Nat) : Int)), .int (iI ((k4 : Nat) : Int)), .int (iI ((k5 : Nat) : Int)), .ref y1, .ref y2, .ref y3, .ref y4, .ref y5, .ref y6, .ref y7, .int (iI ((ms9 : Nat) : Int)), .int (iI ((kw : Nat) : Int)), .int (iI ((kd : Nat) : Int)), .int (iI ((ma : Nat) : Int)), .int (iI (lk : Int))])), (x2, .inl (cI, 300, .inl g1)), (x3, .inl (cI, 300, .inl g2)), (y1, .inl (cI, 300, .inl (kA (uZ P9 ms9 ((p0 : Nat) : Int))))), (y2, .inl (cI, 300, .inl (upd (kA L9) ms9 (iI (0 : Int))))), (y3, .inl (cI, 300, .inl (kA S9)))] H := hP
                          have hD : va_D A [(hm, .inr (5, [.int cd, .ref x1, .ref x2, .ref x3, .ref x4, .ref x5, .ref x6, .ref x7, .int (iI ((kt : Nat) : Int)), .int (iI ((k1 : Nat) : Int)), .int (iI ((k2 : Nat) : Int)), .int (iI ((k3 : Nat) : Int)), .int (iI ((k4 : Nat) : Int)), .int (iI ((k5 : Nat) : Int)), .ref y1, .ref y2, .ref y3, .ref y4, .ref y5, .ref y6, .ref y7, .int (iI ((ms9 : Nat) : Int)), .int (iI ((kw : Nat) : Int)), .int (iI ((kd : Nat) : Int)), .int (iI ((ma : Nat) : Int)), .int (iI (lk : Int))])), (x2, .inl (cI, 300, .inl g1)), (x3, .inl (cI, 300, .inl g2)), (y1, .inl (cI, 300, .inl (kA (uZ P9 ms9 ((p0 : Nat) : Int))))), (y2, .inl (cI, 300, .inl (upd (kA L9) ms9 (iI (0 : Int))))), (y3, .inl (cI, 300, .inl (kA S9)))] := hD
                          rw [show (upd (kA L9) ms9 (iI (0 : Int))) = (kA (uZ L9 ms9 0)) from kA_upd L9 ms9 _] at hP hD
                          refine lv_aload_n hx hb dX5_findSteps_136 rfl (lv_at hl 1 rfl) ?_
                          refine va_get (D := D) (ci := 5) (v := .ref y3) (C := RX5) (T := TX5) (N := 26) hx hb hts hi_X5 hown hK hP 0 rfl rfl 16 (by decide) fl37 (fun _ h9 => h9) rfl dX5_findSteps_137 ?_
                          refine lv_aload_n hx hb dX5_findSteps_140 rfl (lv_at hl 1 rfl) ?_
                          refine va_get (D := D) (ci := 5) (v := .int (iI ((ms9 : Nat) : Int))) (C := RX5) (T := TX5) (N := 26) hx hb hts hi_X5 hown hK hP 0 rfl rfl 21 (by decide) fl88 (fun _ h9 => h9) rfl dX5_findSteps_141 ?_
                          refine lv_iload_n hx hb dX5_findSteps_144 rfl (lv_at hl 3 rfl) ?_
                          refine k_iast hx hb hK hP hD hS 5 0 rfl rfl ms9 (by omega) dX5_findSteps_145 (fun H locs hP hD hS => ?_)
                          have hP : va_P D vwCl [(hm, .inr (5, [.int cd, .ref x1, .ref x2, .ref x3, .ref x4, .ref x5, .ref x6, .ref x7, .int (iI ((kt : Nat) : Int)), .int (iI ((k1 : Nat) : Int)), .int (iI ((k2 : Nat) : Int)), .int (iI ((k3 : Nat) : Int)), .int (iI ((k4 : Nat) : Int)), .int (iI ((k5 : Nat) : Int)), .ref y1, .ref y2, .ref y3, .ref y4, .ref y5, .ref y6, .ref y7, .int (iI ((ms9 : Nat) : Int)), .int (iI ((kw : Nat) : Int)), .int (iI ((kd : Nat) : Int)), .int (iI ((ma : Nat) : Int)), .int (iI (lk : Int))])), (x2, .inl (cI, 300, .inl g1)), (x3, .inl (cI, 300, .inl g2)), (y1, .inl (cI, 300, .inl (kA (uZ P9 ms9 ((p0 : Nat) : Int))))), (y2, .inl (cI, 300, .inl (kA (uZ L9 ms9 0)))), (y3, .inl (cI, 300, .inl (upd (kA S9) ms9 (iI (-1 : Int)))))] H := hP
                          have hD : va_D A [(hm, .inr (5, [.int cd, .ref x1, .ref x2, .ref x3, .ref x4, .ref x5, .ref x6, .ref x7, .int (iI ((kt : Nat) : Int)), .int (iI ((k1 : Nat) : Int)), .int (iI ((k2 : Nat) : Int)), .int (iI ((k3 : Nat) : Int)), .int (iI ((k4 : Nat) : Int)), .int (iI ((k5 : Nat) : Int)), .ref y1, .ref y2, .ref y3, .ref y4, .ref y5, .ref y6, .ref y7, .int (iI ((ms9 : Nat) : Int)), .int (iI ((kw : Nat) : Int)), .int (iI ((kd : Nat) : Int)), .int (iI ((ma : Nat) : Int)), .int (iI (lk : Int))])), (x2, .inl (cI, 300, .inl g1)), (x3, .inl (cI, 300, .inl g2)), (y1, .inl (cI, 300, .inl (kA (uZ P9 ms9 ((p0 : Nat) : Int))))), (y2, .inl (cI, 300, .inl (kA (uZ L9 ms9 0)))), (y3, .inl (cI, 300, .inl (upd (kA S9) ms9 (iI (-1 : Int)))))] := hD
                          rw [show (upd (kA S9) ms9 (iI (-1 : Int))) = (kA (uZ S9 ms9 (-1))) from kA_upd S9 ms9 _] at hP hD
                          refine lv_aload_n hx hb dX5_findSteps_146 rfl (lv_at hl 1 rfl) ?_
                          refine lv_dup hx hb dX5_findSteps_147 rfl ?_
                          refine va_get (D := D) (ci := 5) (v := .int (iI ((ms9 : Nat) : Int))) (C := RX5) (T := TX5) (N := 26) hx hb hts hi_X5 hown hK hP 0 rfl rfl 21 (by decide) fl88 (fun _ h9 => h9) rfl dX5_findSteps_148 ?_
                          refine lv_iconst (v := iI (1 : Int)) hx hb dX5_findSteps_151 rfl ?_
                          refine lv_iadd hx hb dX5_findSteps_152 ?_
                          refine kn_i (iA (c := ((ms9 + 1 : Nat) : Int)) (by omega)) ?_
                          refine va_put (D := D) (ci := 5) (v := .int (iI ((ms9 + 1 : Nat) : Int))) (ty := .int) (C := RX5) (T := TX5) (N := 26) hx hb hts hi_X5 tyX5 tyX5_ok nmX5 hown hK hP hD hS 0 rfl rfl 21 (by decide) fl88 (fun _ h9 => h9) rfl (by decide +kernel) rfl rfl (Nat.le_of_ble_eq_true rfl) dX5_findSteps_153 (fun H locs hP hD hS => ?_)
                          have hP : va_P D vwCl [(hm, .inr (5, [.int cd, .ref x1, .ref x2, .ref x3, .ref x4, .ref x5, .ref x6, .ref x7, .int (iI ((kt : Nat) : Int)), .int (iI ((k1 : Nat) : Int)), .int (iI ((k2 : Nat) : Int)), .int (iI ((k3 : Nat) : Int)), .int (iI ((k4 : Nat) : Int)), .int (iI ((k5 : Nat) : Int)), .ref y1, .ref y2, .ref y3, .ref y4, .ref y5, .ref y6, .ref y7, .int (iI ((ms9 + 1 : Nat) : Int)), .int (iI ((kw : Nat) : Int)), .int (iI ((kd : Nat) : Int)), .int (iI ((ma : Nat) : Int)), .int (iI (lk : Int))])), (x2, .inl (cI, 300, .inl g1)), (x3, .inl (cI, 300, .inl g2)), (y1, .inl (cI, 300, .inl (kA (uZ P9 ms9 ((p0 : Nat) : Int))))), (y2, .inl (cI, 300, .inl (kA (uZ L9 ms9 0)))), (y3, .inl (cI, 300, .inl (kA (uZ S9 ms9 (-1)))))] H := hP
                          have hD : va_D A [(hm, .inr (5, [.int cd, .ref x1, .ref x2, .ref x3, .ref x4, .ref x5, .ref x6, .ref x7, .int (iI ((kt : Nat) : Int)), .int (iI ((k1 : Nat) : Int)), .int (iI ((k2 : Nat) : Int)), .int (iI ((k3 : Nat) : Int)), .int (iI ((k4 : Nat) : Int)), .int (iI ((k5 : Nat) : Int)), .ref y1, .ref y2, .ref y3, .ref y4, .ref y5, .ref y6, .ref y7, .int (iI ((ms9 + 1 : Nat) : Int)), .int (iI ((kw : Nat) : Int)), .int (iI ((kd : Nat) : Int)), .int (iI ((ma : Nat) : Int)), .int (iI (lk : Int))])), (x2, .inl (cI, 300, .inl g1)), (x3, .inl (cI, 300, .inl g2)), (y1, .inl (cI, 300, .inl (kA (uZ P9 ms9 ((p0 : Nat) : Int))))), (y2, .inl (cI, 300, .inl (kA (uZ L9 ms9 0)))), (y3, .inl (cI, 300, .inl (kA (uZ S9 ms9 (-1)))))] := hD
                          refine lv_aload_n hx hb dX5_findSteps_156 rfl (lv_at hl 1 rfl) ?_
                          refine va_get (D := D) (ci := 5) (v := .ref y2) (C := RX5) (T := TX5) (N := 26) hx hb hts hi_X5 hown hK hP 0 rfl rfl 15 (by decide) fl34 (fun _ h9 => h9) rfl dX5_findSteps_157 ?_
                          refine lv_aload_n hx hb dX5_findSteps_160 rfl (lv_at hl 1 rfl) ?_
                          refine va_get (D := D) (ci := 5) (v := .int (iI ((ms9 + 1 : Nat) : Int))) (C := RX5) (T := TX5) (N := 26) hx hb hts hi_X5 hown hK hP 0 rfl rfl 21 (by decide) fl88 (fun _ h9 => h9) rfl dX5_findSteps_161 ?_
                          refine lv_iconst (v := iI (1 : Int)) hx hb dX5_findSteps_164 rfl ?_
                          refine lv_isub hx hb dX5_findSteps_165 ?_
                          refine kn_i (iB (c := ((ms9 : Nat) : Int)) (by omega)) ?_
                          refine lv_dup2_11 hx hb dX5_findSteps_166 rfl rfl ?_
                          refine k_iald hx hb hK hP 4 0 rfl rfl ms9 (by omega) dX5_findSteps_167 ?_
                          refine kn_i (y := iI (0 : Int)) (show kA (uZ L9 ms9 0) ms9 = iI 0 by unfold kA; rw [uZ_s]) ?_
                          refine lv_iload_n hx hb dX5_findSteps_168 rfl (lv_at hl 3 rfl) ?_
                          refine lv_iconst (v := iI (-1 : Int)) hx hb dX5_findSteps_169 rfl ?_
                          refine lv_icmp_ne (tgt := 177) hx hb dX5_findSteps_170 (by decide) (fun c170 => ?_) (fun c170 => ?_)
                          · skip
                            have c170 := iI_eqF (a := (-1 : Int)) (b := (-1 : Int)) c170 (by omega)
                            omega
                          · skip
                            have c170 := iI_eqT (a := (-1 : Int)) (b := (-1 : Int)) c170 (by omega)
                            refine lv_iconst (v := iI (1 : Int)) hx hb dX5_findSteps_173 rfl ?_
                            refine lv_goto (tgt := 178) hx hb dX5_findSteps_174 (by decide) ?_
                            refine lv_iadd hx hb dX5_findSteps_178 ?_
                            refine kn_i (iA (c := (1 : Int)) (by omega)) ?_
                            refine k_iast hx hb hK hP hD hS 4 0 rfl rfl ms9 (by omega) dX5_findSteps_179 (fun H locs hP hD hS => ?_)
                            have hP : va_P D vwCl [(hm, .inr (5, [.int cd, .ref x1, .ref x2, .ref x3, .ref x4, .ref x5, .ref x6, .ref x7, .int (iI ((kt : Nat) : Int)), .int (iI ((k1 : Nat) : Int)), .int (iI ((k2 : Nat) : Int)), .int (iI ((k3 : Nat) : Int)), .int (iI ((k4 : Nat) : Int)), .int (iI ((k5 : Nat) : Int)), .ref y1, .ref y2, .ref y3, .ref y4, .ref y5, .ref y6, .ref y7, .int (iI ((ms9 + 1 : Nat) : Int)), .int (iI ((kw : Nat) : Int)), .int (iI ((kd : Nat) : Int)), .int (iI ((ma : Nat) : Int)), .int (iI (lk : Int))])), (x2, .inl (cI, 300, .inl g1)), (x3, .inl (cI, 300, .inl g2)), (y1, .inl (cI, 300, .inl (kA (uZ P9 ms9 ((p0 : Nat) : Int))))), (y2, .inl (cI, 300, .inl (upd (kA (uZ L9 ms9 0)) ms9 (iI (1 : Int))))), (y3, .inl (cI, 300, .inl (kA (uZ S9 ms9 (-1)))))] H := hP
                            have hD : va_D A [(hm, .inr (5, [.int cd, .ref x1, .ref x2, .ref x3, .ref x4, .ref x5, .ref x6, .ref x7, .int (iI ((kt : Nat) : Int)), .int (iI ((k1 : Nat) : Int)), .int (iI ((k2 : Nat) : Int)), .int (iI ((k3 : Nat) : Int)), .int (iI ((k4 : Nat) : Int)), .int (iI ((k5 : Nat) : Int)), .ref y1, .ref y2, .ref y3, .ref y4, .ref y5, .ref y6, .ref y7, .int (iI ((ms9 + 1 : Nat) : Int)), .int (iI ((kw : Nat) : Int)), .int (iI ((kd : Nat) : Int)), .int (iI ((ma : Nat) : Int)), .int (iI (lk : Int))])), (x2, .inl (cI, 300, .inl g1)), (x3, .inl (cI, 300, .inl g2)), (y1, .inl (cI, 300, .inl (kA (uZ P9 ms9 ((p0 : Nat) : Int))))), (y2, .inl (cI, 300, .inl (upd (kA (uZ L9 ms9 0)) ms9 (iI (1 : Int))))), (y3, .inl (cI, 300, .inl (kA (uZ S9 ms9 (-1)))))] := hD
                            rw [show (upd (kA (uZ L9 ms9 0)) ms9 (iI (1 : Int))) = (kA (uZ L9 ms9 1)) from by rw [kA_upd, uZ_uZ]] at hP hD
                            refine lv_iload_n hx hb dX5_findSteps_180 rfl (lv_at hl 2 rfl) ?_
                            refine lv_iload_n hx hb dX5_findSteps_181 rfl (lv_at hl 3 rfl) ?_
                            refine lv_iconst (v := iI (-1 : Int)) hx hb dX5_findSteps_182 rfl ?_
                            refine lv_icmp_ne (tgt := 190) hx hb dX5_findSteps_183 (by decide) (fun c183 => ?_) (fun c183 => ?_)
                            · skip
                              have c183 := iI_eqF (a := (-1 : Int)) (b := (-1 : Int)) c183 (by omega)
                              omega
                            · skip
                              have c183 := iI_eqT (a := (-1 : Int)) (b := (-1 : Int)) c183 (by omega)
                              refine lv_iconst (v := iI (1 : Int)) hx hb dX5_findSteps_186 rfl ?_
                              refine lv_goto (tgt := 191) hx hb dX5_findSteps_187 (by decide) ?_
                              refine lv_iadd hx hb dX5_findSteps_191 ?_
                              refine kn_i (iA (c := ((p0 + 1 : Nat) : Int)) (by omega)) ?_
                              refine lv_istore_n (lv' := [(1, .int (iI ((p0 + 1 : Nat) : Int))), (4, .int (iI (0 : Int))), (0, .ref hm), (2, .int (iI (-1 : Int))), (3, .int (iI ((max 3 (mxR (lr g2 g1 k2 k1 p0) q) : Nat) : Int)))]) hx hb dX5_findSteps_192 rfl hl (by decide) rfl (fun ls hl => ?_)
                              refine lv_goto (tgt := 7) hx hb dX5_findSteps_193 (by decide) ?_
                              have hab := adB_n (P := P9) (L := L9) (S := S9) (cnt := ms9) (p := p0) (by omega)
                              have hW2 := LW_adB hW
                              have hF2 := layF_a (r := (lr g2 g1 k2 k1)) (nb := k1) (ng := k2) (t := t) (p := p0) (P := P9) (L := L9) (S := S9) (cnt := ms9) (by omega) (by omega) (by omega)
                              rw [hab] at hW2 hF2
                              exact ih7 (t + 1) (p0 + 1) (ms9 + 1) (uZ P9 ms9 ((p0 : Nat) : Int)) (uZ L9 ms9 1) (uZ S9 ms9 (-1)) _ _ _ (by omega) (by omega) (by omega) hW2 (hF2.symm.trans hF) hP hD hS (lv_sub hl [2, 0] rfl)
                      · skip
                        have c101 := iI_leF (a := (40 : Int)) (b := (L9 (ms9 - 1) : Int)) c101 (by omega)
                        refine lv_iconst (v := iI (1 : Int)) hx hb dX5_findSteps_104 rfl ?_
                        refine lv_goto (tgt := 109) hx hb dX5_findSteps_105 (by decide) ?_
                        refine lv_istore (lv' := [(4, .int (iI (1 : Int))), (0, .ref hm), (1, .int (iI ((p0 : Nat) : Int))), (2, .int (iI (-1 : Int))), (3, .int (iI ((max 3 (mxR (lr g2 g1 k2 k1 p0) q) : Nat) : Int)))]) hx hb dX5_findSteps_109 hl (by decide) rfl (fun ls hl => ?_)
                        refine lv_iload hx hb dX5_findSteps_111 (lv_at hl 0 rfl) ?_
                        refine lv_if_ne (tgt := 156) hx hb dX5_findSteps_113 (by decide) (fun c113 => ?_) (fun c113 => ?_)
                        · skip
                          have c113 := iI_eqF (a := (1 : Int)) (b := (0 : Int)) c113 (by omega)
                          refine lv_aload_n hx hb dX5_findSteps_156 rfl (lv_at hl 1 rfl) ?_
                          refine va_get (D := D) (ci := 5) (v := .ref y2) (C := RX5) (T := TX5) (N := 26) hx hb hts hi_X5 hown hK hP 0 rfl rfl 15 (by decide) fl34 (fun _ h9 => h9) rfl dX5_findSteps_157 ?_
                          refine lv_aload_n hx hb dX5_findSteps_160 rfl (lv_at hl 1 rfl) ?_
                          refine va_get (D := D) (ci := 5) (v := .int (iI ((ms9 : Nat) : Int))) (C := RX5) (T := TX5) (N := 26) hx hb hts hi_X5 hown hK hP 0 rfl rfl 21 (by decide) fl88 (fun _ h9 => h9) rfl dX5_findSteps_161 ?_
                          refine lv_iconst (v := iI (1 : Int)) hx hb dX5_findSteps_164 rfl ?_
                          refine lv_isub hx hb dX5_findSteps_165 ?_
                          refine kn_i (iB (c := ((ms9 - 1 : Nat) : Int)) (by omega)) ?_
                          refine lv_dup2_11 hx hb dX5_findSteps_166 rfl rfl ?_
                          refine k_iald hx hb hK hP 4 0 rfl rfl (ms9 - 1) (by omega) dX5_findSteps_167 ?_
                          refine kn_i (y := iI (L9 (ms9 - 1) : Int)) (rfl) ?_
                          refine lv_iload_n hx hb dX5_findSteps_168 rfl (lv_at hl 3 rfl) ?_
                          refine lv_iconst (v := iI (-1 : Int)) hx hb dX5_findSteps_169 rfl ?_
                          refine lv_icmp_ne (tgt := 177) hx hb dX5_findSteps_170 (by decide) (fun c170 => ?_) (fun c170 => ?_)
                          · skip
                            have c170 := iI_eqF (a := (-1 : Int)) (b := (-1 : Int)) c170 (by omega)
                            omega
                          · skip
                            have c170 := iI_eqT (a := (-1 : Int)) (b := (-1 : Int)) c170 (by omega)
                            refine lv_iconst (v := iI (1 : Int)) hx hb dX5_findSteps_173 rfl ?_
                            refine lv_goto (tgt := 178) hx hb dX5_findSteps_174 (by decide) ?_
                            refine lv_iadd hx hb dX5_findSteps_178 ?_
                            refine kn_i (iA (c := (L9 (ms9 - 1) + 1 : Int)) (by omega)) ?_
                            refine k_iast hx hb hK hP hD hS 4 0 rfl rfl (ms9 - 1) (by omega) dX5_findSteps_179 (fun H locs hP hD hS => ?_)
                            have hP : va_P D vwCl [(hm, .inr (5, [.int cd, .ref x1, .ref x2, .ref x3, .ref x4, .ref x5, .ref x6, .ref x7, .int (iI ((kt : Nat) : Int)), .int (iI ((k1 : Nat) : Int)), .int (iI ((k2 : Nat) : Int)), .int (iI ((k3 : Nat) : Int)), .int (iI ((k4 : Nat) : Int)), .int (iI ((k5 : Nat) : Int)), .ref y1, .ref y2, .ref y3, .ref y4, .ref y5, .ref y6, .ref y7, .int (iI ((ms9 : Nat) : Int)), .int (iI ((kw : Nat) : Int)), .int (iI ((kd : Nat) : Int)), .int (iI ((ma : Nat) : Int)), .int (iI (lk : Int))])), (x2, .inl (cI, 300, .inl g1)), (x3, .inl (cI, 300, .inl g2)), (y1, .inl (cI, 300, .inl (kA P9))), (y2, .inl (cI, 300, .inl (upd (kA L9) (ms9 - 1) (iI (L9 (ms9 - 1) + 1 : Int))))), (y3, .inl (cI, 300, .inl (kA S9)))] H := hP
                            have hD : va_D A [(hm, .inr (5, [.int cd, .ref x1, .ref x2, .ref x3, .ref x4, .ref x5, .ref x6, .ref x7, .int (iI ((kt : Nat) : Int)), .int (iI ((k1 : Nat) : Int)), .int (iI ((k2 : Nat) : Int)), .int (iI ((k3 : Nat) : Int)), .int (iI ((k4 : Nat) : Int)), .int (iI ((k5 : Nat) : Int)), .ref y1, .ref y2, .ref y3, .ref y4, .ref y5, .ref y6, .ref y7, .int (iI ((ms9 : Nat) : Int)), .int (iI ((kw : Nat) : Int)), .int (iI ((kd : Nat) : Int)), .int (iI ((ma : Nat) : Int)), .int (iI (lk : Int))])), (x2, .inl (cI, 300, .inl g1)), (x3, .inl (cI, 300, .inl g2)), (y1, .inl (cI, 300, .inl (kA P9))), (y2, .inl (cI, 300, .inl (upd (kA L9) (ms9 - 1) (iI (L9 (ms9 - 1) + 1 : Int))))), (y3, .inl (cI, 300, .inl (kA S9)))] := hD
                            rw [show (upd (kA L9) (ms9 - 1) (iI (L9 (ms9 - 1) + 1 : Int))) = (kA (uZ L9 (ms9 - 1) (L9 (ms9 - 1) + 1))) from kA_upd L9 (ms9 - 1) _] at hP hD
                            refine lv_iload_n hx hb dX5_findSteps_180 rfl (lv_at hl 2 rfl) ?_
                            refine lv_iload_n hx hb dX5_findSteps_181 rfl (lv_at hl 3 rfl) ?_
                            refine lv_iconst (v := iI (-1 : Int)) hx hb dX5_findSteps_182 rfl ?_
                            refine lv_icmp_ne (tgt := 190) hx hb dX5_findSteps_183 (by decide) (fun c183 => ?_) (fun c183 => ?_)
                            · skip
                              have c183 := iI_eqF (a := (-1 : Int)) (b := (-1 : Int)) c183 (by omega)
                              omega
                            · skip
                              have c183 := iI_eqT (a := (-1 : Int)) (b := (-1 : Int)) c183 (by omega)
                              refine lv_iconst (v := iI (1 : Int)) hx hb dX5_findSteps_186 rfl ?_
                              refine lv_goto (tgt := 191) hx hb dX5_findSteps_187 (by decide) ?_
                              refine lv_iadd hx hb dX5_findSteps_191 ?_
                              refine kn_i (iA (c := ((p0 + 1 : Nat) : Int)) (by omega)) ?_
                              refine lv_istore_n (lv' := [(1, .int (iI ((p0 + 1 : Nat) : Int))), (4, .int (iI (1 : Int))), (0, .ref hm), (2, .int (iI (-1 : Int))), (3, .int (iI ((max 3 (mxR (lr g2 g1 k2 k1 p0) q) : Nat) : Int)))]) hx hb dX5_findSteps_192 rfl hl (by decide) rfl (fun ls hl => ?_)
                              refine lv_goto (tgt := 7) hx hb dX5_findSteps_193 (by decide) ?_
                              have hab := adB_y (P := P9) (L := L9) (S := S9) (cnt := ms9) (p := p0) (by omega)
                              have hW2 := LW_adB hW
                              have hF2 := layF_a (r := (lr g2 g1 k2 k1)) (nb := k1) (ng := k2) (t := t) (p := p0) (P := P9) (L := L9) (S := S9) (cnt := ms9) (by omega) (by omega) (by omega)
                              rw [hab] at hW2 hF2
                              exact ih7 (t + 1) (p0 + 1) ms9 P9 (uZ L9 (ms9 - 1) (L9 (ms9 - 1) + 1)) S9 _ _ _ (by omega) (by omega) (by omega) hW2 (hF2.symm.trans hF) hP hD hS (lv_sub hl [2, 0] rfl)
                        · skip
                          have c113 := iI_eqT (a := (1 : Int)) (b := (0 : Int)) c113 (by omega)
                          omega
            · skip
              have c28 := iI_leF (a := ((k1 : Nat) : Int)) (b := ((q : Nat) : Int)) c28 (by omega)
              have hm1 := hmx q
              have hlr := lr_le (fg := g2) (fb := g1) (ng := k2) (nb := k1) (p := p0) (q := q)
              refine lv_aload_n hx hb dX5_findSteps_31 rfl (lv_at hl 0 rfl) ?_
              refine lv_iload_n hx hb dX5_findSteps_32 rfl (lv_at hl 1 rfl) ?_
              refine lv_iload hx hb dX5_findSteps_33 (lv_at hl 4 rfl) ?_
              refine k_calli (wc := [(hm, .inr (5, [.int cd, .ref x1, .ref x2, .ref x3, .ref x4, .ref x5, .ref x6, .ref x7, .int (iI ((kt : Nat) : Int)), .int (iI ((k1 : Nat) : Int)), .int (iI ((k2 : Nat) : Int)), .int (iI ((k3 : Nat) : Int)), .int (iI ((k4 : Nat) : Int)), .int (iI ((k5 : Nat) : Int)), .ref y1, .ref y2, .ref y3, .ref y4, .ref y5, .ref y6, .ref y7, .int (iI ((ms9 : Nat) : Int)), .int (iI ((kw : Nat) : Int)), .int (iI ((kd : Nat) : Int)), .int (iI ((ma : Nat) : Int)), .int (iI (lk : Int))])), (x2, .inl (cI, 300, .inl g1)), (x3, .inl (cI, 300, .inl g2))]) (wr := [(y1, .inl (cI, 300, .inl (kA P9))), (y2, .inl (cI, 300, .inl (kA L9))), (y3, .inl (cI, 300, .inl (kA S9)))]) (wf := fun _ => [(hm, .inr (5, [.int cd, .ref x1, .ref x2, .ref x3, .ref x4, .ref x5, .ref x6, .ref x7, .int (iI ((kt : Nat) : Int)), .int (iI ((k1 : Nat) : Int)), .int (iI ((k2 : Nat) : Int)), .int (iI ((k3 : Nat) : Int)), .int (iI ((k4 : Nat) : Int)), .int (iI ((k5 : Nat) : Int)), .ref y1, .ref y2, .ref y3, .ref y4, .ref y5, .ref y6, .ref y7, .int (iI ((ms9 : Nat) : Int)), .int (iI ((kw : Nat) : Int)), .int (iI ((kd : Nat) : Int)), .int (iI ((ma : Nat) : Int)), .int (iI (lk : Int))])), (x2, .inl (cI, 300, .inl g1)), (x3, .inl (cI, 300, .inl g2)), (y1, .inl (cI, 300, .inl (kA P9))), (y2, .inl (cI, 300, .inl (kA L9))), (y3, .inl (cI, 300, .inl (kA S9)))]) hK hP hD hS hA [0, 1, 2] [3, 4, 5] [3, 4, 5, 0, 1, 2] ⟨⟨rfl, rfl, by decide⟩, rfl, by decide, by decide⟩ (fun _ => ⟨rfl, rfl⟩) (by decide) (fun hPc hDc => va_runV (As := [.int (iI ((p0 : Nat) : Int)), .int (iI ((q : Nat) : Int))]) (rest := []) ⟨hx, hb, hml, hown, hts⟩ (c_Mo_runOf l D cI cZ (hm := hm) (cd := cd) (x1 := x1) (x2 := x2) (x3 := x3) (x4 := x4) (x5 := x5) (x6 := x6) (x7 := x7) (kt := kt) (k1 := k1) (k2 := k2) (k3 := k3) (k4 := k4) (k5 := k5) (y1 := y1) (y2 := y2) (y3 := y3) (y4 := y4) (y5 := y5) (y6 := y6) (y7 := y7) (ms := ms9) (kw := kw) (kd := kd) (ma := ma) (lk := lk) (g1 := g1) (g2 := g2) (p0 := p0) (q0 := q) (hk1 := by omega) (hk2 := by omega) (hp0 := by omega) (hq0 := by omega) _) (cwV 2 hts (kgV wm596 wm598 wm26 wm44 wmcX5_runOf) rfl rfl rfl (by decide +kernel) ⟨Nat.le_of_ble_eq_true rfl, Nat.le_of_ble_eq_true rfl⟩) (k_preV hK hPc hDc (ci := 5) (q0 := 0) rfl rfl) rfl rfl hl.1 rfl (lv_room (Nat.le_of_ble_eq_true rfl)) dX5_findSteps_35 ⟨Nat.le_of_ble_eq_true rfl, Nat.le_of_ble_eq_true rfl⟩) (fun r35 u H locs hw hP hD hS => ?_)
              have hP : va_P D vwCl [(hm, .inr (5, [.int cd, .ref x1, .ref x2, .ref x3, .ref x4, .ref x5, .ref x6, .ref x7, .int (iI ((kt : Nat) : Int)), .int (iI ((k1 : Nat) : Int)), .int (iI ((k2 : Nat) : Int)), .int (iI ((k3 : Nat) : Int)), .int (iI ((k4 : Nat) : Int)), .int (iI ((k5 : Nat) : Int)), .ref y1, .ref y2, .ref y3, .ref y4, .ref y5, .ref y6, .ref y7, .int (iI ((ms9 : Nat) : Int)), .int (iI ((kw : Nat) : Int)), .int (iI ((kd : Nat) : Int)), .int (iI ((ma : Nat) : Int)), .int (iI (lk : Int))])), (x2, .inl (cI, 300, .inl g1)), (x3, .inl (cI, 300, .inl g2)), (y1, .inl (cI, 300, .inl (kA P9))), (y2, .inl (cI, 300, .inl (kA L9))), (y3, .inl (cI, 300, .inl (kA S9)))] H := hP
              have hD : va_D A [(hm, .inr (5, [.int cd, .ref x1, .ref x2, .ref x3, .ref x4, .ref x5, .ref x6, .ref x7, .int (iI ((kt : Nat) : Int)), .int (iI ((k1 : Nat) : Int)), .int (iI ((k2 : Nat) : Int)), .int (iI ((k3 : Nat) : Int)), .int (iI ((k4 : Nat) : Int)), .int (iI ((k5 : Nat) : Int)), .ref y1, .ref y2, .ref y3, .ref y4, .ref y5, .ref y6, .ref y7, .int (iI ((ms9 : Nat) : Int)), .int (iI ((kw : Nat) : Int)), .int (iI ((kd : Nat) : Int)), .int (iI ((ma : Nat) : Int)), .int (iI (lk : Int))])), (x2, .inl (cI, 300, .inl g1)), (x3, .inl (cI, 300, .inl g2)), (y1, .inl (cI, 300, .inl (kA P9))), (y2, .inl (cI, 300, .inl (kA L9))), (y3, .inl (cI, 300, .inl (kA S9)))] := hD
              refine W.widen (k := 0) (n := 0) (Nat.le_of_ble_eq_true rfl) (Nat.le_of_ble_eq_true rfl) ?_
              have hw : r35 = iI ((lr g2 g1 k2 k1 p0 q : Nat) : Int) := hw
              subst hw
              refine lv_istore (lv' := [(5, .int (iI ((lr g2 g1 k2 k1 p0 q : Nat) : Int))), (0, .ref hm), (1, .int (iI ((p0 : Nat) : Int))), (2, .int (iI (bsM (lr g2 g1 k2 k1 p0) q : Int))), (3, .int (iI ((max 3 (mxR (lr g2 g1 k2 k1 p0) q) : Nat) : Int))), (4, .int (iI ((q : Nat) : Int)))]) hx hb dX5_findSteps_38 hl (by decide) rfl (fun ls hl => ?_)
              refine lv_iload hx hb dX5_findSteps_40 (lv_at hl 0 rfl) ?_
              refine lv_iload_n hx hb dX5_findSteps_42 rfl (lv_at hl 4 rfl) ?_
              refine lv_icmp_gt (tgt := 49) hx hb dX5_findSteps_43 (by decide) (fun c43 => ?_) (fun c43 => ?_)
              · skip
                have c43 := iI_ltT (a := ((max 3 (mxR (lr g2 g1 k2 k1 p0) q) : Nat) : Int)) (b := ((lr g2 g1 k2 k1 p0 q : Nat) : Int)) c43 (by omega)
                refine lv_iload hx hb dX5_findSteps_49 (lv_at hl 0 rfl) ?_
                refine lv_istore_n (lv' := [(3, .int (iI ((lr g2 g1 k2 k1 p0 q : Nat) : Int))), (5, .int (iI ((lr g2 g1 k2 k1 p0 q : Nat) : Int))), (0, .ref hm), (1, .int (iI ((p0 : Nat) : Int))), (2, .int (iI (bsM (lr g2 g1 k2 k1 p0) q : Int))), (4, .int (iI ((q : Nat) : Int)))]) hx hb dX5_findSteps_51 rfl hl (by decide) rfl (fun ls hl => ?_)
                refine lv_iload hx hb dX5_findSteps_52 (lv_at hl 5 rfl) ?_
                refine lv_istore_n (lv' := [(2, .int (iI ((q : Nat) : Int))), (3, .int (iI ((lr g2 g1 k2 k1 p0 q : Nat) : Int))), (5, .int (iI ((lr g2 g1 k2 k1 p0 q : Nat) : Int))), (0, .ref hm), (1, .int (iI ((p0 : Nat) : Int))), (4, .int (iI ((q : Nat) : Int)))]) hx hb dX5_findSteps_54 rfl hl (by decide) rfl (fun ls hl => ?_)
                refine lv_iinc (v := iI ((q + 1 : Nat) : Int)) (lv' := [(4, .int (iI ((q + 1 : Nat) : Int))), (2, .int (iI ((q : Nat) : Int))), (3, .int (iI ((lr g2 g1 k2 k1 p0 q : Nat) : Int))), (5, .int (iI ((lr g2 g1 k2 k1 p0 q : Nat) : Int))), (0, .ref hm), (1, .int (iI ((p0 : Nat) : Int)))]) hx hb dX5_findSteps_55 hl (k := 5) rfl (iA (by omega)) (by decide) rfl (fun ls hl => ?_)
                refine lv_goto (tgt := 22) hx hb dX5_findSteps_58 (by decide) ?_
                have hl9 : lv_has ls 6 [(0, .ref hm), (1, .int (iI ((p0 : Nat) : Int))), (2, .int (iI (bsM (lr g2 g1 k2 k1 p0) (q + 1) : Int))), (3, .int (iI ((max 3 (mxR (lr g2 g1 k2 k1 p0) (q + 1)) : Nat) : Int))), (4, .int (iI (((q + 1) : Nat) : Int)))] := by
                  have hl := lv_sub hl [4, 5, 1, 2, 0] rfl
                  rw [(msM_f (r := (lr g2 g1 k2 k1 p0)) (q := q) (by omega)).1, (msM_f (r := (lr g2 g1 k2 k1 p0)) (q := q) (by omega)).2]
                  exact hl
                exact ih22 (q + 1) _ _ _ (by omega) (by omega) hP hD hS hl9
              · skip
                have c43 := iI_ltF (a := ((max 3 (mxR (lr g2 g1 k2 k1 p0) q) : Nat) : Int)) (b := ((lr g2 g1 k2 k1 p0 q : Nat) : Int)) c43 (by omega)
                refine lv_goto (tgt := 55) hx hb dX5_findSteps_46 (by decide) ?_
                refine lv_iinc (v := iI ((q + 1 : Nat) : Int)) (lv' := [(4, .int (iI ((q + 1 : Nat) : Int))), (5, .int (iI ((lr g2 g1 k2 k1 p0 q : Nat) : Int))), (0, .ref hm), (1, .int (iI ((p0 : Nat) : Int))), (2, .int (iI (bsM (lr g2 g1 k2 k1 p0) q : Int))), (3, .int (iI ((max 3 (mxR (lr g2 g1 k2 k1 p0) q) : Nat) : Int)))]) hx hb dX5_findSteps_55 hl (k := 5) rfl (iA (by omega)) (by decide) rfl (fun ls hl => ?_)
                refine lv_goto (tgt := 22) hx hb dX5_findSteps_58 (by decide) ?_
                have hl9 : lv_has ls 6 [(0, .ref hm), (1, .int (iI ((p0 : Nat) : Int))), (2, .int (iI (bsM (lr g2 g1 k2 k1 p0) (q + 1) : Int))), (3, .int (iI ((max 3 (mxR (lr g2 g1 k2 k1 p0) (q + 1)) : Nat) : Int))), (4, .int (iI (((q + 1) : Nat) : Int)))] := by
                  have hl := lv_sub hl [2, 3, 4, 5, 0] rfl
                  rw [(msM_t (r := (lr g2 g1 k2 k1 p0)) (q := q) (by omega)).1, (msM_t (r := (lr g2 g1 k2 k1 p0)) (q := q) (by omega)).2]
                  exact hl
                exact ih22 (q + 1) _ _ _ (by omega) (by omega) hP hD hS hl9
        exact lp22 _ 0 _ _ _ (Nat.lt_succ_self _) (by omega) hP hD hS (lv_sub hl [3, 4, 2, 1, 0] rfl)
  exact lp7 _ 0 0 0 P L S _ _ _ (Nat.lt_succ_self _) (by omega) (by omega) (LW_0 P L S k1) (by rfl) hP hD hS (lv_sub hl [1, 0] rfl)
