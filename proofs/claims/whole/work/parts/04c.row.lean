abbrev rm_c_Row_sameFrom : Room := { frames := 1, cells := 0, slots := 0, locals := 15 }
set_option maxHeartbeats 4000000 in
set_option maxRecDepth 100000 in
theorem c_Row_sameFrom (l : Launch) (D : va_G) (cI cZ : ClassId) (h : Nat) (a : Nat) (M : Nat) (n : Nat) (f : Nat → Int32) (h2 : Nat) (a2 : Nat) (M2 : Nat) (n2 : Nat) (g : Nat → Int32) (i : Nat) (j : Nat) (hM : M ≤ 900) (hn : n ≤ M) (hM2 : M2 ≤ 900) (hn2 : n2 ≤ M2) (hi : i ≤ n) (hj : j ≤ n2) : MI l yX3_sameFrom wsX3_sameFrom rm_c_Row_sameFrom D (kT cI cZ) [.ref h, .int (iI ((i : Nat) : Int)), .ref h2, .int (iI ((j : Nat) : Int))] [(h, .inr (3, [.ref a, .int (iI ((n : Nat) : Int))])), (a, .inl (cI, M, .inl f)), (h2, .inr (3, [.ref a2, .int (iI ((n2 : Nat) : Int))])), (a2, .inl (cI, M2, .inl g))] (fun (r : Int32) (_ : Unit) => r = iI ((lcp f g i j (min (n - i) (n2 - j)) : Nat) : Int)) (fun (u : Unit) => match u with | _ => [(h, .inr (3, [.ref a, .int (iI ((n : Nat) : Int))])), (a, .inl (cI, M, .inl f)), (h2, .inr (3, [.ref a2, .int (iI ((n2 : Nat) : Int))])), (a2, .inl (cI, M2, .inl g))]) 0 0 := by
  intro sz
  refine k_of (cc := cX3_sameFrom) (maxL := 6) (ret := (some .int)) (by decide) rfl (Nat.le_of_ble_eq_true rfl) ?_
  intro p e s m args below meth c A Q hAe hQ hx hb hr hml hts hown hlocks hnm hP hK hD hS hA ls hl
  have hl : lv_has ls 6 [(0, .ref h), (1, .int (iI ((i : Nat) : Int))), (2, .ref h2), (3, .int (iI ((j : Nat) : Int)))] := hl
  have hi_X3 : ∀ w ∈ u_ws RX3 TX3 2, w ∈ wsX3_sameFrom := fun w h => km (ikX3 w h)
  have fl21 := hts _ (km wm63)
  have fl15 := hts _ (km wm62)
  refine lv_iload_n hx hb dX3_sameFrom_0 rfl (lv_at hl 1 rfl) ?_
  refine lv_if_lt (tgt := 8) hx hb dX3_sameFrom_1 (by decide) (fun c1 => ?_) (fun c1 => ?_)
  · skip
    have c1 := iI_ltT (a := ((i : Nat) : Int)) (b := (0 : Int)) c1 (by omega)
    omega
  · skip
    have c1 := iI_ltF (a := ((i : Nat) : Int)) (b := (0 : Int)) c1 (by omega)
    refine lv_iload_n hx hb dX3_sameFrom_4 rfl (lv_at hl 3 rfl) ?_
    refine lv_if_ge (tgt := 10) hx hb dX3_sameFrom_5 (by decide) (fun c5 => ?_) (fun c5 => ?_)
    · skip
      have c5 := iI_leT (a := (0 : Int)) (b := ((j : Nat) : Int)) c5 (by omega)
      refine lv_aload_n hx hb dX3_sameFrom_10 rfl (lv_at hl 0 rfl) ?_
      refine va_get (D := D) (ci := 3) (v := .int (iI ((n : Nat) : Int))) (C := RX3) (T := TX3) (N := 2) hx hb hts hi_X3 hown hK hP 0 rfl rfl 1 (by decide) fl21 (fun _ h9 => h9) rfl dX3_sameFrom_11 ?_
      refine lv_iload_n hx hb dX3_sameFrom_14 rfl (lv_at hl 1 rfl) ?_
      refine lv_isub hx hb dX3_sameFrom_15 ?_
      refine kn_i (iB (c := (((n - i) : Nat) : Int)) (by omega)) ?_
      refine lv_aload_n hx hb dX3_sameFrom_16 rfl (lv_at hl 2 rfl) ?_
      refine va_get (D := D) (ci := 3) (v := .int (iI ((n2 : Nat) : Int))) (C := RX3) (T := TX3) (N := 2) hx hb hts hi_X3 hown hK hP 2 rfl rfl 1 (by decide) fl21 (fun _ h9 => h9) rfl dX3_sameFrom_17 ?_
      refine lv_iload_n hx hb dX3_sameFrom_20 rfl (lv_at hl 3 rfl) ?_
      refine lv_isub hx hb dX3_sameFrom_21 ?_
      refine kn_i (iB (c := (((n2 - j) : Nat) : Int)) (by omega)) ?_
      refine va_mmin hx hb (by rw [hml]; exact hl.1.symm) hown (hts _ (km wm221)) (hts _ (km wm222)) (hts _ (km wm40)) (hts _ (km wm223)) (Nat.le_of_ble_eq_true rfl) (Nat.le_of_ble_eq_true rfl) (Nat.zero_le _) (Nat.zero_le _) dX3_sameFrom_22 ?_
      refine kn_i (imin (c := ((min (n - i) (n2 - j) : Nat) : Int)) (by omega) (by omega)) ?_
      refine lv_istore (lv' := [(4, .int (iI ((min (n - i) (n2 - j) : Nat) : Int))), (0, .ref h), (1, .int (iI ((i : Nat) : Int))), (2, .ref h2), (3, .int (iI ((j : Nat) : Int)))]) hx hb dX3_sameFrom_25 hl (by decide) rfl (fun ls hl => ?_)
      refine lv_iconst (v := iI ((0 : Nat) : Int)) hx hb dX3_sameFrom_27 rfl ?_
      refine lv_istore (lv' := [(5, .int (iI ((0 : Nat) : Int))), (4, .int (iI ((min (n - i) (n2 - j) : Nat) : Int))), (0, .ref h), (1, .int (iI ((i : Nat) : Int))), (2, .ref h2), (3, .int (iI ((j : Nat) : Int)))]) hx hb dX3_sameFrom_28 hl (by decide) rfl (fun ls hl => ?_)
      have lp30 : ∀ (fu : Nat) (t : Nat) (H : Heap) (locs : List Loc) (ls : Array Slot), min (n - i) (n2 - j) - t < fu → (t ≤ min (n - i) (n2 - j)) → (lcp f g i j (min (n - i) (n2 - j)) = t + lcp f g (i + t) (j + t) (min (n - i) (n2 - j) - t)) → va_P D vwCl [(h, .inr (3, [.ref a, .int (iI ((n : Nat) : Int))])), (a, .inl (cI, M, .inl f)), (h2, .inr (3, [.ref a2, .int (iI ((n2 : Nat) : Int))])), (a2, .inl (cI, M2, .inl g))] H → va_D A [(h, .inr (3, [.ref a, .int (iI ((n : Nat) : Int))])), (a, .inl (cI, M, .inl f)), (h2, .inr (3, [.ref a2, .int (iI ((n2 : Nat) : Int))])), (a2, .inl (cI, M2, .inl g))] → va_S A s.heap H locs → lv_has ls 6 [(0, .ref h), (1, .int (iI ((i : Nat) : Int))), (2, .ref h2), (3, .int (iI ((j : Nat) : Int))), (4, .int (iI ((min (n - i) (n2 - j) : Nat) : Int))), (5, .int (iI ((t : Nat) : Int)))] → W p l e rm_c_Row_sameFrom s m args below meth c H locs 0 0 Q (F0 m 30 ls []) := by
        intro fu
        induction fu with
        | zero => intro t H locs ls hfu; exact absurd hfu (Nat.not_lt_zero _)
        | succ fu ih30 =>
          intro t H locs ls hfu ht hI hP hD hS hl
          refine lv_iload hx hb dX3_sameFrom_30 (lv_at hl 5 rfl) ?_
          refine lv_iload hx hb dX3_sameFrom_32 (lv_at hl 4 rfl) ?_
          refine lv_icmp_ge (tgt := 64) hx hb dX3_sameFrom_34 (by decide) (fun c34 => ?_) (fun c34 => ?_)
          · skip
            have c34 := iI_leT (a := ((min (n - i) (n2 - j) : Nat) : Int)) (b := ((t : Nat) : Int)) c34 (by omega)
            refine lv_iload hx hb dX3_sameFrom_64 (lv_at hl 5 rfl) ?_
            exact k_iret () hx hb hr hlocks hK hP hD hS [0, 1, 2, 3] (by decide) rfl rfl (by rw [hI]; first | (rw [lcp_n c55]; rfl) | (rw [lcp_0 (by omega)]; rfl)) hAe hQ dX3_sameFrom_66
          · skip
            have c34 := iI_leF (a := ((min (n - i) (n2 - j) : Nat) : Int)) (b := ((t : Nat) : Int)) c34 (by omega)
            refine lv_aload_n hx hb dX3_sameFrom_37 rfl (lv_at hl 0 rfl) ?_
            refine va_get (D := D) (ci := 3) (v := .ref a) (C := RX3) (T := TX3) (N := 2) hx hb hts hi_X3 hown hK hP 0 rfl rfl 0 (by decide) fl15 (fun _ h9 => h9) rfl dX3_sameFrom_38 ?_
            refine lv_iload_n hx hb dX3_sameFrom_41 rfl (lv_at hl 1 rfl) ?_
            refine lv_iload hx hb dX3_sameFrom_42 (lv_at hl 5 rfl) ?_
            refine lv_iadd hx hb dX3_sameFrom_44 ?_
            refine kn_i (iA (c := (((i + t) : Nat) : Int)) (by omega)) ?_
            refine k_iald hx hb hK hP 1 0 rfl rfl (i + t) (by omega) dX3_sameFrom_45 ?_
            refine lv_aload_n hx hb dX3_sameFrom_46 rfl (lv_at hl 2 rfl) ?_
            refine va_get (D := D) (ci := 3) (v := .ref a2) (C := RX3) (T := TX3) (N := 2) hx hb hts hi_X3 hown hK hP 2 rfl rfl 0 (by decide) fl15 (fun _ h9 => h9) rfl dX3_sameFrom_47 ?_
            refine lv_iload_n hx hb dX3_sameFrom_50 rfl (lv_at hl 3 rfl) ?_
            refine lv_iload hx hb dX3_sameFrom_51 (lv_at hl 5 rfl) ?_
            refine lv_iadd hx hb dX3_sameFrom_53 ?_
            refine kn_i (iA (c := (((j + t) : Nat) : Int)) (by omega)) ?_
            refine k_iald hx hb hK hP 3 0 rfl rfl (j + t) (by omega) dX3_sameFrom_54 ?_
            refine lv_icmp_ne (tgt := 64) hx hb dX3_sameFrom_55 (by decide) (fun c55 => ?_) (fun c55 => ?_)
            · skip
              refine lv_iload hx hb dX3_sameFrom_64 (lv_at hl 5 rfl) ?_
              exact k_iret () hx hb hr hlocks hK hP hD hS [0, 1, 2, 3] (by decide) rfl rfl (by rw [hI]; first | (rw [lcp_n c55]; rfl) | (rw [lcp_0 (by omega)]; rfl)) hAe hQ dX3_sameFrom_66
            · skip
              refine lv_iinc (v := iI ((t + 1 : Nat) : Int)) (lv' := [(5, .int (iI ((t + 1 : Nat) : Int))), (0, .ref h), (1, .int (iI ((i : Nat) : Int))), (2, .ref h2), (3, .int (iI ((j : Nat) : Int))), (4, .int (iI ((min (n - i) (n2 - j) : Nat) : Int)))]) hx hb dX3_sameFrom_58 hl (k := 5) rfl (iA (by omega)) (by decide) rfl (fun ls hl => ?_)
              refine lv_goto (tgt := 30) hx hb dX3_sameFrom_61 (by decide) ?_
              exact ih30 (t + 1) _ _ _ (by omega) (by omega) (by rw [hI, lcp_s (by omega) c55]; simp only [Nat.sub_sub, Nat.add_assoc]; omega) hP hD hS (lv_sub hl [1, 2, 3, 4, 5, 0] rfl)
      exact lp30 _ 0 _ _ _ (Nat.lt_succ_self _) (by omega) (by simp) hP hD hS (lv_sub hl [2, 3, 4, 5, 1, 0] rfl)
    · skip
      have c5 := iI_leF (a := (0 : Int)) (b := ((j : Nat) : Int)) c5 (by omega)
      omega

abbrev rm_c_Row_addVarint : Room := { frames := 1, cells := 0, slots := 0, locals := 21 }
set_option maxHeartbeats 4000000 in
set_option maxRecDepth 100000 in
theorem c_Row_addVarint (l : Launch) (D : va_G) (cI cZ : ClassId) (h : Nat) (a : Nat) (M : Nat) (n : Nat) (f : Nat → Int32) (v : Nat) (hM : M ≤ 900) (hn : n + 4 ≤ M) (hv : v < 268435456) : MV l yX3_addVarint wsX3_addVarint rm_c_Row_addVarint D (kT cI cZ) [.ref h, .int (iI ((v : Nat) : Int))] [(h, .inr (3, [.ref a, .int (iI ((n : Nat) : Int))])), (a, .inl (cI, M, .inl f))] (fun (_ : Unit) => True) (fun (u : Unit) => match u with | _ => [(h, .inr (3, [.ref a, .int (iI ((n + (vb 3 v).length : Nat) : Int))])), (a, .inl (cI, M, .inl (apL f n (vb 3 v))))]) 0 0 := by
  intro sz
  refine k_of (cc := cX3_addVarint) (maxL := 4) (ret := none) (by decide) rfl (Nat.le_of_ble_eq_true rfl) ?_
  intro p e s m args below meth c A Q hAe hQ hx hb hr hml hts hown hlocks hnm hP hK hD hS hA ls hl
  have hl : lv_has ls 4 [(0, .ref h), (1, .int (iI ((v : Nat) : Int)))] := hl
  refine lv_iload_n hx hb dX3_addVarint_0 rfl (lv_at hl 1 rfl) ?_
  refine lv_istore_n (lv' := [(2, .int (iI ((v : Nat) : Int))), (0, .ref h), (1, .int (iI ((v : Nat) : Int)))]) hx hb dX3_addVarint_1 rfl hl (by decide) rfl (fun ls hl => ?_)
  refine lv_iconst (v := iI ((1 : Nat) : Int)) hx hb dX3_addVarint_2 rfl ?_
  refine lv_istore_n (lv' := [(3, .int (iI ((1 : Nat) : Int))), (2, .int (iI ((v : Nat) : Int))), (0, .ref h), (1, .int (iI ((v : Nat) : Int)))]) hx hb dX3_addVarint_3 rfl hl (by decide) rfl (fun ls hl => ?_)
  have lp4 : ∀ (fu : Nat) (k : Nat) (w : Nat) (P : List Int32) (H : Heap) (locs : List Loc) (ls : Array Slot), 4 - k < fu → (1 ≤ k ∧ k ≤ 4) → (w < 268435456) → (vb 3 v = P ++ vb (4 - k) w) → (P.length + 1 = k) → va_P D vwCl [(h, .inr (3, [.ref a, .int (iI ((n + P.length : Nat) : Int))])), (a, .inl (cI, M, .inl (apL f n P)))] H → va_D A [(h, .inr (3, [.ref a, .int (iI ((n + P.length : Nat) : Int))])), (a, .inl (cI, M, .inl (apL f n P)))] → va_S A s.heap H locs → lv_has ls 4 [(0, .ref h), (2, .int (iI ((w : Nat) : Int))), (3, .int (iI ((k : Nat) : Int)))] → W p l e rm_c_Row_addVarint s m args below meth c H locs 0 0 Q (F0 m 4 ls []) := by
    intro fu
    induction fu with
    | zero => intro k w P H locs ls hfu; exact absurd hfu (Nat.not_lt_zero _)
    | succ fu ih4 =>
      intro k w P H locs ls hfu hk hw hPv hL hP hD hS hl
      refine lv_iload_n hx hb dX3_addVarint_4 rfl (lv_at hl 2 rfl) ?_
      refine lv_iconst (v := iI (4 : Int)) hx hb dX3_addVarint_5 rfl ?_
      refine lv_icmp_ge (tgt := 38) hx hb dX3_addVarint_6 (by decide) (fun c6 => ?_) (fun c6 => ?_)
      · skip
        have c6 := iI_leT (a := (4 : Int)) (b := ((k : Nat) : Int)) c6 (by omega)
        refine lv_aload_n hx hb dX3_addVarint_38 rfl (lv_at hl 0 rfl) ?_
        refine lv_iload_n hx hb dX3_addVarint_39 rfl (lv_at hl 1 rfl) ?_
        refine lv_bipush (v := iI (127 : Int)) hx hb dX3_addVarint_40 (by decide) ?_
        refine lv_iand hx hb dX3_addVarint_42 ?_
        refine kn_i (y := iI ((w % 128 : Nat) : Int)) (b_and127 (by omega)) ?_
        have hE : vb 3 v = P ++ [iI ((w % 128 : Nat) : Int)] := by rw [hPv, vb_stop (by omega)]
        refine k_callv (wc := [(h, .inr (3, [.ref a, .int (iI ((n + P.length : Nat) : Int))])), (a, .inl (cI, M, .inl (apL f n P)))]) (wr := []) (wf := fun _ => [(h, .inr (3, [.ref a, .int (iI (((n + P.length) + 1 : Nat) : Int))])), (a, .inl (cI, M, .inl (apL (apL f n P) (n + P.length) [(iI ((w % 128 : Nat) : Int))])))]) hK hP hD hS hA [0, 1] [] [0, 1] ⟨⟨rfl, rfl, by decide⟩, rfl, by decide, by decide⟩ (fun _ => ⟨rfl, rfl⟩) (by decide) (fun hPc hDc => va_runV (As := [.int (iI ((w % 128 : Nat) : Int))]) (rest := []) ⟨hx, hb, hml, hown, hts⟩ (c_Row_add l D cI cZ (h := h) (a := a) (M := M) (n := n + P.length) (f := (apL f n P)) (x := iI ((w % 128 : Nat) : Int)) (hM := by omega) (hn := by omega) _) (cwV 1 hts (kgV wm228 wm197 wm198 wm39 wmcX3_add) rfl rfl rfl (by decide +kernel) ⟨Nat.le_of_ble_eq_true rfl, Nat.le_of_ble_eq_true rfl⟩) (k_preV hK hPc hDc (ci := 3) (q0 := 0) rfl rfl) rfl rfl hl.1 rfl (lv_room (Nat.le_of_ble_eq_true rfl)) dX3_addVarint_43 ⟨Nat.le_of_ble_eq_true rfl, Nat.le_of_ble_eq_true rfl⟩) (fun u H locs hw hP hD hS => ?_)
        have hP : va_P D vwCl [(h, .inr (3, [.ref a, .int (iI (((n + P.length) + 1 : Nat) : Int))])), (a, .inl (cI, M, .inl (apL (apL f n P) (n + P.length) [(iI ((w % 128 : Nat) : Int))])))] H := hP
        have hD : va_D A [(h, .inr (3, [.ref a, .int (iI (((n + P.length) + 1 : Nat) : Int))])), (a, .inl (cI, M, .inl (apL (apL f n P) (n + P.length) [(iI ((w % 128 : Nat) : Int))])))] := hD
        refine W.widen (k := 0) (n := 0) (Nat.le_of_ble_eq_true rfl) (Nat.le_of_ble_eq_true rfl) ?_
        rw [show (apL (apL f n P) (n + P.length) [(iI ((w % 128 : Nat) : Int))]) = (apL f n (vb 3 v)) from (by rw [hE]; exact apL_at rfl _)] at hP hD
        rw [show iI (((n + P.length) + 1 : Nat) : Int) = iI ((n + (vb 3 v).length : Nat) : Int) from (by rw [hE, List.length_append]; rfl)] at hP hD
        exact k_vret () hx hb hr hlocks hK hP hD hS [0, 1] (by decide) rfl rfl (trivial) hAe hQ dX3_addVarint_46
      · skip
        have c6 := iI_leF (a := (4 : Int)) (b := ((k : Nat) : Int)) c6 (by omega)
        refine lv_iload_n hx hb dX3_addVarint_9 rfl (lv_at hl 1 rfl) ?_
        refine lv_bipush (v := iI (127 : Int)) hx hb dX3_addVarint_10 (by decide) ?_
        refine lv_icmp_le (tgt := 38) hx hb dX3_addVarint_12 (by decide) (fun c12 => ?_) (fun c12 => ?_)
        · skip
          have c12 := iI_leT (a := ((w : Nat) : Int)) (b := (127 : Int)) c12 (by omega)
          refine lv_aload_n hx hb dX3_addVarint_38 rfl (lv_at hl 0 rfl) ?_
          refine lv_iload_n hx hb dX3_addVarint_39 rfl (lv_at hl 1 rfl) ?_
          refine lv_bipush (v := iI (127 : Int)) hx hb dX3_addVarint_40 (by decide) ?_
          refine lv_iand hx hb dX3_addVarint_42 ?_
          refine kn_i (y := iI ((w % 128 : Nat) : Int)) (b_and127 (by omega)) ?_
          have hE : vb 3 v = P ++ [iI ((w % 128 : Nat) : Int)] := by rw [hPv, vb_stop (by omega)]
          refine k_callv (wc := [(h, .inr (3, [.ref a, .int (iI ((n + P.length : Nat) : Int))])), (a, .inl (cI, M, .inl (apL f n P)))]) (wr := []) (wf := fun _ => [(h, .inr (3, [.ref a, .int (iI (((n + P.length) + 1 : Nat) : Int))])), (a, .inl (cI, M, .inl (apL (apL f n P) (n + P.length) [(iI ((w % 128 : Nat) : Int))])))]) hK hP hD hS hA [0, 1] [] [0, 1] ⟨⟨rfl, rfl, by decide⟩, rfl, by decide, by decide⟩ (fun _ => ⟨rfl, rfl⟩) (by decide) (fun hPc hDc => va_runV (As := [.int (iI ((w % 128 : Nat) : Int))]) (rest := []) ⟨hx, hb, hml, hown, hts⟩ (c_Row_add l D cI cZ (h := h) (a := a) (M := M) (n := n + P.length) (f := (apL f n P)) (x := iI ((w % 128 : Nat) : Int)) (hM := by omega) (hn := by omega) _) (cwV 1 hts (kgV wm228 wm197 wm198 wm39 wmcX3_add) rfl rfl rfl (by decide +kernel) ⟨Nat.le_of_ble_eq_true rfl, Nat.le_of_ble_eq_true rfl⟩) (k_preV hK hPc hDc (ci := 3) (q0 := 0) rfl rfl) rfl rfl hl.1 rfl (lv_room (Nat.le_of_ble_eq_true rfl)) dX3_addVarint_43 ⟨Nat.le_of_ble_eq_true rfl, Nat.le_of_ble_eq_true rfl⟩) (fun u H locs hw hP hD hS => ?_)
          have hP : va_P D vwCl [(h, .inr (3, [.ref a, .int (iI (((n + P.length) + 1 : Nat) : Int))])), (a, .inl (cI, M, .inl (apL (apL f n P) (n + P.length) [(iI ((w % 128 : Nat) : Int))])))] H := hP
          have hD : va_D A [(h, .inr (3, [.ref a, .int (iI (((n + P.length) + 1 : Nat) : Int))])), (a, .inl (cI, M, .inl (apL (apL f n P) (n + P.length) [(iI ((w % 128 : Nat) : Int))])))] := hD
          refine W.widen (k := 0) (n := 0) (Nat.le_of_ble_eq_true rfl) (Nat.le_of_ble_eq_true rfl) ?_
          rw [show (apL (apL f n P) (n + P.length) [(iI ((w % 128 : Nat) : Int))]) = (apL f n (vb 3 v)) from (by rw [hE]; exact apL_at rfl _)] at hP hD
          rw [show iI (((n + P.length) + 1 : Nat) : Int) = iI ((n + (vb 3 v).length : Nat) : Int) from (by rw [hE, List.length_append]; rfl)] at hP hD
          exact k_vret () hx hb hr hlocks hK hP hD hS [0, 1] (by decide) rfl rfl (trivial) hAe hQ dX3_addVarint_46
        · skip
          have c12 := iI_leF (a := ((w : Nat) : Int)) (b := (127 : Int)) c12 (by omega)
          refine lv_aload_n hx hb dX3_addVarint_15 rfl (lv_at hl 0 rfl) ?_
          refine lv_iload_n hx hb dX3_addVarint_16 rfl (lv_at hl 1 rfl) ?_
          refine lv_bipush (v := iI (127 : Int)) hx hb dX3_addVarint_17 (by decide) ?_
          refine lv_iand hx hb dX3_addVarint_19 ?_
          refine kn_i (y := iI ((w % 128 : Nat) : Int)) (b_and127 (by omega)) ?_
          refine lv_sipush (v := iI (128 : Int)) hx hb dX3_addVarint_20 (by decide) ?_
          refine lv_ior hx hb dX3_addVarint_23 ?_
          refine kn_i (y := iI ((w % 128 + 128 : Nat) : Int)) (b_or128 _ (Nat.mod_lt _ (by decide))) ?_
          refine k_callv (wc := [(h, .inr (3, [.ref a, .int (iI ((n + P.length : Nat) : Int))])), (a, .inl (cI, M, .inl (apL f n P)))]) (wr := []) (wf := fun _ => [(h, .inr (3, [.ref a, .int (iI (((n + P.length) + 1 : Nat) : Int))])), (a, .inl (cI, M, .inl (apL (apL f n P) (n + P.length) [(iI ((w % 128 + 128 : Nat) : Int))])))]) hK hP hD hS hA [0, 1] [] [0, 1] ⟨⟨rfl, rfl, by decide⟩, rfl, by decide, by decide⟩ (fun _ => ⟨rfl, rfl⟩) (by decide) (fun hPc hDc => va_runV (As := [.int (iI ((w % 128 + 128 : Nat) : Int))]) (rest := []) ⟨hx, hb, hml, hown, hts⟩ (c_Row_add l D cI cZ (h := h) (a := a) (M := M) (n := n + P.length) (f := (apL f n P)) (x := iI ((w % 128 + 128 : Nat) : Int)) (hM := by omega) (hn := by omega) _) (cwV 1 hts (kgV wm228 wm197 wm198 wm39 wmcX3_add) rfl rfl rfl (by decide +kernel) ⟨Nat.le_of_ble_eq_true rfl, Nat.le_of_ble_eq_true rfl⟩) (k_preV hK hPc hDc (ci := 3) (q0 := 0) rfl rfl) rfl rfl hl.1 rfl (lv_room (Nat.le_of_ble_eq_true rfl)) dX3_addVarint_24 ⟨Nat.le_of_ble_eq_true rfl, Nat.le_of_ble_eq_true rfl⟩) (fun u H locs hw hP hD hS => ?_)
          have hP : va_P D vwCl [(h, .inr (3, [.ref a, .int (iI (((n + P.length) + 1 : Nat) : Int))])), (a, .inl (cI, M, .inl (apL (apL f n P) (n + P.length) [(iI ((w % 128 + 128 : Nat) : Int))])))] H := hP
          have hD : va_D A [(h, .inr (3, [.ref a, .int (iI (((n + P.length) + 1 : Nat) : Int))])), (a, .inl (cI, M, .inl (apL (apL f n P) (n + P.length) [(iI ((w % 128 + 128 : Nat) : Int))])))] := hD
          refine W.widen (k := 0) (n := 0) (Nat.le_of_ble_eq_true rfl) (Nat.le_of_ble_eq_true rfl) ?_
          rw [show (apL (apL f n P) (n + P.length) [(iI ((w % 128 + 128 : Nat) : Int))]) = (apL f n (P ++ [iI ((w % 128 + 128 : Nat) : Int)])) from apL_at rfl _] at hP hD
          rw [show iI (((n + P.length) + 1 : Nat) : Int) = iI ((n + (P ++ [iI ((w % 128 + 128 : Nat) : Int)]).length : Nat) : Int) from by rw [List.length_append]; rfl] at hP hD
          refine lv_iload_n hx hb dX3_addVarint_27 rfl (lv_at hl 1 rfl) ?_
          refine lv_bipush (v := iI (7 : Int)) hx hb dX3_addVarint_28 (by decide) ?_
          refine lv_iushr hx hb dX3_addVarint_30 rfl ?_
          refine kn_i (y := iI ((w / 128 : Nat) : Int)) (b_ushr7 (by omega)) ?_
          refine lv_istore_n (lv' := [(2, .int (iI ((w / 128 : Nat) : Int))), (0, .ref h), (3, .int (iI ((k : Nat) : Int)))]) hx hb dX3_addVarint_31 rfl hl (by decide) rfl (fun ls hl => ?_)
          refine lv_iinc (v := iI ((k + 1 : Nat) : Int)) (lv' := [(3, .int (iI ((k + 1 : Nat) : Int))), (2, .int (iI ((w / 128 : Nat) : Int))), (0, .ref h)]) hx hb dX3_addVarint_32 hl (k := 2) rfl (iA (by omega)) (by decide) rfl (fun ls hl => ?_)
          refine lv_goto (tgt := 4) hx hb dX3_addVarint_35 (by decide) ?_
          exact ih4 (k + 1) (w / 128) (P ++ [iI ((w % 128 + 128 : Nat) : Int)]) _ _ _ (by omega) (by omega) (by omega) (by rw [hPv, vb_step (by omega) (by omega), List.append_assoc]; rfl) (by rw [List.length_append]; show P.length + 1 + 1 = k + 1; omega) hP hD hS (lv_sub hl [2, 1, 0] rfl)
  rw [show f = (apL f n []) from (apL_nil f n).symm] at hP hD
  exact lp4 _ 1 v ([]) _ _ _ (Nat.lt_succ_self _) (by omega) (by omega) (by rfl) (by rfl) hP hD hS (lv_sub hl [2, 1, 0] rfl)

abbrev rm_c_Row_addWord : Room := { frames := 1, cells := 0, slots := 0, locals := 21 }
set_option maxHeartbeats 4000000 in
set_option maxRecDepth 100000 in
theorem c_Row_addWord (l : Launch) (D : va_G) (cI cZ : ClassId) (h : Nat) (a : Nat) (M : Nat) (n : Nat) (f : Nat → Int32) (w : Int32) (hM : M ≤ 900) (hn : n + 4 ≤ M) : MV l yX3_addWord wsX3_addWord rm_c_Row_addWord D (kT cI cZ) [.ref h, .int w] [(h, .inr (3, [.ref a, .int (iI ((n : Nat) : Int))])), (a, .inl (cI, M, .inl f))] (fun (_ : Unit) => True) (fun (u : Unit) => match u with | _ => [(h, .inr (3, [.ref a, .int (iI ((n + 4 : Nat) : Int))])), (a, .inl (cI, M, .inl (apL f n (wL w))))]) 0 0 := by
  intro sz
  refine k_of (cc := cX3_addWord) (maxL := 3) (ret := none) (by decide) rfl (Nat.le_of_ble_eq_true rfl) ?_
  intro p e s m args below meth c A Q hAe hQ hx hb hr hml hts hown hlocks hnm hP hK hD hS hA ls hl
  have hl : lv_has ls 3 [(0, .ref h), (1, .int w)] := hl
  refine lv_iconst (v := iI (3 : Int)) hx hb dX3_addWord_0 rfl ?_
  refine lv_istore_n (lv' := [(2, .int (iI (3 : Int))), (0, .ref h), (1, .int w)]) hx hb dX3_addWord_1 rfl hl (by decide) rfl (fun ls hl => ?_)
  refine lv_iload_n hx hb dX3_addWord_2 rfl (lv_at hl 0 rfl) ?_
  refine lv_if_lt (tgt := 26) hx hb dX3_addWord_3 (by decide) (fun c3 => ?_) (fun c3 => ?_)
  · skip
    have c3 := iI_ltT (a := (3 : Int)) (b := (0 : Int)) c3 (by omega)
    omega
  · skip
    have c3 := iI_ltF (a := (3 : Int)) (b := (0 : Int)) c3 (by omega)
    refine lv_aload_n hx hb dX3_addWord_6 rfl (lv_at hl 1 rfl) ?_
    refine lv_iload_n hx hb dX3_addWord_7 rfl (lv_at hl 2 rfl) ?_
    refine lv_bipush (v := iI (8 : Int)) hx hb dX3_addWord_8 (by decide) ?_
    refine lv_iload_n hx hb dX3_addWord_10 rfl (lv_at hl 0 rfl) ?_
    refine lv_imul hx hb dX3_addWord_11 ?_
    refine kn_i (iM (c := (24 : Int)) (by omega)) ?_
    refine lv_iushr hx hb dX3_addWord_12 rfl ?_
    refine lv_sipush (v := iI (255 : Int)) hx hb dX3_addWord_13 (by decide) ?_
    refine lv_iand hx hb dX3_addWord_16 ?_
    refine kn_i (y := (wB w 24)) (rfl) ?_
    refine k_callv (wc := [(h, .inr (3, [.ref a, .int (iI ((n : Nat) : Int))])), (a, .inl (cI, M, .inl f))]) (wr := []) (wf := fun _ => [(h, .inr (3, [.ref a, .int (iI ((n + 1 : Nat) : Int))])), (a, .inl (cI, M, .inl (apL f n [(wB w 24)])))]) hK hP hD hS hA [0, 1] [] [0, 1] ⟨⟨rfl, rfl, by decide⟩, rfl, by decide, by decide⟩ (fun _ => ⟨rfl, rfl⟩) (by decide) (fun hPc hDc => va_runV (As := [.int (wB w 24)]) (rest := []) ⟨hx, hb, hml, hown, hts⟩ (c_Row_add l D cI cZ (h := h) (a := a) (M := M) (n := n) (f := f) (x := (wB w 24)) (hM := by omega) (hn := by omega) _) (cwV 1 hts (kgV wm228 wm197 wm198 wm39 wmcX3_add) rfl rfl rfl (by decide +kernel) ⟨Nat.le_of_ble_eq_true rfl, Nat.le_of_ble_eq_true rfl⟩) (k_preV hK hPc hDc (ci := 3) (q0 := 0) rfl rfl) rfl rfl hl.1 rfl (lv_room (Nat.le_of_ble_eq_true rfl)) dX3_addWord_17 ⟨Nat.le_of_ble_eq_true rfl, Nat.le_of_ble_eq_true rfl⟩) (fun u H locs hw hP hD hS => ?_)
    have hP : va_P D vwCl [(h, .inr (3, [.ref a, .int (iI ((n + 1 : Nat) : Int))])), (a, .inl (cI, M, .inl (apL f n [(wB w 24)])))] H := hP
    have hD : va_D A [(h, .inr (3, [.ref a, .int (iI ((n + 1 : Nat) : Int))])), (a, .inl (cI, M, .inl (apL f n [(wB w 24)])))] := hD
    refine W.widen (k := 0) (n := 0) (Nat.le_of_ble_eq_true rfl) (Nat.le_of_ble_eq_true rfl) ?_
    refine lv_iinc (v := iI (2 : Int)) (lv' := [(2, .int (iI (2 : Int))), (0, .ref h), (1, .int w)]) hx hb dX3_addWord_20 hl (k := 0) rfl (iA (by omega)) (by decide) rfl (fun ls hl => ?_)
    refine lv_goto (tgt := 2) hx hb dX3_addWord_23 (by decide) ?_
    refine lv_iload_n hx hb dX3_addWord_2 rfl (lv_at hl 0 rfl) ?_
    refine lv_if_lt (tgt := 26) hx hb dX3_addWord_3 (by decide) (fun c3 => ?_) (fun c3 => ?_)
    · skip
      have c3 := iI_ltT (a := (2 : Int)) (b := (0 : Int)) c3 (by omega)
      omega
    · skip
      have c3 := iI_ltF (a := (2 : Int)) (b := (0 : Int)) c3 (by omega)
      refine lv_aload_n hx hb dX3_addWord_6 rfl (lv_at hl 1 rfl) ?_
      refine lv_iload_n hx hb dX3_addWord_7 rfl (lv_at hl 2 rfl) ?_
      refine lv_bipush (v := iI (8 : Int)) hx hb dX3_addWord_8 (by decide) ?_
      refine lv_iload_n hx hb dX3_addWord_10 rfl (lv_at hl 0 rfl) ?_
      refine lv_imul hx hb dX3_addWord_11 ?_
      refine kn_i (iM (c := (16 : Int)) (by omega)) ?_
      refine lv_iushr hx hb dX3_addWord_12 rfl ?_
      refine lv_sipush (v := iI (255 : Int)) hx hb dX3_addWord_13 (by decide) ?_
      refine lv_iand hx hb dX3_addWord_16 ?_
      refine kn_i (y := (wB w 16)) (rfl) ?_
      refine k_callv (wc := [(h, .inr (3, [.ref a, .int (iI ((n + 1 : Nat) : Int))])), (a, .inl (cI, M, .inl (apL f n [(wB w 24)])))]) (wr := []) (wf := fun _ => [(h, .inr (3, [.ref a, .int (iI (((n + 1) + 1 : Nat) : Int))])), (a, .inl (cI, M, .inl (apL (apL f n [(wB w 24)]) (n + 1) [(wB w 16)])))]) hK hP hD hS hA [0, 1] [] [0, 1] ⟨⟨rfl, rfl, by decide⟩, rfl, by decide, by decide⟩ (fun _ => ⟨rfl, rfl⟩) (by decide) (fun hPc hDc => va_runV (As := [.int (wB w 16)]) (rest := []) ⟨hx, hb, hml, hown, hts⟩ (c_Row_add l D cI cZ (h := h) (a := a) (M := M) (n := n + 1) (f := (apL f n [(wB w 24)])) (x := (wB w 16)) (hM := by omega) (hn := by omega) _) (cwV 1 hts (kgV wm228 wm197 wm198 wm39 wmcX3_add) rfl rfl rfl (by decide +kernel) ⟨Nat.le_of_ble_eq_true rfl, Nat.le_of_ble_eq_true rfl⟩) (k_preV hK hPc hDc (ci := 3) (q0 := 0) rfl rfl) rfl rfl hl.1 rfl (lv_room (Nat.le_of_ble_eq_true rfl)) dX3_addWord_17 ⟨Nat.le_of_ble_eq_true rfl, Nat.le_of_ble_eq_true rfl⟩) (fun u H locs hw hP hD hS => ?_)
      have hP : va_P D vwCl [(h, .inr (3, [.ref a, .int (iI (((n + 1) + 1 : Nat) : Int))])), (a, .inl (cI, M, .inl (apL (apL f n [(wB w 24)]) (n + 1) [(wB w 16)])))] H := hP
      have hD : va_D A [(h, .inr (3, [.ref a, .int (iI (((n + 1) + 1 : Nat) : Int))])), (a, .inl (cI, M, .inl (apL (apL f n [(wB w 24)]) (n + 1) [(wB w 16)])))] := hD
      refine W.widen (k := 0) (n := 0) (Nat.le_of_ble_eq_true rfl) (Nat.le_of_ble_eq_true rfl) ?_
      rw [show (apL (apL f n [(wB w 24)]) (n + 1) [(wB w 16)]) = (apL f n [wB w 24, wB w 16]) from apL_at rfl _] at hP hD
      refine lv_iinc (v := iI (1 : Int)) (lv' := [(2, .int (iI (1 : Int))), (0, .ref h), (1, .int w)]) hx hb dX3_addWord_20 hl (k := 0) rfl (iA (by omega)) (by decide) rfl (fun ls hl => ?_)
      refine lv_goto (tgt := 2) hx hb dX3_addWord_23 (by decide) ?_
      refine lv_iload_n hx hb dX3_addWord_2 rfl (lv_at hl 0 rfl) ?_
      refine lv_if_lt (tgt := 26) hx hb dX3_addWord_3 (by decide) (fun c3 => ?_) (fun c3 => ?_)
      · skip
        have c3 := iI_ltT (a := (1 : Int)) (b := (0 : Int)) c3 (by omega)
        omega
      · skip
        have c3 := iI_ltF (a := (1 : Int)) (b := (0 : Int)) c3 (by omega)
        refine lv_aload_n hx hb dX3_addWord_6 rfl (lv_at hl 1 rfl) ?_
        refine lv_iload_n hx hb dX3_addWord_7 rfl (lv_at hl 2 rfl) ?_
        refine lv_bipush (v := iI (8 : Int)) hx hb dX3_addWord_8 (by decide) ?_
        refine lv_iload_n hx hb dX3_addWord_10 rfl (lv_at hl 0 rfl) ?_
        refine lv_imul hx hb dX3_addWord_11 ?_
        refine kn_i (iM (c := (8 : Int)) (by omega)) ?_
        refine lv_iushr hx hb dX3_addWord_12 rfl ?_
        refine lv_sipush (v := iI (255 : Int)) hx hb dX3_addWord_13 (by decide) ?_
        refine lv_iand hx hb dX3_addWord_16 ?_
        refine kn_i (y := (wB w 8)) (rfl) ?_
        refine k_callv (wc := [(h, .inr (3, [.ref a, .int (iI (((n + 1) + 1 : Nat) : Int))])), (a, .inl (cI, M, .inl (apL f n [wB w 24, wB w 16])))]) (wr := []) (wf := fun _ => [(h, .inr (3, [.ref a, .int (iI ((((n + 1) + 1) + 1 : Nat) : Int))])), (a, .inl (cI, M, .inl (apL (apL f n [wB w 24, wB w 16]) ((n + 1) + 1) [(wB w 8)])))]) hK hP hD hS hA [0, 1] [] [0, 1] ⟨⟨rfl, rfl, by decide⟩, rfl, by decide, by decide⟩ (fun _ => ⟨rfl, rfl⟩) (by decide) (fun hPc hDc => va_runV (As := [.int (wB w 8)]) (rest := []) ⟨hx, hb, hml, hown, hts⟩ (c_Row_add l D cI cZ (h := h) (a := a) (M := M) (n := (n + 1) + 1) (f := (apL f n [wB w 24, wB w 16])) (x := (wB w 8)) (hM := by omega) (hn := by omega) _) (cwV 1 hts (kgV wm228 wm197 wm198 wm39 wmcX3_add) rfl rfl rfl (by decide +kernel) ⟨Nat.le_of_ble_eq_true rfl, Nat.le_of_ble_eq_true rfl⟩) (k_preV hK hPc hDc (ci := 3) (q0 := 0) rfl rfl) rfl rfl hl.1 rfl (lv_room (Nat.le_of_ble_eq_true rfl)) dX3_addWord_17 ⟨Nat.le_of_ble_eq_true rfl, Nat.le_of_ble_eq_true rfl⟩) (fun u H locs hw hP hD hS => ?_)
        have hP : va_P D vwCl [(h, .inr (3, [.ref a, .int (iI ((((n + 1) + 1) + 1 : Nat) : Int))])), (a, .inl (cI, M, .inl (apL (apL f n [wB w 24, wB w 16]) ((n + 1) + 1) [(wB w 8)])))] H := hP
        have hD : va_D A [(h, .inr (3, [.ref a, .int (iI ((((n + 1) + 1) + 1 : Nat) : Int))])), (a, .inl (cI, M, .inl (apL (apL f n [wB w 24, wB w 16]) ((n + 1) + 1) [(wB w 8)])))] := hD
        refine W.widen (k := 0) (n := 0) (Nat.le_of_ble_eq_true rfl) (Nat.le_of_ble_eq_true rfl) ?_
        rw [show (apL (apL f n [wB w 24, wB w 16]) ((n + 1) + 1) [(wB w 8)]) = (apL f n [wB w 24, wB w 16, wB w 8]) from apL_at rfl _] at hP hD
        refine lv_iinc (v := iI (0 : Int)) (lv' := [(2, .int (iI (0 : Int))), (0, .ref h), (1, .int w)]) hx hb dX3_addWord_20 hl (k := 0) rfl (iA (by omega)) (by decide) rfl (fun ls hl => ?_)
        refine lv_goto (tgt := 2) hx hb dX3_addWord_23 (by decide) ?_
        refine lv_iload_n hx hb dX3_addWord_2 rfl (lv_at hl 0 rfl) ?_
        refine lv_if_lt (tgt := 26) hx hb dX3_addWord_3 (by decide) (fun c3 => ?_) (fun c3 => ?_)
        · skip
          have c3 := iI_ltT (a := (0 : Int)) (b := (0 : Int)) c3 (by omega)
          omega
        · skip
          have c3 := iI_ltF (a := (0 : Int)) (b := (0 : Int)) c3 (by omega)
          refine lv_aload_n hx hb dX3_addWord_6 rfl (lv_at hl 1 rfl) ?_
          refine lv_iload_n hx hb dX3_addWord_7 rfl (lv_at hl 2 rfl) ?_
          refine lv_bipush (v := iI (8 : Int)) hx hb dX3_addWord_8 (by decide) ?_
          refine lv_iload_n hx hb dX3_addWord_10 rfl (lv_at hl 0 rfl) ?_
          refine lv_imul hx hb dX3_addWord_11 ?_
          refine kn_i (iM (c := (0 : Int)) (by omega)) ?_
          refine lv_iushr hx hb dX3_addWord_12 rfl ?_
          refine lv_sipush (v := iI (255 : Int)) hx hb dX3_addWord_13 (by decide) ?_
          refine lv_iand hx hb dX3_addWord_16 ?_
          refine kn_i (y := (wB w 0)) (rfl) ?_
          refine k_callv (wc := [(h, .inr (3, [.ref a, .int (iI ((((n + 1) + 1) + 1 : Nat) : Int))])), (a, .inl (cI, M, .inl (apL f n [wB w 24, wB w 16, wB w 8])))]) (wr := []) (wf := fun _ => [(h, .inr (3, [.ref a, .int (iI (((((n + 1) + 1) + 1) + 1 : Nat) : Int))])), (a, .inl (cI, M, .inl (apL (apL f n [wB w 24, wB w 16, wB w 8]) (((n + 1) + 1) + 1) [(wB w 0)])))]) hK hP hD hS hA [0, 1] [] [0, 1] ⟨⟨rfl, rfl, by decide⟩, rfl, by decide, by decide⟩ (fun _ => ⟨rfl, rfl⟩) (by decide) (fun hPc hDc => va_runV (As := [.int (wB w 0)]) (rest := []) ⟨hx, hb, hml, hown, hts⟩ (c_Row_add l D cI cZ (h := h) (a := a) (M := M) (n := ((n + 1) + 1) + 1) (f := (apL f n [wB w 24, wB w 16, wB w 8])) (x := (wB w 0)) (hM := by omega) (hn := by omega) _) (cwV 1 hts (kgV wm228 wm197 wm198 wm39 wmcX3_add) rfl rfl rfl (by decide +kernel) ⟨Nat.le_of_ble_eq_true rfl, Nat.le_of_ble_eq_true rfl⟩) (k_preV hK hPc hDc (ci := 3) (q0 := 0) rfl rfl) rfl rfl hl.1 rfl (lv_room (Nat.le_of_ble_eq_true rfl)) dX3_addWord_17 ⟨Nat.le_of_ble_eq_true rfl, Nat.le_of_ble_eq_true rfl⟩) (fun u H locs hw hP hD hS => ?_)
          have hP : va_P D vwCl [(h, .inr (3, [.ref a, .int (iI (((((n + 1) + 1) + 1) + 1 : Nat) : Int))])), (a, .inl (cI, M, .inl (apL (apL f n [wB w 24, wB w 16, wB w 8]) (((n + 1) + 1) + 1) [(wB w 0)])))] H := hP
          have hD : va_D A [(h, .inr (3, [.ref a, .int (iI (((((n + 1) + 1) + 1) + 1 : Nat) : Int))])), (a, .inl (cI, M, .inl (apL (apL f n [wB w 24, wB w 16, wB w 8]) (((n + 1) + 1) + 1) [(wB w 0)])))] := hD
          refine W.widen (k := 0) (n := 0) (Nat.le_of_ble_eq_true rfl) (Nat.le_of_ble_eq_true rfl) ?_
          rw [show (apL (apL f n [wB w 24, wB w 16, wB w 8]) (((n + 1) + 1) + 1) [(wB w 0)]) = (apL f n [wB w 24, wB w 16, wB w 8, wB w 0]) from apL_at rfl _] at hP hD
          refine lv_iinc (v := iI (-1 : Int)) (lv' := [(2, .int (iI (-1 : Int))), (0, .ref h), (1, .int w)]) hx hb dX3_addWord_20 hl (k := 0) rfl (iA (by omega)) (by decide) rfl (fun ls hl => ?_)
          refine lv_goto (tgt := 2) hx hb dX3_addWord_23 (by decide) ?_
          refine lv_iload_n hx hb dX3_addWord_2 rfl (lv_at hl 0 rfl) ?_
          refine lv_if_lt (tgt := 26) hx hb dX3_addWord_3 (by decide) (fun c3 => ?_) (fun c3 => ?_)
          · skip
            have c3 := iI_ltT (a := (-1 : Int)) (b := (0 : Int)) c3 (by omega)
            exact k_vret () hx hb hr hlocks hK hP hD hS [0, 1] (by decide) rfl rfl (trivial) hAe hQ dX3_addWord_26
          · skip
            have c3 := iI_ltF (a := (-1 : Int)) (b := (0 : Int)) c3 (by omega)
            omega

abbrev rm_c_Row_digest : Room := { frames := 0, cells := 0, slots := 0, locals := 0 }
set_option maxHeartbeats 4000000 in
set_option maxRecDepth 100000 in
theorem c_Row_digest (l : Launch) (D : va_G) (cI cZ : ClassId) (h : Nat) (a : Nat) (M : Nat) (n : Nat) (f : Nat → Int32) (hM : M ≤ 900) (hn : n ≤ M) : MI l yX3_digest wsX3_digest rm_c_Row_digest D (kT cI cZ) [.ref h] [(h, .inr (3, [.ref a, .int (iI ((n : Nat) : Int))])), (a, .inl (cI, M, .inl f))] (fun (r : Int32) (_ : Unit) => r = (dg f n)) (fun (u : Unit) => match u with | _ => [(h, .inr (3, [.ref a, .int (iI ((n : Nat) : Int))])), (a, .inl (cI, M, .inl f))]) 0 0 := by
  intro sz
  refine k_of (cc := cX3_digest) (maxL := 4) (ret := (some .int)) (by decide) rfl (Nat.le_of_ble_eq_true rfl) ?_
  intro p e s m args below meth c A Q hAe hQ hx hb hr hml hts hown hlocks hnm hP hK hD hS hA ls hl
  have hl : lv_has ls 4 [(0, .ref h)] := hl
  have hi_X3 : ∀ w ∈ u_ws RX3 TX3 2, w ∈ wsX3_digest := fun w h => km (ikX3 w h)
  have fl21 := hts _ (km wm63)
  have fl15 := hts _ (km wm62)
  refine lv_iconst (v := iI (0 : Int)) hx hb dX3_digest_0 rfl ?_
  refine lv_istore_n (lv' := [(1, .int (iI (0 : Int))), (0, .ref h)]) hx hb dX3_digest_1 rfl hl (by decide) rfl (fun ls hl => ?_)
  refine lv_iconst (v := iI ((0 : Nat) : Int)) hx hb dX3_digest_2 rfl ?_
  refine lv_istore_n (lv' := [(2, .int (iI ((0 : Nat) : Int))), (1, .int (iI (0 : Int))), (0, .ref h)]) hx hb dX3_digest_3 rfl hl (by decide) rfl (fun ls hl => ?_)
  have lp4 : ∀ (fu : Nat) (k : Nat) (H : Heap) (locs : List Loc) (ls : Array Slot), n - k < fu → (k ≤ n) → va_P D vwCl [(h, .inr (3, [.ref a, .int (iI ((n : Nat) : Int))])), (a, .inl (cI, M, .inl f))] H → va_D A [(h, .inr (3, [.ref a, .int (iI ((n : Nat) : Int))])), (a, .inl (cI, M, .inl f))] → va_S A s.heap H locs → lv_has ls 4 [(0, .ref h), (1, .int (dg f k)), (2, .int (iI ((k : Nat) : Int)))] → W p l e rm_c_Row_digest s m args below meth c H locs 0 0 Q (F0 m 4 ls []) := by
    intro fu
    induction fu with
    | zero => intro k H locs ls hfu; exact absurd hfu (Nat.not_lt_zero _)
    | succ fu ih4 =>
      intro k H locs ls hfu hk hP hD hS hl
      refine lv_iload_n hx hb dX3_digest_4 rfl (lv_at hl 2 rfl) ?_
      refine lv_aload_n hx hb dX3_digest_5 rfl (lv_at hl 0 rfl) ?_
      refine va_get (D := D) (ci := 3) (v := .int (iI ((n : Nat) : Int))) (C := RX3) (T := TX3) (N := 2) hx hb hts hi_X3 hown hK hP 0 rfl rfl 1 (by decide) fl21 (fun _ h9 => h9) rfl dX3_digest_6 ?_
      refine lv_icmp_ge (tgt := 48) hx hb dX3_digest_9 (by decide) (fun c9 => ?_) (fun c9 => ?_)
      · skip
        have c9 := iI_leT (a := ((n : Nat) : Int)) (b := ((k : Nat) : Int)) c9 (by omega)
        refine lv_iload_n hx hb dX3_digest_48 rfl (lv_at hl 1 rfl) ?_
        exact k_iret () hx hb hr hlocks hK hP hD hS [0, 1] (by decide) rfl rfl ((by rw [show k = n by omega])) hAe hQ dX3_digest_49
      · skip
        have c9 := iI_leF (a := ((n : Nat) : Int)) (b := ((k : Nat) : Int)) c9 (by omega)
        refine lv_iload_n hx hb dX3_digest_12 rfl (lv_at hl 2 rfl) ?_
        refine lv_aload_n hx hb dX3_digest_13 rfl (lv_at hl 0 rfl) ?_
        refine va_get (D := D) (ci := 3) (v := .ref a) (C := RX3) (T := TX3) (N := 2) hx hb hts hi_X3 hown hK hP 0 rfl rfl 0 (by decide) fl15 (fun _ h9 => h9) rfl dX3_digest_14 ?_
        refine k_alen hx hb hK hP 1 0 rfl rfl dX3_digest_17 ?_
        refine lv_icmp_ge (tgt := 48) hx hb dX3_digest_18 (by decide) (fun c18 => ?_) (fun c18 => ?_)
        · skip
          have c18 := iI_leT (a := ((M : Nat) : Int)) (b := ((k : Nat) : Int)) c18 (by omega)
          omega
        · skip
          have c18 := iI_leF (a := ((M : Nat) : Int)) (b := ((k : Nat) : Int)) c18 (by omega)
          refine lv_iload_n hx hb dX3_digest_21 rfl (lv_at hl 1 rfl) ?_
          refine lv_aload_n hx hb dX3_digest_22 rfl (lv_at hl 0 rfl) ?_
          refine va_get (D := D) (ci := 3) (v := .ref a) (C := RX3) (T := TX3) (N := 2) hx hb hts hi_X3 hown hK hP 0 rfl rfl 0 (by decide) fl15 (fun _ h9 => h9) rfl dX3_digest_23 ?_
          refine lv_iload_n hx hb dX3_digest_26 rfl (lv_at hl 2 rfl) ?_
          refine k_iald hx hb hK hP 1 0 rfl rfl k (by omega) dX3_digest_27 ?_
          refine lv_ixor hx hb dX3_digest_28 ?_
          refine lv_istore_n (lv' := [(3, .int (((dg f k)) ^^^ ((f k)))), (0, .ref h), (1, .int (dg f k)), (2, .int (iI ((k : Nat) : Int)))]) hx hb dX3_digest_29 rfl hl (by decide) rfl (fun ls hl => ?_)
          refine lv_iload_n hx hb dX3_digest_30 rfl (lv_at hl 0 rfl) ?_
          refine lv_iconst (v := iI (5 : Int)) hx hb dX3_digest_31 rfl ?_
          refine lv_ishl hx hb dX3_digest_32 ?_
          refine lv_iload_n hx hb dX3_digest_33 rfl (lv_at hl 0 rfl) ?_
          refine lv_bipush (v := iI (27 : Int)) hx hb dX3_digest_34 (by decide) ?_
          refine lv_iushr hx hb dX3_digest_36 rfl ?_
          refine lv_ior hx hb dX3_digest_37 ?_
          refine lv_ldc (v := (-2048144777)) hx hb hown (hts _ (km wm289)) dX3_digest_38 ?_
          refine lv_imul hx hb dX3_digest_40 ?_
          refine kn_i (y := (dg f (k + 1))) (rfl) ?_
          refine lv_istore_n (lv' := [(1, .int (dg f (k + 1))), (3, .int (((dg f k)) ^^^ ((f k)))), (0, .ref h), (2, .int (iI ((k : Nat) : Int)))]) hx hb dX3_digest_41 rfl hl (by decide) rfl (fun ls hl => ?_)
          refine lv_iinc (v := iI ((k + 1 : Nat) : Int)) (lv' := [(2, .int (iI ((k + 1 : Nat) : Int))), (1, .int (dg f (k + 1))), (3, .int (((dg f k)) ^^^ ((f k)))), (0, .ref h)]) hx hb dX3_digest_42 hl (k := 3) rfl (iA (by omega)) (by decide) rfl (fun ls hl => ?_)
          refine lv_goto (tgt := 4) hx hb dX3_digest_45 (by decide) ?_
          exact ih4 (k + 1) _ _ _ (by omega) (by omega) hP hD hS (lv_sub hl [3, 1, 0] rfl)
  exact lp4 _ 0 _ _ _ (Nat.lt_succ_self _) (by omega) hP hD hS (lv_sub hl [2, 1, 0] rfl)
