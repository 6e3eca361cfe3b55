/-! numbers: every int is iI of an integer; sums and differences need no range, comparisons do -/
def iI (z : Int) : Int32 := Int32.ofInt z
theorem iI_T {z : Int} (h : -2147483648 ≤ z ∧ z < 2147483648) : (iI z).toInt = z := Int32.toInt_ofInt_of_le h.1 h.2
theorem iI_add (a b : Int) : iI a + iI b = iI (a + b) := (Int32.ofInt_add a b).symm
theorem iI_sub (a b : Int) : iI a - iI b = iI (a - b) := (Int32.ofInt_sub a b).symm
theorem iI_mul (a b : Int) : iI a * iI b = iI (a * b) := (Int32.ofInt_mul a b).symm
theorem iI_neg (a : Int) : -iI a = iI (-a) := (Int32.ofInt_neg a).symm
theorem iI_ex (x : Int32) : ∃ z : Int, (-2147483648 ≤ z ∧ z < 2147483648) ∧ x = iI z := ⟨x.toInt, ⟨Int32.le_toInt x, Int32.toInt_lt x⟩, (Int32.ofInt_toInt x).symm⟩
abbrev iR (a b : Int) : Prop := (-2147483648 ≤ a ∧ a < 2147483648) ∧ (-2147483648 ≤ b ∧ b < 2147483648)
theorem iI_le {a b : Int} (r : iR a b) : iI a ≤ iI b ↔ a ≤ b := by rw [Int32.le_iff_toInt_le, iI_T r.1, iI_T r.2]
theorem iI_lt {a b : Int} (r : iR a b) : iI a < iI b ↔ a < b := by rw [Int32.lt_iff_toInt_lt, iI_T r.1, iI_T r.2]
theorem iI_eq {a b : Int} (r : iR a b) : iI a = iI b ↔ a = b := by rw [← Int32.toInt_inj, iI_T r.1, iI_T r.2]
theorem iI_leT {a b : Int} (h : iI a ≤ iI b) (r : iR a b) : a ≤ b := (iI_le r).mp h
theorem iI_leF {a b : Int} (h : ¬ iI a ≤ iI b) (r : iR a b) : b < a := Int.not_le.mp (fun q => h ((iI_le r).mpr q))
theorem iI_ltT {a b : Int} (h : iI a < iI b) (r : iR a b) : a < b := (iI_lt r).mp h
theorem iI_ltF {a b : Int} (h : ¬ iI a < iI b) (r : iR a b) : b ≤ a := Int.not_lt.mp (fun q => h ((iI_lt r).mpr q))
theorem iI_eqT {a b : Int} (h : iI a = iI b) (r : iR a b) : a = b := (iI_eq r).mp h
theorem iI_eqF {a b : Int} (h : ¬ iI a = iI b) (r : iR a b) : a ≠ b := fun q => h ((iI_eq r).mpr q)
theorem iI_in {z : Int} {n : Nat} (h : (0 ≤ z ∧ z < n) ∧ n ≤ 2147483647) : vp_in (iI z) n := by
  rw [vp_in_iff, iI_T (by omega)]
  exact h.1
theorem iI_cl {z : Int} {k : Nat} (h : z = k ∧ k < 2147483648) : (iI z).toNatClampNeg = k := by
  rw [← Int32.toNat_toInt, iI_T (by omega)]
  omega
theorem iI_nI (n : Nat) : nI n = iI n := (Int32.ofInt_eq_ofNat).symm
theorem iA {a b c : Int} (h : a + b = c) : iI a + iI b = iI c := by rw [iI_add, h]
theorem iB {a b c : Int} (h : a - b = c) : iI a - iI b = iI c := by rw [iI_sub, h]
theorem iM {a b c : Int} (h : a * b = c) : iI a * iI b = iI c := by rw [iI_mul, h]
theorem iNeg {a c : Int} (h : -a = c) : -iI a = iI c := by rw [iI_neg, h]
theorem imax {a b c : Int} (r : iR a b) (h : (a < b ∧ c = b) ∨ (b ≤ a ∧ c = a)) : (if iI a < iI b then iI b else iI a) = iI c := by
  rcases h with ⟨h, rfl⟩ | ⟨h, rfl⟩
  · rw [if_pos ((iI_lt r).mpr h)]
  · rw [if_neg (fun q => absurd ((iI_lt r).mp q) (by omega))]
theorem imin {a b c : Int} (r : iR b a) (h : (b < a ∧ c = b) ∨ (a ≤ b ∧ c = a)) : (if iI b < iI a then iI b else iI a) = iI c := by
  rcases h with ⟨h, rfl⟩ | ⟨h, rfl⟩
  · rw [if_pos ((iI_lt r).mpr h)]
  · rw [if_neg (fun q => absurd ((iI_lt r).mp q) (by omega))]
/-- a truth as an int -/
def kb (b : Bool) : Int32 := if b = true then iI 1 else iI 0
theorem kb_T {b : Bool} (h : kb b = 0) : b = false := by
  cases b
  · rfl
  · exact absurd h (by decide)
theorem kb_F {b : Bool} (h : ¬ kb b = 0) : b = true := by
  cases b
  · exact absurd rfl h
  · rfl
theorem kb_nar (b : Bool) : narrow .boolean (.int (kb b)) = .int (kb b) := by cases b <;> decide
section KK
variable {p : Program} {l : Launch} {e : Env} {R : Room} {s : State} {m : MethodId} {args : Array Value} {below : List Frame} {meth : Method} {c : Code} {H : Heap} {locs : List Loc} {cells slots : Nat} {Q : State → Prop}
variable {cc : ByteArray} {pc : Nat} {ls : Array Slot} {rest : List Value} {D : va_G} {A : Nat → Prop} {a : Nat} {tys : List (ClassId × FieldType)} {ws : va_W} {H0 : Heap}
theorem kn_i {x y : Int32} (h : x = y) (k : W p l e R s m args below meth c H locs cells slots Q (F0 m pc ls (.int y :: rest))) : W p l e R s m args below meth c H locs cells slots Q (F0 m pc ls (.int x :: rest)) := h ▸ k
theorem kn_l {x y : Int64} (h : x = y) (k : W p l e R s m args below meth c H locs cells slots Q (F0 m pc ls (.long y :: rest))) : W p l e R s m args below meth c H locs cells slots Q (F0 m pc ls (.long x :: rest)) := h ▸ k
/-- what is asked of a world at a method's start -/
abbrev kP (D : va_G) (tys : List (ClassId × FieldType)) (wc : va_W) (sz : Nat) (U : State) : Prop := U.heap.size = sz ∧ va_P D vwCl wc U.heap ∧ va_K D vwCl tys U ∧ va_D (fun _ => True) wc
/-- and what holds behind it -/
abbrev kB {S : Type} (D : va_G) (tys : List (ClassId × FieldType)) (A : Nat → Prop) (W1 : S → va_W) (u : S) (t : State) : Prop := va_P D vwCl (W1 u) t.heap ∧ va_K D vwCl tys t ∧ va_D A (W1 u)
abbrev MI {S : Type} (l : Launch) (y : MethodName) (wds : List Cond) (rm : Room) (D : va_G) (tys : List (ClassId × FieldType)) (As : List Value) (wc : va_W) (post : Int32 → S → Prop) (W1 : S → va_W) (mc ms : Nat) : Prop :=
  ∀ sz : Nat, Met l y wds rm (va_Pc As (kP D tys wc sz)) (va_Qi post (kB D tys (va_A wc sz) W1) (va_A wc sz)) mc ms (va_A wc sz)
abbrev MV {S : Type} (l : Launch) (y : MethodName) (wds : List Cond) (rm : Room) (D : va_G) (tys : List (ClassId × FieldType)) (As : List Value) (wc : va_W) (post : S → Prop) (W1 : S → va_W) (mc ms : Nat) : Prop :=
  ∀ sz : Nat, Met l y wds rm (va_Pc As (kP D tys wc sz)) (va_Qv post (kB D tys (va_A wc sz) W1) (va_A wc sz)) mc ms (va_A wc sz)
abbrev MQq {S : Type} (l : Launch) (y : MethodName) (wds : List Cond) (rm : Room) (D : va_G) (tys : List (ClassId × FieldType)) (As : List Value) (wc : va_W) (post : Option Nat → S → Prop) (W1 : S → va_W) (mc ms : Nat) : Prop :=
  ∀ sz : Nat, Met l y wds rm (va_Pc As (kP D tys wc sz)) (va_Qq post (kB D tys (va_A wc sz) W1) (va_A wc sz)) mc ms (va_A wc sz)
/-- a method's beginning -/
theorem k_of {y : MethodName} {wds wds' : List Cond} {rm : Room} {As : List Value} {wc : va_W} {Qc : Array Value → State → Outcome → State → Prop} {mc ms maxL : Nat} {ret : Option FieldType} {sz : Nat}
    (hy : plainName y.cls = true) (hw : wds = Cond.code y cc maxL ret :: wds') (hlen : (lg_sl As).length ≤ maxL)
    (body : ∀ (p : Program) (e : Env) (s : State) (m : MethodId) (args : Array Value) (below : List Frame) (meth : Method) (c : Code) (A : Nat → Prop) (Q : State → Prop), va_A wc sz = A → MQ below Qc args s mc ms (va_A wc sz) = Q → p.tables.exec = Jvm.exec → c.code = cc → meth.sig.returnType = ret → c.maxLocals = maxL → (∀ w ∈ wds, w.before args s = true) → s.vm.findClass y.cls = some m.cls → meth.locks = false → meth.name = y.name →
      va_P D vwCl wc s.heap → va_K D vwCl tys s → va_D A wc → va_S A s.heap s.heap [] → (∀ q, s.heap.size ≤ q → A q) → ∀ ls : Array Slot, lv_has ls maxL (lv_args 0 As) →
      W p l e rm s m args below meth c s.heap [] 0 0 Q (F0 m 0 ls [])) :
    Met l y wds rm (va_Pc As (kP D tys wc sz)) Qc mc ms (va_A wc sz) := by
  refine Met.ofW (cc := cc) (maxL := maxL) (ret := ret) hy hw ?_
  intro p e s m args below meth c s₁ B hml hv
  obtain ⟨rfl, hsz, hP, hK, hD0⟩ := hv
  have hl := lv_entry As (n := maxL) hlen
  rw [lg_entry_eq]
  refine body p e s m _ below meth c _ _ rfl rfl B.exec B.bytes B.returns hml (atoms_spec (ws := wds) B.pre) (findClass_of_methodNamed B.named) B.notSynchronized (name_of_methodNamed B.named B.method).1 hP hK hD0.self va_S.rf ?_ _ hl
  intro q h
  exact Or.inr (hsz ▸ h)
theorem k_iret {S : Type} {post : Int32 → S → Prop} {W1 : S → va_W} {v : Int32} (u : S) (hexec : p.tables.exec = Jvm.exec) (hb : c.code = cc) (hr : meth.sig.returnType = some .int) (hlocks : meth.locks = false) (hK : va_K D vwCl tys s) (hP : va_P D vwCl ws H) (hD : va_D A ws) (hS : va_S A s.heap H locs)
    (isF : List Nat) (hn : va_nd isF = true) (hF : isF.map (fun i => ws[i]?) = (W1 u).map some) (hF2 : isF.filterMap (fun i => ws[i]?) = W1 u) (hq : post v u) {A' : Nat → Prop} (hA : A' = A) (hQ : MQ below (va_Qi post (kB D tys A' W1) A') args s cells slots A' = Q) (hdg : decode cc pc = .ok (.ireturn, 1)) :
    W p l e R s m args below meth c H locs cells slots Q (F0 m pc ls [.int v]) := by
  subst hA
  subst hQ
  exact W.iret hexec hb hr (fun t ht hW => ⟨⟨v, u, rfl, hq, by rw [ht]; exact hP.sub isF hF2, va_K.moved hW.alike hK, hD.sub isF hn hF⟩, hS.F ht⟩) hS.2.2 hdg hlocks
theorem k_zret {S : Type} {post : Int32 → S → Prop} {W1 : S → va_W} {v : Int32} (u : S) (hexec : p.tables.exec = Jvm.exec) (hb : c.code = cc) (hr : meth.sig.returnType = some .boolean) (hnar : narrow .boolean (.int v) = .int v) (hlocks : meth.locks = false) (hK : va_K D vwCl tys s) (hP : va_P D vwCl ws H) (hD : va_D A ws) (hS : va_S A s.heap H locs)
    (isF : List Nat) (hn : va_nd isF = true) (hF : isF.map (fun i => ws[i]?) = (W1 u).map some) (hF2 : isF.filterMap (fun i => ws[i]?) = W1 u) (hq : post v u) {A' : Nat → Prop} (hA : A' = A) (hQ : MQ below (va_Qi post (kB D tys A' W1) A') args s cells slots A' = Q) (hdg : decode cc pc = .ok (.ireturn, 1)) :
    W p l e R s m args below meth c H locs cells slots Q (F0 m pc ls [.int v]) := by
  subst hA
  subst hQ
  exact W.zret hexec hb hr hnar (fun t ht hW => ⟨⟨v, u, rfl, hq, by rw [ht]; exact hP.sub isF hF2, va_K.moved hW.alike hK, hD.sub isF hn hF⟩, hS.F ht⟩) hS.2.2 hdg hlocks
theorem k_vret {S : Type} {post : S → Prop} {W1 : S → va_W} (u : S) (hexec : p.tables.exec = Jvm.exec) (hb : c.code = cc) (hr : meth.sig.returnType = none) (hlocks : meth.locks = false) (hK : va_K D vwCl tys s) (hP : va_P D vwCl ws H) (hD : va_D A ws) (hS : va_S A s.heap H locs)
    (isF : List Nat) (hn : va_nd isF = true) (hF : isF.map (fun i => ws[i]?) = (W1 u).map some) (hF2 : isF.filterMap (fun i => ws[i]?) = W1 u) (hq : post u) {A' : Nat → Prop} (hA : A' = A) (hQ : MQ below (va_Qv post (kB D tys A' W1) A') args s cells slots A' = Q) (hdg : decode cc pc = .ok (.return_, 1)) :
    W p l e R s m args below meth c H locs cells slots Q (F0 m pc ls []) := by
  subst hA
  subst hQ
  exact W.vret hexec hb hr (fun t ht hW => ⟨⟨u, rfl, hq, by rw [ht]; exact hP.sub isF hF2, va_K.moved hW.alike hK, hD.sub isF hn hF⟩, hS.F ht⟩) hS.2.2 hdg hlocks
theorem k_aret {S : Type} {post : Option Nat → S → Prop} {W1 : S → va_W} {C : String} {r : Option Nat} (u : S) (hexec : p.tables.exec = Jvm.exec) (hb : c.code = cc) (hr : meth.sig.returnType = some (.object C)) (hlocks : meth.locks = false) (hK : va_K D vwCl tys s) (hP : va_P D vwCl ws H) (hD : va_D A ws) (hS : va_S A s.heap H locs)
    (isF : List Nat) (hn : va_nd isF = true) (hF : isF.map (fun i => ws[i]?) = (W1 u).map some) (hF2 : isF.filterMap (fun i => ws[i]?) = W1 u) (hq : post r u) {A' : Nat → Prop} (hA : A' = A) (hQ : MQ below (va_Qq post (kB D tys A' W1) A') args s cells slots A' = Q) {v : Value} (hv : va_rf r = v) (hdg : decode cc pc = .ok (.areturn, 1)) :
    W p l e R s m args below meth c H locs cells slots Q (F0 m pc ls [v]) := by
  subst hA
  subst hQ
  subst hv
  refine W.aret hexec hb hr (Or.inl ⟨C, rfl⟩) ?_ (fun t ht hW => ⟨⟨r, u, rfl, hq, by rw [ht]; exact hP.sub isF hF2, va_K.moved hW.alike hK, hD.sub isF hn hF⟩, hS.F ht⟩) hS.2.2 hdg hlocks
  cases r
  · exact Or.inl rfl
  · exact Or.inr ⟨_, rfl⟩
/-- what a call asks: the callee's world -/
theorem k_bl {As : List Value} {wc : va_W} {sz : Nat} : FrameBlind (va_Pc As (kP D tys wc sz)) := fun a U g mk q => by
  obtain ⟨q0, q1, qP, qK, qD⟩ := q
  exact ⟨q0, q1, qP, va_K.moved (u := U) (U := U.calling g mk a) (Vm.Alike.refl U.vm) qK, qD⟩
theorem k_preS {As : List Value} {wc : va_W} (hK : va_K D vwCl tys s) (hP : va_P D vwCl wc H) (hD : va_D A wc) : PreS s H (va_Pc As (kP D tys wc H.size)) As :=
  ⟨k_bl, fun U hU hW => ⟨rfl, by rw [hU], by rw [hU]; exact hP, va_K.moved hW.alike hK, hD.weaken (fun _ _ _ _ => trivial)⟩⟩
theorem k_preV {As : List Value} {wc : va_W} {b q0 ci : Nat} {q : vw_C} {fs : List Value} (hK : va_K D vwCl tys s) (hP : va_P D vwCl wc H) (hD : va_D A wc) (hc : vwCl[ci]? = some q) (he : wc[q0]? = some (b, .inr (ci, fs))) : PreV s H q.1 b (va_Pc (.ref b :: As) (kP D tys wc H.size)) As :=
  ⟨k_bl, va_recv hK hP hc he, fun U hU hW => ⟨rfl, by rw [hU], by rw [hU]; exact hP, va_K.moved hW.alike hK, hD.weaken (fun _ _ _ _ => trivial)⟩⟩
/-- the worlds round a call -/
abbrev kX (ws wc wr : va_W) (isC isR : List Nat) : Prop := (isC.map (fun i => ws[i]?) = wc.map some ∧ isC.filterMap (fun i => ws[i]?) = wc ∧ va_nd isC = true) ∧ isR.map (fun i => ws[i]?) = wr.map some ∧ va_nd isR = true ∧ ∀ i ∈ isR, i ∉ isC
theorem k_calli {S : Type} {post : Int32 → S → Prop} {W1 wf : S → va_W} {wc wr : va_W} {st0 : List Value} {av : Array Value} {mc ms : Nat} (hK : va_K D vwCl tys s) (hP : va_P D vwCl ws H) (hD : va_D A ws) (hS : va_S A H0 H locs) (hA : ∀ q, H0.size ≤ q → A q)
    (isC isR isF : List Nat) (hX : kX ws wc wr isC isR) (hF : ∀ u, isF.map (fun i => (wr ++ W1 u)[i]?) = (wf u).map some ∧ isF.filterMap (fun i => (wr ++ W1 u)[i]?) = wf u) (hnF : va_nd isF = true)
    (hr : va_P D vwCl wc H → va_D A wc → va_Run p l e R s m args below meth c H locs cells slots mc ms (F0 m pc ls st0) rest (va_Qi post (kB D tys (va_A wc H.size) W1) (va_A wc H.size) av) (va_A wc H.size))
    (kk : ∀ (r : Int32) (u : S) (H1 : Heap) (locs1 : List Loc), post r u → va_P D vwCl (wf u) H1 → va_D A (wf u) → va_S A H0 H1 locs1 → W p l e R s m args below meth c H1 locs1 (cells + mc) (slots + ms) Q (F0 m (pc + 3) ls (.int r :: rest))) : W p l e R s m args below meth c H locs cells slots Q (F0 m pc ls st0) := by
  obtain ⟨⟨hC, hC2, hnC⟩, hR, hnR, hdis⟩ := hX
  have hFc := va_free (wc := wc) hD hS hA isC hC
  refine va_calli (hr (hP.sub isC hC2) (hD.sub isC hnC hC)) hS (fun q _ h => hFc q h) hFc (fun r u t H1 locs1 ht hvm hw hB hz1 hk1 hS1 => ?_)
  obtain ⟨hP1, hK1, hD1⟩ := hB
  rw [ht] at hP1
  obtain ⟨hP2, hD2⟩ := va_join (wr := wr) (w1 := W1 u) hP hD isC isR hC hR hnR hdis hk1 hFc hP1 hD1
  exact kk r u H1 locs1 hw (hP2.sub isF (hF u).2) (hD2.sub isF hnF (hF u).1) hS1
theorem k_callv {S : Type} {post : S → Prop} {W1 wf : S → va_W} {wc wr : va_W} {st0 : List Value} {av : Array Value} {mc ms : Nat} (hK : va_K D vwCl tys s) (hP : va_P D vwCl ws H) (hD : va_D A ws) (hS : va_S A H0 H locs) (hA : ∀ q, H0.size ≤ q → A q)
    (isC isR isF : List Nat) (hX : kX ws wc wr isC isR) (hF : ∀ u, isF.map (fun i => (wr ++ W1 u)[i]?) = (wf u).map some ∧ isF.filterMap (fun i => (wr ++ W1 u)[i]?) = wf u) (hnF : va_nd isF = true)
    (hr : va_P D vwCl wc H → va_D A wc → va_Run p l e R s m args below meth c H locs cells slots mc ms (F0 m pc ls st0) rest (va_Qv post (kB D tys (va_A wc H.size) W1) (va_A wc H.size) av) (va_A wc H.size))
    (kk : ∀ (u : S) (H1 : Heap) (locs1 : List Loc), post u → va_P D vwCl (wf u) H1 → va_D A (wf u) → va_S A H0 H1 locs1 → W p l e R s m args below meth c H1 locs1 (cells + mc) (slots + ms) Q (F0 m (pc + 3) ls rest)) : W p l e R s m args below meth c H locs cells slots Q (F0 m pc ls st0) := by
  obtain ⟨⟨hC, hC2, hnC⟩, hR, hnR, hdis⟩ := hX
  have hFc := va_free (wc := wc) hD hS hA isC hC
  refine va_callv (hr (hP.sub isC hC2) (hD.sub isC hnC hC)) hS (fun q _ h => hFc q h) hFc (fun u t H1 locs1 ht hvm hw hB hz1 hk1 hS1 => ?_)
  obtain ⟨hP1, hK1, hD1⟩ := hB
  rw [ht] at hP1
  obtain ⟨hP2, hD2⟩ := va_join (wr := wr) (w1 := W1 u) hP hD isC isR hC hR hnR hdis hk1 hFc hP1 hD1
  exact kk u H1 locs1 hw (hP2.sub isF (hF u).2) (hD2.sub isF hnF (hF u).1) hS1
theorem k_callq {S : Type} {post : Option Nat → S → Prop} {W1 wf : S → va_W} {wc wr : va_W} {st0 : List Value} {av : Array Value} {mc ms : Nat} (hK : va_K D vwCl tys s) (hP : va_P D vwCl ws H) (hD : va_D A ws) (hS : va_S A H0 H locs) (hA : ∀ q, H0.size ≤ q → A q)
    (isC isR isF : List Nat) (hX : kX ws wc wr isC isR) (hF : ∀ u, isF.map (fun i => (wr ++ W1 u)[i]?) = (wf u).map some ∧ isF.filterMap (fun i => (wr ++ W1 u)[i]?) = wf u) (hnF : va_nd isF = true)
    (hr : va_P D vwCl wc H → va_D A wc → va_Run p l e R s m args below meth c H locs cells slots mc ms (F0 m pc ls st0) rest (va_Qq post (kB D tys (va_A wc H.size) W1) (va_A wc H.size) av) (va_A wc H.size))
    (kk : ∀ (r : Option Nat) (u : S) (H1 : Heap) (locs1 : List Loc), post r u → va_P D vwCl (wf u) H1 → va_D A (wf u) → va_S A H0 H1 locs1 → W p l e R s m args below meth c H1 locs1 (cells + mc) (slots + ms) Q (F0 m (pc + 3) ls (va_rf r :: rest))) : W p l e R s m args below meth c H locs cells slots Q (F0 m pc ls st0) := by
  obtain ⟨⟨hC, hC2, hnC⟩, hR, hnR, hdis⟩ := hX
  have hFc := va_free (wc := wc) hD hS hA isC hC
  refine va_callq (hr (hP.sub isC hC2) (hD.sub isC hnC hC)) hS (fun q _ h => hFc q h) hFc (fun r u t H1 locs1 ht hvm hw hB hz1 hk1 hS1 => ?_)
  obtain ⟨hP1, hK1, hD1⟩ := hB
  rw [ht] at hP1
  obtain ⟨hP2, hD2⟩ := va_join (wr := wr) (w1 := W1 u) hP hD isC isR hC hR hnR hdis hk1 hFc hP1 hD1
  exact kk r u H1 locs1 hw (hP2.sub isF (hF u).2) (hD2.sub isF hnF (hF u).1) hS1
/-- a new array of a known kind -/
theorem k_newa (hexec : p.tables.exec = Jvm.exec) (hb : c.code = cc) {atype : ArrayType} (harr : (Cond.arrayClass (newarray.typeOf atype)).before args s = true) {ty : FieldType} (hty : newarray.typeOf atype = ty) (hK : va_K D vwCl tys s) (t0 : Nat) {cA : ClassId} (ht : tys[t0]? = some (cA, ty)) (hpl : ∀ cB : ClassId, va_RA s cB ty = (s.vm.findClass ("[" ++ ty.toString) = some cB)) (hP : va_P D vwCl ws H) (hD : va_D A ws) (hS : va_S A H0 H locs) (hA : ∀ q, H0.size ≤ q → A q)
    {z : Int} {N' : Nat} (ha : ∀ cA : ClassId, vp_cell cA (N', .inl (fun _ => (0 : Int32))) = arrV cA N' (fun _ => defaultValue ty)) (hn : z = N' ∧ N' < 2147483648) (hbytes : N' * componentBytes ty ≤ 536870912) (hcells : cells + 1 ≤ R.cells) (hslots : slots + N' ≤ R.slots) (hdg : decode cc pc = .ok (.newarray atype, 2))
    (kk : ∀ (q : Nat) (H1 : Heap), va_P D vwCl (ws ++ [(q, .inl (cA, N', .inl (fun _ => (0 : Int32))))]) H1 → va_D A (ws ++ [(q, .inl (cA, N', .inl (fun _ => (0 : Int32))))]) → va_S A H0 H1 locs →
      W p l e R s m args below meth c H1 locs (cells + 1) (slots + N') Q (F0 m (pc + 2) ls (.ref q :: rest))) : W p l e R s m args below meth c H locs cells slots Q (F0 m pc ls (.int (iI z) :: rest)) := by
  have h1 : ¬ iI z < 0 := fun h => absurd (iI_ltT (b := 0) h (by omega)) (by omega)
  refine va_newa hexec hb harr hty hK hP hD hS hA ha h1 (iI_cl hn) hbytes hcells hslots hdg (fun q cB H1 hK1 hP1 hD1 hS1 => ?_)
  have e1 := (hK.2 t0 _ ht).2
  have e2 := (hK1.2 tys.length (cB, ty) (by simp)).2
  rw [hpl] at e1 e2
  have e3 : cA = cB := Option.some.inj (e1.symm.trans e2)
  subst e3
  exact kk q H1 hP1 hD1 hS1
theorem k_iald (hexec : p.tables.exec = Jvm.exec) (hb : c.code = cc) (hK : va_K D vwCl tys s) (hP : va_P D vwCl ws H) (q0 t0 : Nat) {cA : ClassId} {n : Nat} {f : Nat → Int32} (ha : ws[q0]? = some (a, .inl (cA, n, .inl f))) (ht : tys[t0]? = some (cA, .int)) {z : Int} (k : Nat) (hz : (z = k ∧ k < n) ∧ n ≤ 2147483647) (hdg : decode cc pc = .ok (.iaload, 1))
    (kk : W p l e R s m args below meth c H locs cells slots Q (F0 m (pc + 1) ls (.int (f k) :: rest))) : W p l e R s m args below meth c H locs cells slots Q (F0 m pc ls (.int (iI z) :: .ref a :: rest)) := by
  have h1 : (iI z).toNatClampNeg = k := iI_cl (by omega)
  refine va_iald hexec hb hK hP q0 t0 ha ht (iI_in (by omega)) hdg ?_
  rw [h1]
  exact kk
theorem k_zald (hexec : p.tables.exec = Jvm.exec) (hb : c.code = cc) (hK : va_K D vwCl tys s) (hP : va_P D vwCl ws H) (q0 t0 : Nat) {cA : ClassId} {n : Nat} {f : Nat → Int32} (ha : ws[q0]? = some (a, .inl (cA, n, .inl f))) (ht : tys[t0]? = some (cA, .boolean)) {z : Int} (k : Nat) (hz : (z = k ∧ k < n) ∧ n ≤ 2147483647) (hdg : decode cc pc = .ok (.baload, 1))
    (kk : W p l e R s m args below meth c H locs cells slots Q (F0 m (pc + 1) ls (.int (f k) :: rest))) : W p l e R s m args below meth c H locs cells slots Q (F0 m pc ls (.int (iI z) :: .ref a :: rest)) := by
  have h1 : (iI z).toNatClampNeg = k := iI_cl (by omega)
  refine va_zald hexec hb hK hP q0 t0 ha ht (iI_in (by omega)) hdg ?_
  rw [h1]
  exact kk
theorem k_iast (hexec : p.tables.exec = Jvm.exec) (hb : c.code = cc) (hK : va_K D vwCl tys s) (hP : va_P D vwCl ws H) (hD : va_D A ws) (hS : va_S A H0 H locs) (q0 t0 : Nat) {cA : ClassId} {n : Nat} {f : Nat → Int32} (ha : ws[q0]? = some (a, .inl (cA, n, .inl f))) (ht : tys[t0]? = some (cA, .int)) {z : Int} {x : Int32} (k : Nat) (hz : (z = k ∧ k < n) ∧ n ≤ 2147483647) (hdg : decode cc pc = .ok (.iastore, 1))
    (kk : ∀ (H1 : Heap) (locs1 : List Loc), va_P D vwCl (ws.set q0 (a, .inl (cA, n, .inl (upd f k x)))) H1 → va_D A (ws.set q0 (a, .inl (cA, n, .inl (upd f k x)))) → va_S A H0 H1 locs1 → W p l e R s m args below meth c H1 locs1 cells slots Q (F0 m (pc + 1) ls rest)) : W p l e R s m args below meth c H locs cells slots Q (F0 m pc ls (.int x :: .int (iI z) :: .ref a :: rest)) := by
  have h1 : (iI z).toNatClampNeg = k := iI_cl (by omega)
  refine va_iast hexec hb hK hP hD hS q0 t0 ha ht (iI_in (by omega)) hdg ?_
  rw [h1]
  exact kk
theorem k_zast (hexec : p.tables.exec = Jvm.exec) (hb : c.code = cc) (hK : va_K D vwCl tys s) (hP : va_P D vwCl ws H) (hD : va_D A ws) (hS : va_S A H0 H locs) (q0 t0 : Nat) {cA : ClassId} {n : Nat} {f : Nat → Int32} (ha : ws[q0]? = some (a, .inl (cA, n, .inl f))) (ht : tys[t0]? = some (cA, .boolean)) {z : Int} {x y : Int32} (k : Nat) (hz : (z = k ∧ k < n) ∧ n ≤ 2147483647) (hx : vp_nar .boolean x = y) (hdg : decode cc pc = .ok (.bastore, 1))
    (kk : ∀ (H1 : Heap) (locs1 : List Loc), va_P D vwCl (ws.set q0 (a, .inl (cA, n, .inl (upd f k y)))) H1 → va_D A (ws.set q0 (a, .inl (cA, n, .inl (upd f k y)))) → va_S A H0 H1 locs1 → W p l e R s m args below meth c H1 locs1 cells slots Q (F0 m (pc + 1) ls rest)) : W p l e R s m args below meth c H locs cells slots Q (F0 m pc ls (.int x :: .int (iI z) :: .ref a :: rest)) := by
  have h1 : (iI z).toNatClampNeg = k := iI_cl (by omega)
  subst hx
  refine va_zast hexec hb hK hP hD hS q0 t0 ha ht (iI_in (by omega)) hdg ?_
  rw [h1]
  exact kk
theorem k_alen (hexec : p.tables.exec = Jvm.exec) (hb : c.code = cc) (hK : va_K D vwCl tys s) (hP : va_P D vwCl ws H) (q0 t0 : Nat) {cA : ClassId} {n : Nat} {f : Nat → Int32} (ha : ws[q0]? = some (a, .inl (cA, n, .inl f))) {ty : FieldType} (ht : tys[t0]? = some (cA, ty)) (hdg : decode cc pc = .ok (.arraylength, 1))
    (kk : W p l e R s m args below meth c H locs cells slots Q (F0 m (pc + 1) ls (.int (iI n) :: rest))) : W p l e R s m args below meth c H locs cells slots Q (F0 m pc ls (.ref a :: rest)) :=
  va_alen (v := iI n) hexec hb hK hP q0 t0 ha ht (iI_nI n) hdg kk
end KK
