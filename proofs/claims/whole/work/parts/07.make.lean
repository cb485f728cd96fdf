/-! constructors: worlds that grow -/
def yNst (U : State) : Prop := va_Nw (.methodLinkNest RX1 45 yX0_init RX11) U ∧ va_Nw (.methodLinkNest RX11 23 yX10_init RX11) U ∧ va_Nw (.methodLinkNest RX8 19 yX4_init RX11) U ∧ va_Nw (.methodLinkNest RX4 20 yX5_init RX11) U ∧ va_Nw (.methodLinkNest RX8 35 yX7_init RX11) U ∧ va_Nw (.methodLinkNest RX11 56 yX4_init RX11) U ∧ va_Nw (.methodLinkNest RX11 63 yX5_init RX11) U ∧ va_Nw (.methodLinkNest RX11 70 yX7_init RX11) U ∧ va_Nw (.methodLinkNest RX11 77 yX2_init RX11) U ∧ va_AO RX0 U ∧ va_AO RX7 U ∧ va_AO RX8 U
theorem yNst.warm {s U : State} (hW : s.WarmedH U.vm) (h : yNst s) : yNst U := by
  obtain ⟨h1, h2, h3, h4, h5, h6, h7, h8, h9, h10, h11, h12⟩ := h
  exact ⟨va_Nw.warmM hW h1, va_Nw.warmM hW h2, va_Nw.warmM hW h3, va_Nw.warmM hW h4, va_Nw.warmM hW h5, va_Nw.warmM hW h6, va_Nw.warmM hW h7, va_Nw.warmM hW h8, va_Nw.warmM hW h9, va_AO.moved hW.alike h10, va_AO.moved hW.alike h11, va_AO.moved hW.alike h12⟩
theorem yNst.same {s U : State} (e : s.vm = U.vm) (h : yNst s) : yNst U := by
  obtain ⟨h1, h2, h3, h4, h5, h6, h7, h8, h9, h10, h11, h12⟩ := h
  have ea : s.vm.Alike U.vm := by rw [← e]; exact Vm.Alike.refl _
  exact ⟨va_Nw.same rfl e h1, va_Nw.same rfl e h2, va_Nw.same rfl e h3, va_Nw.same rfl e h4, va_Nw.same rfl e h5, va_Nw.same rfl e h6, va_Nw.same rfl e h7, va_Nw.same rfl e h8, va_Nw.same rfl e h9, va_AO.moved ea h10, va_AO.moved ea h11, va_AO.moved ea h12⟩
theorem y_lt {D : va_G} {cl : List vw_C} {ws : va_W} {H : Heap} (hP : va_P D cl ws H) {k : Nat} {x : Nat × va_E} (h : ws[k]? = some x) : x.1 < H.size := (hP k x h).lt
/-- behind a call on the last cell: the others are as they were -/
theorem y_join {A : Nat → Prop} {D : va_G} {cl : List vw_C} {wr w1 : va_W} {x : Nat × va_E} {H H1 : Heap} (hP : va_P D cl (wr ++ [x]) H) (hD : va_D A (wr ++ [x])) (hk : ∀ q : Nat, q < H.size → ¬ va_A [x] H.size q → H1[q]? = H[q]?) (hF : ∀ q, va_A [x] H.size q → A q) (hP1 : va_P D cl w1 H1) (hD1 : va_D (va_A [x] H.size) w1) : va_P D cl (wr ++ w1) H1 ∧ va_D A (wr ++ w1) := by
  have hl : ∀ (k : Nat) (y : Nat × va_E), wr[k]? = some y → (wr ++ [x])[k]? = some y := fun k y h => by
    rw [List.getElem?_append_left (List.getElem?_eq_some_iff.mp h).1]; exact h
  have hx : (wr ++ [x])[wr.length]? = some x := by simp
  have hlen : ∀ (k : Nat) (y : Nat × va_E), wr[k]? = some y → k < wr.length := fun k y h => (List.getElem?_eq_some_iff.mp h).1
  have hout : ∀ (k : Nat) (y : Nat × va_E), wr[k]? = some y → ¬ va_A [x] H.size y.1 := fun k y h g => by
    rcases g with ⟨j, e, g⟩ | g
    · have hj : j = 0 := by
        have := (List.getElem?_eq_some_iff.mp g).1
        simp at this
        exact this
      subst hj
      have hg : x = (y.1, e) := by simpa using g
      have := hD.1 k wr.length y x (hl k y h) hx (by rw [hg])
      have := hlen k y h
      omega
    · have := y_lt hP (hl k y h)
      omega
  refine ⟨va_P.app (va_P.kept (fun k y h => hP k y (hl k y h)) (fun k y h => hk y.1 (y_lt hP (hl k y h)) (hout k y h))) hP1, va_D.app ⟨fun i j a b ha hb e => hD.1 i j a b (hl i a ha) (hl j b hb) e, fun k y h => hD.2 k y (hl k y h)⟩ (hD1.weaken (fun k y _ h => hF y.1 h)) (fun i j a b ha hb e => hout i a ha (by rw [e]; exact hD1.2 j b hb))⟩
def yPre (D : va_G) (cy : Nat → ClassId) (w0 : va_W) (sz : Nat) (U : State) : Prop := U.heap.size = sz ∧ va_P D vwCl w0 U.heap ∧ va_K D vwCl (ztyl cy) U ∧ zNst U ∧ yNst U ∧ va_D (fun _ => True) w0
def yC (l : Launch) (y : MethodName) (bs : ByteArray) (mL : Nat) (rm : Room) (As : List Value) (D : va_G) (cy : Nat → ClassId) (w0 : va_W) (post : (Nat → Nat) → va_W) (mc ms : Nat) : Prop := ∀ sz : Nat, Met l y (.code y bs mL none :: AW) rm (va_Pc As (yPre D cy w0 sz)) (va_Qv (fun (_ : Nat → Nat) => True) (fun a t => va_P D vwCl (post a) t.heap ∧ va_D (va_A w0 sz) (post a)) (va_A w0 sz)) mc ms (va_A w0 sz)
def yQ (below : List Frame) (D : va_G) (w0 : va_W) (s : State) (As : List Value) (post : (Nat → Nat) → va_W) (mc ms : Nat) : State → Prop := MQ below (va_Qv (fun (_ : Nat → Nat) => True) (fun a t => va_P D vwCl (post a) t.heap ∧ va_D (va_A w0 s.heap.size) (post a)) (va_A w0 s.heap.size)) As.toArray s mc ms (va_A w0 s.heap.size)
def yMth (y : MethodName) (bs : ByteArray) (mL n : Nat) : Prop := Cond.instanceMethod y ∈ AW ∧ y.name = "<init>" ∧ Cond.initialized y.cls ∈ AW ∧ Cond.code y bs mL none ∈ AW ∧ (y.cls ≠ "java/lang/invoke/MethodHandle" ∧ y.cls ≠ "java/lang/invoke/VarHandle" ∧ (parseMethodDescriptor y.desc).map (fun d => d.parameters.length) = some n)
theorem yblind {As : List Value} {D : va_G} {cy : Nat → ClassId} {w0 : va_W} {sz : Nat} : FrameBlind (va_Pc As (yPre D cy w0 sz)) := fun a U g mk q => by
  obtain ⟨q0, q1, qP, qK, qN, qY, qD⟩ := q
  exact ⟨q0, q1, qP, va_K.moved (u := U) (U := U.calling g mk a) (Vm.Alike.refl U.vm) qK, zNst.same rfl qN, yNst.same rfl qY, qD⟩
theorem y_cA {D : va_G} {cy : Nat → ClassId} {s : State} {cA : ClassId} {ty : FieldType} (hK : va_K D vwCl (ztyl cy ++ [(cA, ty)]) s) (k : Nat) (hk : (ztyl cy)[k]? = some (cy (k + 13), ty)) (hp : ∀ (c1 c2 : ClassId), va_RA s c1 ty → va_RA s c2 ty → c1 = c2) : cA = cy (k + 13) := by
  have hlt : k < (ztyl cy).length := (List.getElem?_eq_some_iff.mp hk).1
  have h1 := hK.2 k (cy (k + 13), ty) (by rw [List.getElem?_append_left hlt]; exact hk)
  have h2 := hK.2 7 (cA, ty) rfl
  exact hp _ _ h2.2 h1.2
theorem y_ra {s : State} {ty : FieldType} (h : ∀ (c : ClassId), va_RA s c ty → s.vm.findClass ("[" ++ ty.toString) = some c) (c1 c2 : ClassId) (h1 : va_RA s c1 ty) (h2 : va_RA s c2 ty) : c1 = c2 := Option.some.inj ((h c1 h1).symm.trans (h c2 h2))
section YROWS
variable {p : Program} {l : Launch} {e : Env} {R : Room} {s : State} {m : MethodId} {args : Array Value} {below : List Frame} {meth : Method} {c : Code} {H : Heap} {locs : List Loc} {cells slots : Nat} {Q : State → Prop}
variable {cc : ByteArray} {pc nL : Nat} {ls : Array Slot} {rest : List Value} {own : String} {D : va_G} {cy : Nat → ClassId} {A : Nat → Prop} {ws wr : va_W} {y : MethodName} {bs : ByteArray} {mL : Nat} {rm : Room} {As : List Value}
theorem y_of {post : (Nat → Nat) → va_W} {w0 : va_W} {mc ms : Nat} (hy : plainFor y = true) (hyn : y.name = "<init>") (hlen : (lg_sl As).length ≤ mL)
    (body : ∀ (p : Program) (e : Env) (s : State) (m : MethodId) (below : List Frame) (meth : Method) (c : Code) (ls : Array Slot), zFx D cy p m c bs mL s As.toArray y.cls → yNst s → meth.name = "<init>" → meth.sig.returnType = none → meth.locks = false → lv_has ls mL (lv_args 0 As) → va_P D vwCl w0 s.heap → va_D (va_A w0 s.heap.size) w0 → W p l e rm s m As.toArray below meth c s.heap [] 0 0 (yQ below D w0 s As post mc ms) (F0 m 0 ls [])) : yC l y bs mL rm As D cy w0 post mc ms := by
  intro sz
  refine va_MetF (cc := bs) (maxL := mL) (ret := none) hy rfl ?_
  intro p e s m args below meth c s₁ B hml hv
  obtain ⟨rfl, hsz, hP, hK, hN, hY, hD⟩ := hv
  subst hsz
  have hts := atoms_spec (ws := .code y bs mL none :: AW) B.pre
  have hl := lv_entry As (n := mL) hlen
  have hin : meth.name = "<init>" := (name_of_methodNamed B.named B.method).1.trans hyn
  rw [lg_entry_eq]
  generalize (lg_sl As ++ List.replicate (mL - (lg_sl As).length) Slot.unset).toArray = ls at hl ⊢
  exact body p e s m below meth c ls ⟨⟨B.exec, B.bytes, hml, findClass_of_methodNamed B.named, fun w h => hts w (List.mem_cons_of_mem _ h)⟩, hK, hN⟩ hY hin B.returns B.notSynchronized hl hP (hD.self (sz := s.heap.size))
theorem y_ret {post : (Nat → Nat) → va_W} {w0 : va_W} (F : zFx D cy p m c cc nL s As.toArray own) (hr : meth.sig.returnType = none) (hlk : meth.locks = false) (a : Nat → Nat) (hP : va_P D vwCl (post a) H) (hD : va_D (va_A w0 s.heap.size) (post a)) (hS : va_S (va_A w0 s.heap.size) s.heap H locs) (hdg : decode cc pc = .ok (.return_, 1)) : W p l e R s m As.toArray below meth c H locs cells slots (yQ below D w0 s As post cells slots) (F0 m pc ls []) := by
  unfold yQ
  exact W.vret F.1.1 F.1.2.1 hr (fun t ht hW => ⟨⟨a, rfl, trivial, by rw [ht]; exact hP, hD⟩, hS.F ht⟩) hS.2.2 hdg hlk
theorem y_cI (F : zFx D cy p m c cc nL s args own) (hN : yNst s) (hls : ls.size = nL) {q : Nat} {e0 : va_E} (hP : va_P D vwCl (wr ++ [(q, e0)]) H) (hD : va_D A (wr ++ [(q, e0)])) (hS : va_S A s.heap H locs) (hA : ∀ q : Nat, s.heap.size ≤ q → A q) {post : (Nat → Nat) → va_W} {mc ms n idx : Nat} (hC : yC l y bs mL rm (.ref q :: As) D cy [(q, e0)] post mc ms) (hY : yMth y bs mL n) (hlink : Cond.methodLink own idx y ∈ AW) (hrm : rm.cells = mc ∧ rm.slots = ms) (hR : rm.frames + 1 ≤ R.frames ∧ 8 + (mL + 11) + rm.locals ≤ R.locals) (hn : As.length = n) {st0 : List Value} (hst : st0 = As.reverse ++ .ref q :: rest) (h8 : (rest.map fun v => v.category).sum ≤ 8) (hdg : decode cc pc = .ok (.invokespecial idx, 3)) (hcs : cells + mc ≤ R.cells ∧ slots + ms ≤ R.slots)
    (kk : ∀ (a : Nat → Nat) (H1 : Heap) (locs1 : List Loc), va_P D vwCl (wr ++ post a) H1 → va_D A (wr ++ post a) → va_S A s.heap H1 locs1 → W p l e R s m args below meth c H1 locs1 (cells + mc) (slots + ms) Q (F0 m (pc + 3) ls rest)) : W p l e R s m args below meth c H locs cells slots Q (F0 m pc ls st0) := by
  have hts := F.1.2.2.2.2
  have hx : (wr ++ [(q, e0)])[wr.length]? = some (q, e0) := by simp
  have hPc : va_P D vwCl [(q, e0)] H := fun k y h => by
    have hk : k = 0 := by have := (List.getElem?_eq_some_iff.mp h).1; simp at this; exact this
    subst hk
    have hy : (q, e0) = y := by simpa using h
    subst hy
    exact hP wr.length _ hx
  have hDc : va_D (fun _ => True) [(q, e0)] := ⟨fun i j a b ha hb _ => by
    have h1 := (List.getElem?_eq_some_iff.mp ha).1
    have h2 := (List.getElem?_eq_some_iff.mp hb).1
    simp at h1 h2
    omega, fun _ _ _ => trivial⟩
  have hF : ∀ z, va_A [(q, e0)] H.size z → A z := fun z h => by
    rcases h with ⟨j, e, g⟩ | g
    · have hj : j = 0 := by have := (List.getElem?_eq_some_iff.mp g).1; simp at this; exact this
      subst hj
      have hg : (q, e0) = (z, e) := by simpa using g
      have := hD.2 wr.length _ hx
      rw [hg] at this
      exact this
    · exact hA z (Nat.le_trans hS.1 g)
  have hpre : PreS s H (va_Pc (.ref q :: As) (yPre D cy [(q, e0)] H.size)) (.ref q :: As) := ⟨yblind, fun U hU hW => ⟨rfl, by rw [hU], by rw [hU]; exact hPc, va_K.moved hW.alike F.2.1, F.2.2.warm hW, hN.warm hW, hDc⟩⟩
  have cw : CallB R s args own idx y bs mL none (.code y bs mL none :: AW) rm mc ms n ∧ y.name = "<init>" ∧ (Cond.instanceMethod y).before args s = true := ⟨callB_of n hts (aw_good hY.2.2.2.1) rfl hrm.1 hrm.2 (hts _ hY.2.2.1) (hts _ hlink) hY.2.2.2.2 hR, hY.2.1, hts _ hY.1⟩
  refine va_callv (va_runI (As := As) (rest := rest) F.1 (hC H.size) cw hpre rfl hn hls hst (lv_room h8) hdg hcs) hS (fun z _ h => hF z h) hF (fun a t H1 locs1 ht hvm hp hB hz hk hS => ?_)
  obtain ⟨hP1, hD1⟩ := hB
  rw [ht] at hP1
  obtain ⟨g1, g2⟩ := y_join hP hD hk hF hP1 hD1
  exact kk a H1 locs1 g1 g2 hS
theorem y_cN (F : zFx D cy p m c cc nL s args own) (hN : yNst s) (hls : ls.size = nL) {q : Nat} {e0 : va_E} (hP : va_P D vwCl (wr ++ [(q, e0)]) H) (hD : va_D A (wr ++ [(q, e0)])) (hS : va_S A s.heap H locs) (hA : ∀ q : Nat, s.heap.size ≤ q → A q) {post : (Nat → Nat) → va_W} {host : String} {mc ms n idx : Nat} (hC : yC l y bs mL rm (.ref q :: As) D cy [(q, e0)] post mc ms) (hY : yMth y bs mL n) (hlink : va_Nw (.methodLinkNest own idx y host) s) (hrm : rm.cells = mc ∧ rm.slots = ms) (hR : rm.frames + 1 ≤ R.frames ∧ 8 + (mL + 11) + rm.locals ≤ R.locals) (hn : As.length = n) {st0 : List Value} (hst : st0 = As.reverse ++ .ref q :: rest) (h8 : (rest.map fun v => v.category).sum ≤ 8) (hdg : decode cc pc = .ok (.invokespecial idx, 3)) (hcs : cells + mc ≤ R.cells ∧ slots + ms ≤ R.slots)
    (kk : ∀ (a : Nat → Nat) (H1 : Heap) (locs1 : List Loc), va_P D vwCl (wr ++ post a) H1 → va_D A (wr ++ post a) → va_S A s.heap H1 locs1 → W p l e R s m args below meth c H1 locs1 (cells + mc) (slots + ms) Q (F0 m (pc + 3) ls rest)) : W p l e R s m args below meth c H locs cells slots Q (F0 m pc ls st0) := by
  have hts := F.1.2.2.2.2
  have hx : (wr ++ [(q, e0)])[wr.length]? = some (q, e0) := by simp
  have hPc : va_P D vwCl [(q, e0)] H := fun k y h => by
    have hk : k = 0 := by have := (List.getElem?_eq_some_iff.mp h).1; simp at this; exact this
    subst hk
    have hy : (q, e0) = y := by simpa using h
    subst hy
    exact hP wr.length _ hx
  have hDc : va_D (fun _ => True) [(q, e0)] := ⟨fun i j a b ha hb _ => by
    have h1 := (List.getElem?_eq_some_iff.mp ha).1
    have h2 := (List.getElem?_eq_some_iff.mp hb).1
    simp at h1 h2
    omega, fun _ _ _ => trivial⟩
  have hF : ∀ z, va_A [(q, e0)] H.size z → A z := fun z h => by
    rcases h with ⟨j, e, g⟩ | g
    · have hj : j = 0 := by have := (List.getElem?_eq_some_iff.mp g).1; simp at this; exact this
      subst hj
      have hg : (q, e0) = (z, e) := by simpa using g
      have := hD.2 wr.length _ hx
      rw [hg] at this
      exact this
    · exact hA z (Nat.le_trans hS.1 g)
  have hpre : PreS s H (va_Pc (.ref q :: As) (yPre D cy [(q, e0)] H.size)) (.ref q :: As) := ⟨yblind, fun U hU hW => ⟨rfl, by rw [hU], by rw [hU]; exact hPc, va_K.moved hW.alike F.2.1, F.2.2.warm hW, hN.warm hW, hDc⟩⟩
  have cw : va_CN R s args own idx y host bs mL none (.code y bs mL none :: AW) rm mc ms n ∧ y.name = "<init>" ∧ (Cond.instanceMethod y).before args s = true := ⟨va_cnB n hts (aw_good hY.2.2.2.1) rfl hrm.1 hrm.2 hlink (hts _ hY.2.2.1) hY.2.2.2.2 hR, hY.2.1, hts _ hY.1⟩
  refine va_callv (va_runIN (As := As) (rest := rest) F.1 (hC H.size) cw hpre rfl hn hls hst (lv_room h8) hdg hcs) hS (fun z _ h => hF z h) hF (fun a t H1 locs1 ht hvm hp hB hz hk hS => ?_)
  obtain ⟨hP1, hD1⟩ := hB
  rw [ht] at hP1
  obtain ⟨g1, g2⟩ := y_join hP hD hk hF hP1 hD1
  exact kk a H1 locs1 g1 g2 hS
theorem y_na (F : zFx D cy p m c cc nL s args own) (hP : va_P D vwCl ws H) (hD : va_D A ws) (hS : va_S A s.heap H locs) (hA : ∀ q : Nat, s.heap.size ≤ q → A q) (k : Nat) {atype : ArrayType} {ty : FieldType} (hty : newarray.typeOf atype = ty) (hk : (ztyl cy)[k]? = some (cy (k + 13), ty)) (hra : ∀ (c : ClassId), va_RA s c ty → s.vm.findClass ("[" ++ ty.toString) = some c) (harr : Cond.arrayClass (newarray.typeOf atype) ∈ AW) {n : Int32} {N : Nat} {a0 : vp_A} (ha : ∀ cA : ClassId, vp_cell cA a0 = arrV cA N (fun _ => defaultValue ty)) (hn : ¬ n < 0) (hN : n.toNatClampNeg = N) (hbytes : N * componentBytes ty ≤ 536870912) (hc : cells + 1 ≤ R.cells) (hs : slots + N ≤ R.slots) (hdg : decode cc pc = .ok (.newarray atype, 2))
    (kk : ∀ (q : Nat) (H1 : Heap), va_P D vwCl (ws ++ [(q, .inl (cy (k + 13), a0))]) H1 → va_D A (ws ++ [(q, .inl (cy (k + 13), a0))]) → va_S A s.heap H1 locs → W p l e R s m args below meth c H1 locs (cells + 1) (slots + N) Q (F0 m (pc + 2) ls (.ref q :: rest))) : W p l e R s m args below meth c H locs cells slots Q (F0 m pc ls (.int n :: rest)) := by
  refine va_newa (D := D) F.1.1 F.1.2.1 (F.1.2.2.2.2 _ harr) hty F.2.1 hP hD hS hA ha hn hN hbytes hc hs hdg (fun q cA H1 hK hP hD hS => ?_)
  obtain rfl := y_cA hK k hk (y_ra hra)
  exact kk q H1 hP hD hS
theorem y_nq (F : zFx D cy p m c cc nL s args own) (hP : va_P D vwCl ws H) (hD : va_D A ws) (hS : va_S A s.heap H locs) (hA : ∀ q : Nat, s.heap.size ≤ q → A q) (k : Nat) {C : String} {idx : Nat} (hk : (ztyl cy)[k]? = some (cy (k + 13), .object C)) (hcl : Cond.classLink own idx C ∈ AW) (hover : va_AO C s) {n : Int32} {N : Nat} (hn : ¬ n < 0) (hN : n.toNatClampNeg = N) (hbytes : N * 4 ≤ 536870912) (hc : cells + 1 ≤ R.cells) (hs : slots + N ≤ R.slots) (hdg : decode cc pc = .ok (.anewarray idx, 3))
    (kk : ∀ (q : Nat) (H1 : Heap), va_P D vwCl (ws ++ [(q, .inl (cy (k + 13), N, .inr (.inr (.inr (.inr (fun _ => none))))))]) H1 → va_D A (ws ++ [(q, .inl (cy (k + 13), N, .inr (.inr (.inr (.inr (fun _ => none))))))]) → va_S A s.heap H1 locs → W p l e R s m args below meth c H1 locs (cells + 1) (slots + N) Q (F0 m (pc + 3) ls (.ref q :: rest))) : W p l e R s m args below meth c H locs cells slots Q (F0 m pc ls (.int n :: rest)) := by
  refine va_newq (D := D) F.1.1 F.1.2.1 F.1.2.2.2.1 (F.1.2.2.2.2 _ hcl) hover F.2.1 hP hD hS hA hn hN hbytes hc hs hdg (fun q cA H1 hK hP hD hS => ?_)
  obtain rfl := y_cA hK k hk (y_ra (fun c h => h.elim fun kA h => h.elim fun comp h => h.2.2.2))
  exact kk q H1 hP hD hS
end YROWS
