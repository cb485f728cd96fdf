/-! contracts over a world, and the rows of calls and returns -/
def zCI (l : Launch) (y : MethodName) (bs : ByteArray) (mL : Nat) (ret : FieldType) (rm : Room) (As : List Value) (D : va_G) (cy : Nat → ClassId) (sh : zShp) (ad : Nat → Nat) (M : zMem) (r : Int32) (M1 : zMem) : Prop := ∀ sz : Nat, Met l y (.code y bs mL (some ret) :: AW) rm (va_Pc As (zPre D cy sh ad M sz)) (va_Qi (fun (r' : Int32) (u : zMem) => r' = r ∧ u = M1) (zPost D cy sh ad sz) (zA sh ad sz)) 0 0 (zA sh ad sz)
def zCV (l : Launch) (y : MethodName) (bs : ByteArray) (mL : Nat) (rm : Room) (As : List Value) (D : va_G) (cy : Nat → ClassId) (sh : zShp) (ad : Nat → Nat) (M : zMem) (M1 : zMem) : Prop := ∀ sz : Nat, Met l y (.code y bs mL none :: AW) rm (va_Pc As (zPre D cy sh ad M sz)) (va_Qv (fun (u : zMem) => u = M1) (zPost D cy sh ad sz) (zA sh ad sz)) 0 0 (zA sh ad sz)
def zQI (below : List Frame) (D : va_G) (cy : Nat → ClassId) (sh : zShp) (ad : Nat → Nat) (s : State) (As : List Value) (r : Int32) (M1 : zMem) : State → Prop := MQ below (va_Qi (fun (r' : Int32) (u : zMem) => r' = r ∧ u = M1) (zPost D cy sh ad s.heap.size) (zA sh ad s.heap.size)) As.toArray s 0 0 (zA sh ad s.heap.size)
def zQV (below : List Frame) (D : va_G) (cy : Nat → ClassId) (sh : zShp) (ad : Nat → Nat) (s : State) (As : List Value) (M1 : zMem) : State → Prop := MQ below (va_Qv (fun (u : zMem) => u = M1) (zPost D cy sh ad s.heap.size) (zA sh ad s.heap.size)) As.toArray s 0 0 (zA sh ad s.heap.size)
def zMth (y : MethodName) (bs : ByteArray) (mL : Nat) (ret : Option FieldType) (n : Nat) : Prop := Cond.instanceMethod y ∈ AW ∧ Cond.selects y.cls y y ∈ AW ∧ Cond.initialized y.cls ∈ AW ∧ Cond.code y bs mL ret ∈ AW ∧ (y.cls ≠ "java/lang/invoke/MethodHandle" ∧ y.cls ≠ "java/lang/invoke/VarHandle" ∧ (parseMethodDescriptor y.desc).map (fun d => d.parameters.length) = some n)
def zMtS (y : MethodName) (bs : ByteArray) (mL : Nat) (ret : Option FieldType) (n : Nat) : Prop := Cond.static y ∈ AW ∧ Cond.initialized y.cls ∈ AW ∧ Cond.code y bs mL ret ∈ AW ∧ (y.cls ≠ "java/lang/invoke/MethodHandle" ∧ y.cls ≠ "java/lang/invoke/VarHandle" ∧ (parseMethodDescriptor y.desc).map (fun d => d.parameters.length) = some n)
theorem zblind {As : List Value} {D : va_G} {cy : Nat → ClassId} {sh : zShp} {ad : Nat → Nat} {M : zMem} {sz : Nat} : FrameBlind (va_Pc As (zPre D cy sh ad M sz)) := fun a U g mk q => by
  obtain ⟨q0, q1, qP, qK, qN, qD, qT⟩ := q
  exact ⟨q0, q1, qP, va_K.moved (u := U) (U := U.calling g mk a) (Vm.Alike.refl U.vm) qK, zNst.same rfl qN, qD, qT⟩
section ZCALL
variable {p : Program} {l : Launch} {e : Env} {R : Room} {s : State} {m : MethodId} {args : Array Value} {below : List Frame} {meth : Method} {c : Code} {H : Heap} {locs : List Loc} {Q : State → Prop}
variable {cc : ByteArray} {pc nL : Nat} {ls : Array Slot} {rest : List Value} {own : String} {D : va_G} {cy : Nat → ClassId} {sh : zShp} {ad : Nat → Nat} {M M1 : zMem} {y : MethodName} {bs : ByteArray} {mL : Nat} {rm : Room} {As : List Value}
theorem zci_of {ret : FieldType} {r : Int32} (hy : plainName y.cls = true) (hlen : (lg_sl As).length ≤ mL)
    (body : ∀ (p : Program) (e : Env) (s : State) (m : MethodId) (below : List Frame) (meth : Method) (c : Code) (ls : Array Slot), zFx D cy p m c bs mL s As.toArray y.cls → meth.sig.returnType = some ret → meth.locks = false → lv_has ls mL (lv_args 0 As) → zWd D cy sh ad s M s.heap [] → W p l e rm s m As.toArray below meth c s.heap [] 0 0 (zQI below D cy sh ad s As r M1) (F0 m 0 ls [])) : zCI l y bs mL ret rm As D cy sh ad M r M1 := by
  intro sz
  refine Met.ofW (cc := bs) (maxL := mL) (ret := some ret) hy rfl ?_
  intro p e s m args below meth c s₁ B hml hv
  obtain ⟨rfl, hsz, hP, hK, hN, hD, hTy⟩ := hv
  subst hsz
  have hts := atoms_spec (ws := .code y bs mL (some ret) :: AW) B.pre
  have hl := lv_entry As (n := mL) hlen
  rw [lg_entry_eq]
  generalize (lg_sl As ++ List.replicate (mL - (lg_sl As).length) Slot.unset).toArray = ls at hl ⊢
  exact body p e s m below meth c ls ⟨⟨B.exec, B.bytes, hml, findClass_of_methodNamed B.named, fun w h => hts w (List.mem_cons_of_mem _ h)⟩, hK, hN⟩ B.returns B.notSynchronized hl ⟨hP, zD_all hD (fun k h => zA_in h), va_S.rf, hTy⟩
theorem zcv_of (hy : plainName y.cls = true) (hlen : (lg_sl As).length ≤ mL)
    (body : ∀ (p : Program) (e : Env) (s : State) (m : MethodId) (below : List Frame) (meth : Method) (c : Code) (ls : Array Slot), zFx D cy p m c bs mL s As.toArray y.cls → meth.sig.returnType = none → meth.locks = false → lv_has ls mL (lv_args 0 As) → zWd D cy sh ad s M s.heap [] → W p l e rm s m As.toArray below meth c s.heap [] 0 0 (zQV below D cy sh ad s As M1) (F0 m 0 ls [])) : zCV l y bs mL rm As D cy sh ad M M1 := by
  intro sz
  refine Met.ofW (cc := bs) (maxL := mL) (ret := none) hy rfl ?_
  intro p e s m args below meth c s₁ B hml hv
  obtain ⟨rfl, hsz, hP, hK, hN, hD, hTy⟩ := hv
  subst hsz
  have hts := atoms_spec (ws := .code y bs mL none :: AW) B.pre
  have hl := lv_entry As (n := mL) hlen
  rw [lg_entry_eq]
  generalize (lg_sl As ++ List.replicate (mL - (lg_sl As).length) Slot.unset).toArray = ls at hl ⊢
  exact body p e s m below meth c ls ⟨⟨B.exec, B.bytes, hml, findClass_of_methodNamed B.named, fun w h => hts w (List.mem_cons_of_mem _ h)⟩, hK, hN⟩ B.returns B.notSynchronized hl ⟨hP, zD_all hD (fun k h => zA_in h), va_S.rf, hTy⟩
theorem z_iret {r v : Int32} {Mx : zMem} (F : zFx D cy p m c cc nL s As.toArray own) (hr : meth.sig.returnType = some .int) (hlk : meth.locks = false) (hw : zWd D cy sh ad s Mx H locs) (hv : v = r) (hM : Mx = M1) (hdg : decode cc pc = .ok (.ireturn, 1)) : W p l e R s m As.toArray below meth c H locs 0 0 (zQI below D cy sh ad s As r M1) (F0 m pc ls [.int v]) := by
  unfold zQI
  exact W.iret F.1.1 F.1.2.1 hr (fun t ht hW => ⟨⟨v, Mx, rfl, ⟨hv, hM⟩, by rw [ht]; exact hw.1, hw.2.1, hw.2.2.2⟩, hw.2.2.1.F ht⟩) hw.2.2.1.2.2 hdg hlk
theorem z_zret {r v : Int32} {Mx : zMem} (F : zFx D cy p m c cc nL s As.toArray own) (hr : meth.sig.returnType = some .boolean) (hlk : meth.locks = false) (hw : zWd D cy sh ad s Mx H locs) (hn : zisB v = true) (hv : v = r) (hM : Mx = M1) (hdg : decode cc pc = .ok (.ireturn, 1)) : W p l e R s m As.toArray below meth c H locs 0 0 (zQI below D cy sh ad s As r M1) (F0 m pc ls [.int v]) := by
  unfold zQI
  exact W.zret F.1.1 F.1.2.1 hr (zisB_nar hn) (fun t ht hW => ⟨⟨v, Mx, rfl, ⟨hv, hM⟩, by rw [ht]; exact hw.1, hw.2.1, hw.2.2.2⟩, hw.2.2.1.F ht⟩) hw.2.2.1.2.2 hdg hlk
theorem z_vret {Mx : zMem} (F : zFx D cy p m c cc nL s As.toArray own) (hr : meth.sig.returnType = none) (hlk : meth.locks = false) (hw : zWd D cy sh ad s Mx H locs) (hM : Mx = M1) (hdg : decode cc pc = .ok (.return_, 1)) : W p l e R s m As.toArray below meth c H locs 0 0 (zQV below D cy sh ad s As M1) (F0 m pc ls []) := by
  unfold zQV
  exact W.vret F.1.1 F.1.2.1 hr (fun t ht hW => ⟨⟨Mx, rfl, hM, by rw [ht]; exact hw.1, hw.2.1, hw.2.2.2⟩, hw.2.2.1.F ht⟩) hw.2.2.1.2.2 hdg hlk
theorem z_cvI (F : zFx D cy p m c cc nL s args own) (hw : zWd D cy sh ad s M H locs) (hls : ls.size = nL) {ret : FieldType} {r : Int32} {k ci n idx N : Nat} {TT : u_T} {ty : Nat → FieldType} (hC : zCI l y bs mL ret rm (.ref (ad k) :: As) D cy sh ad M r M1) (hY : zMth y bs mL (some ret) n) (hT : zT sh k ci) (hc : zCls ci y.cls TT ty N) (hlink : Cond.methodLink own idx y ∈ AW) (hrm : rm.cells = 0 ∧ rm.slots = 0) (hR : rm.frames + 1 ≤ R.frames ∧ 8 + (mL + 11) + rm.locals ≤ R.locals) (hn : As.length = n) {st0 : List Value} (hst : st0 = As.reverse ++ .ref (ad k) :: rest) (h8 : (rest.map fun v => v.category).sum ≤ 8) (hdg : decode cc pc = .ok (.invokevirtual idx, 3))
    (kk : ∀ (H1 : Heap) (locs1 : List Loc), zWd D cy sh ad s M1 H1 locs1 → W p l e R s m args below meth c H1 locs1 0 0 Q (F0 m (pc + 3) ls (.int r :: rest))) : W p l e R s m args below meth c H locs 0 0 Q (F0 m pc ls st0) := by
  have hts := F.1.2.2.2.2
  have hpre : PreV s H y.cls (ad k) (va_Pc (.ref (ad k) :: As) (zPre D cy sh ad M H.size)) As := ⟨zblind, va_recv F.2.1 hw.1 hc.2.1 (zW_obj hT hc.1), fun U hU hW => ⟨rfl, by rw [hU], by rw [hU]; exact hw.1, va_K.moved hW.alike F.2.1, F.2.2.warm hW, zD_all hw.2.1 (fun _ _ => trivial), hw.2.2.2⟩⟩
  have cw : CallW R s args own y.cls idx y bs mL (some ret) (.code y bs mL (some ret) :: AW) rm 0 0 n := ⟨callB_of n hts (aw_good hY.2.2.2.1) rfl hrm.1 hrm.2 (hts _ hY.2.2.1) (hts _ hlink) hY.2.2.2.2 hR, hts _ hY.1, hts _ hY.2.1⟩
  refine va_calli (va_runV (As := As) (rest := rest) F.1 (hC H.size) cw hpre rfl hn hls hst (lv_room h8) hdg ⟨Nat.zero_le _, Nat.zero_le _⟩) hw.2.2.1 (fun q _ h => zA_le hw.2.2.1.1 h) (fun q h => zA_le hw.2.2.1.1 h) (fun r1 u t H1 locs1 ht hvm hp hB hz hk hS => ?_)
  obtain ⟨rfl, rfl⟩ := hp
  obtain ⟨hP1, hD1, hT1⟩ := hB
  exact kk H1 locs1 ⟨by rw [ht] at hP1; exact hP1, zD_all hD1 (fun k h => zA_in h), hS, hT1⟩
theorem z_cvV (F : zFx D cy p m c cc nL s args own) (hw : zWd D cy sh ad s M H locs) (hls : ls.size = nL) {k ci n idx N : Nat} {TT : u_T} {ty : Nat → FieldType} (hC : zCV l y bs mL rm (.ref (ad k) :: As) D cy sh ad M M1) (hY : zMth y bs mL none n) (hT : zT sh k ci) (hc : zCls ci y.cls TT ty N) (hlink : Cond.methodLink own idx y ∈ AW) (hrm : rm.cells = 0 ∧ rm.slots = 0) (hR : rm.frames + 1 ≤ R.frames ∧ 8 + (mL + 11) + rm.locals ≤ R.locals) (hn : As.length = n) {st0 : List Value} (hst : st0 = As.reverse ++ .ref (ad k) :: rest) (h8 : (rest.map fun v => v.category).sum ≤ 8) (hdg : decode cc pc = .ok (.invokevirtual idx, 3))
    (kk : ∀ (H1 : Heap) (locs1 : List Loc), zWd D cy sh ad s M1 H1 locs1 → W p l e R s m args below meth c H1 locs1 0 0 Q (F0 m (pc + 3) ls rest)) : W p l e R s m args below meth c H locs 0 0 Q (F0 m pc ls st0) := by
  have hts := F.1.2.2.2.2
  have hpre : PreV s H y.cls (ad k) (va_Pc (.ref (ad k) :: As) (zPre D cy sh ad M H.size)) As := ⟨zblind, va_recv F.2.1 hw.1 hc.2.1 (zW_obj hT hc.1), fun U hU hW => ⟨rfl, by rw [hU], by rw [hU]; exact hw.1, va_K.moved hW.alike F.2.1, F.2.2.warm hW, zD_all hw.2.1 (fun _ _ => trivial), hw.2.2.2⟩⟩
  have cw : CallW R s args own y.cls idx y bs mL none (.code y bs mL none :: AW) rm 0 0 n := ⟨callB_of n hts (aw_good hY.2.2.2.1) rfl hrm.1 hrm.2 (hts _ hY.2.2.1) (hts _ hlink) hY.2.2.2.2 hR, hts _ hY.1, hts _ hY.2.1⟩
  refine va_callv (va_runV (As := As) (rest := rest) F.1 (hC H.size) cw hpre rfl hn hls hst (lv_room h8) hdg ⟨Nat.zero_le _, Nat.zero_le _⟩) hw.2.2.1 (fun q _ h => zA_le hw.2.2.1.1 h) (fun q h => zA_le hw.2.2.1.1 h) (fun u t H1 locs1 ht hvm hp hB hz hk hS => ?_)
  subst hp
  obtain ⟨hP1, hD1, hT1⟩ := hB
  exact kk H1 locs1 ⟨by rw [ht] at hP1; exact hP1, zD_all hD1 (fun k h => zA_in h), hS, hT1⟩
theorem z_csI (F : zFx D cy p m c cc nL s args own) (hw : zWd D cy sh ad s M H locs) (hls : ls.size = nL) {ret : FieldType} {r : Int32} {n idx : Nat} (hC : zCI l y bs mL ret rm As D cy sh ad M r M1) (hY : zMtS y bs mL (some ret) n) (hlink : Cond.methodLink own idx y ∈ AW) (hrm : rm.cells = 0 ∧ rm.slots = 0) (hR : rm.frames + 1 ≤ R.frames ∧ 8 + (mL + 11) + rm.locals ≤ R.locals) (hn : As.length = n) {st0 : List Value} (hst : st0 = As.reverse ++ rest) (h8 : (rest.map fun v => v.category).sum ≤ 8) (hdg : decode cc pc = .ok (.invokestatic idx, 3))
    (kk : ∀ (H1 : Heap) (locs1 : List Loc), zWd D cy sh ad s M1 H1 locs1 → W p l e R s m args below meth c H1 locs1 0 0 Q (F0 m (pc + 3) ls (.int r :: rest))) : W p l e R s m args below meth c H locs 0 0 Q (F0 m pc ls st0) := by
  have hts := F.1.2.2.2.2
  have hpre : PreS s H (va_Pc As (zPre D cy sh ad M H.size)) As := ⟨zblind, fun U hU hW => ⟨rfl, by rw [hU], by rw [hU]; exact hw.1, va_K.moved hW.alike F.2.1, F.2.2.warm hW, zD_all hw.2.1 (fun _ _ => trivial), hw.2.2.2⟩⟩
  have cw : CallB R s args own idx y bs mL (some ret) (.code y bs mL (some ret) :: AW) rm 0 0 n ∧ (Cond.static y).before args s = true := ⟨callB_of n hts (aw_good hY.2.2.1) rfl hrm.1 hrm.2 (hts _ hY.2.1) (hts _ hlink) hY.2.2.2 hR, hts _ hY.1⟩
  refine va_calli (va_runS (As := As) (rest := rest) F.1 (hC H.size) cw hpre rfl hn hls hst (lv_room h8) hdg ⟨Nat.zero_le _, Nat.zero_le _⟩) hw.2.2.1 (fun q _ h => zA_le hw.2.2.1.1 h) (fun q h => zA_le hw.2.2.1.1 h) (fun r1 u t H1 locs1 ht hvm hp hB hz hk hS => ?_)
  obtain ⟨rfl, rfl⟩ := hp
  obtain ⟨hP1, hD1, hT1⟩ := hB
  exact kk H1 locs1 ⟨by rw [ht] at hP1; exact hP1, zD_all hD1 (fun k h => zA_in h), hS, hT1⟩
theorem z_cnI (F : zFx D cy p m c cc nL s args own) (hw : zWd D cy sh ad s M H locs) (hls : ls.size = nL) {host : String} {ret : FieldType} {r : Int32} {n idx : Nat} (hC : zCI l y bs mL ret rm As D cy sh ad M r M1) (hY : zMtS y bs mL (some ret) n) (hlink : va_Nw (.methodLinkNest own idx y host) s) (hrm : rm.cells = 0 ∧ rm.slots = 0) (hR : rm.frames + 1 ≤ R.frames ∧ 8 + (mL + 11) + rm.locals ≤ R.locals) (hn : As.length = n) {st0 : List Value} (hst : st0 = As.reverse ++ rest) (h8 : (rest.map fun v => v.category).sum ≤ 8) (hdg : decode cc pc = .ok (.invokestatic idx, 3))
    (kk : ∀ (H1 : Heap) (locs1 : List Loc), zWd D cy sh ad s M1 H1 locs1 → W p l e R s m args below meth c H1 locs1 0 0 Q (F0 m (pc + 3) ls (.int r :: rest))) : W p l e R s m args below meth c H locs 0 0 Q (F0 m pc ls st0) := by
  have hts := F.1.2.2.2.2
  have hpre : PreS s H (va_Pc As (zPre D cy sh ad M H.size)) As := ⟨zblind, fun U hU hW => ⟨rfl, by rw [hU], by rw [hU]; exact hw.1, va_K.moved hW.alike F.2.1, F.2.2.warm hW, zD_all hw.2.1 (fun _ _ => trivial), hw.2.2.2⟩⟩
  have cw : va_CN R s args own idx y host bs mL (some ret) (.code y bs mL (some ret) :: AW) rm 0 0 n ∧ (Cond.static y).before args s = true ∧ True := ⟨va_cnB n hts (aw_good hY.2.2.1) rfl hrm.1 hrm.2 hlink (hts _ hY.2.1) hY.2.2.2 hR, hts _ hY.1, trivial⟩
  refine va_calli (va_runSN (As := As) (rest := rest) F.1 (hC H.size) cw hpre rfl hn hls hst (lv_room h8) hdg ⟨Nat.zero_le _, Nat.zero_le _⟩) hw.2.2.1 (fun q _ h => zA_le hw.2.2.1.1 h) (fun q h => zA_le hw.2.2.1.1 h) (fun r1 u t H1 locs1 ht hvm hp hB hz hk hS => ?_)
  obtain ⟨rfl, rfl⟩ := hp
  obtain ⟨hP1, hD1, hT1⟩ := hB
  exact kk H1 locs1 ⟨by rw [ht] at hP1; exact hP1, zD_all hD1 (fun k h => zA_in h), hS, hT1⟩
end ZCALL
theorem zmx1 : Cond.static Lib.Math.max.name ∈ AW := aw_mem (by decide +kernel) rfl
theorem zmx2 : Cond.initialized "java/lang/Math" ∈ AW := aw_mem (by decide +kernel) rfl
theorem zmx3 : Cond.code Lib.Math.max.name Lib.Math.max.code 2 (some .int) ∈ AW := aw_mem (by decide +kernel) rfl
theorem zmn1 : Cond.static Lib.Math.min.name ∈ AW := aw_mem (by decide +kernel) rfl
theorem zmn3 : Cond.code Lib.Math.min.name Lib.Math.min.code 2 (some .int) ∈ AW := aw_mem (by decide +kernel) rfl
theorem zma1 : Cond.static Lib.Math.abs.name ∈ AW := aw_mem (by decide +kernel) rfl
theorem zma3 : Cond.code Lib.Math.abs.name Lib.Math.abs.code 1 (some .int) ∈ AW := aw_mem (by decide +kernel) rfl
theorem zac1 : Cond.native arraycopyName ∈ AW := aw_mem (by decide +kernel) rfl
theorem zac2 : Cond.static arraycopyName ∈ AW := aw_mem (by decide +kernel) rfl
theorem zac3 : Cond.initialized "java/lang/System" ∈ AW := aw_mem (by decide +kernel) rfl
def zmax (x y : Int32) : Int32 := if x < y then y else x
def zmin (x y : Int32) : Int32 := if y < x then y else x
def zabs (x : Int32) : Int32 := if 0 ≤ x then x else 0 - x
section ZMATH
variable {p : Program} {l : Launch} {e : Env} {R : Room} {s : State} {m : MethodId} {args : Array Value} {below : List Frame} {meth : Method} {c : Code} {H : Heap} {locs : List Loc} {Q : State → Prop}
variable {cc : ByteArray} {pc nL : Nat} {ls : Array Slot} {rest : List Value} {own : String} {D : va_G} {cy : Nat → ClassId}
theorem z_mmax (F : zFx D cy p m c cc nL s args own) (hls : ls.size = nL) {idx : Nat} (hlink : Cond.methodLink own idx Lib.Math.max.name ∈ AW) (hf : 1 ≤ R.frames) (hL : (rest.map fun v => v.category).sum + 13 ≤ R.locals) {x y : Int32} (hdg : decode cc pc = .ok (.invokestatic idx, 3)) (kk : W p l e R s m args below meth c H locs 0 0 Q (F0 m (pc + 3) ls (.int (zmax x y) :: rest))) : W p l e R s m args below meth c H locs 0 0 Q (F0 m pc ls (.int y :: .int x :: rest)) :=
  va_mmax F.1.1 F.1.2.1 (F.1.2.2.1.trans hls.symm) F.1.2.2.2.1 (F.1.2.2.2.2 _ hlink) (F.1.2.2.2.2 _ zmx1) (F.1.2.2.2.2 _ zmx2) (F.1.2.2.2.2 _ zmx3) hf hL (Nat.zero_le _) (Nat.zero_le _) hdg kk
theorem z_mmin (F : zFx D cy p m c cc nL s args own) (hls : ls.size = nL) {idx : Nat} (hlink : Cond.methodLink own idx Lib.Math.min.name ∈ AW) (hf : 1 ≤ R.frames) (hL : (rest.map fun v => v.category).sum + 13 ≤ R.locals) {x y : Int32} (hdg : decode cc pc = .ok (.invokestatic idx, 3)) (kk : W p l e R s m args below meth c H locs 0 0 Q (F0 m (pc + 3) ls (.int (zmin x y) :: rest))) : W p l e R s m args below meth c H locs 0 0 Q (F0 m pc ls (.int y :: .int x :: rest)) :=
  va_mmin F.1.1 F.1.2.1 (F.1.2.2.1.trans hls.symm) F.1.2.2.2.1 (F.1.2.2.2.2 _ hlink) (F.1.2.2.2.2 _ zmn1) (F.1.2.2.2.2 _ zmx2) (F.1.2.2.2.2 _ zmn3) hf hL (Nat.zero_le _) (Nat.zero_le _) hdg kk
theorem z_mabs (F : zFx D cy p m c cc nL s args own) (hls : ls.size = nL) {idx : Nat} (hlink : Cond.methodLink own idx Lib.Math.abs.name ∈ AW) (hf : 1 ≤ R.frames) (hL : (rest.map fun v => v.category).sum + 13 ≤ R.locals) {x : Int32} (hdg : decode cc pc = .ok (.invokestatic idx, 3)) (kk : W p l e R s m args below meth c H locs 0 0 Q (F0 m (pc + 3) ls (.int (zabs x) :: rest))) : W p l e R s m args below meth c H locs 0 0 Q (F0 m pc ls (.int x :: rest)) :=
  va_mabs F.1.1 F.1.2.1 (F.1.2.2.1.trans hls.symm) F.1.2.2.2.1 (F.1.2.2.2.2 _ hlink) (F.1.2.2.2.2 _ zma1) (F.1.2.2.2.2 _ zmx2) (F.1.2.2.2.2 _ zma3) hf hL (Nat.zero_le _) (Nat.zero_le _) hdg kk
end ZMATH
