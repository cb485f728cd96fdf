/-! helpers of the walks -/
theorem zif_pos {c : Prop} [Decidable c] {α : Type} {A B r : α} (h : c) (hd : (if c then A else B) = r) : A = r := (if_pos h).symm.trans hd
theorem zif_neg {c : Prop} [Decidable c] {α : Type} {A B r : α} (h : ¬ c) (hd : (if c then A else B) = r) : B = r := (if_neg h).symm.trans hd
theorem znone {α : Type} {r : α} (h : (none : Option α) = some r) : False := by cases h
theorem zpr1 {α β : Type} {a c : α} {b d : β} (h : some (a, b) = some (c, d)) : a = c := congrArg Prod.fst (Option.some.inj h)
theorem zpr2 {α β : Type} {a c : α} {b d : β} (h : some (a, b) = some (c, d)) : b = d := congrArg Prod.snd (Option.some.inj h)
def zob2 {α β γ : Type} (x : Option (α × β)) (f : α → β → Option γ) : Option γ := match x with
  | none => none
  | some a => f a.1 a.2
theorem zob2_some {α β γ : Type} {x : Option (α × β)} {f : α → β → Option γ} {r : γ} (h : zob2 x f = some r) : ∃ a b, x = some (a, b) ∧ f a b = some r := by
  cases x with
  | none => cases h
  | some a => exact ⟨a.1, a.2, rfl, h⟩
theorem ziinc {x a b : Int32} (h : a = b) : x + a = x + b := h ▸ rfl
theorem zne {x c : Int32} (h : ¬ x = c) {a : Int} (ha : c.toInt = a) : x.toInt ≠ a := fun e => h (Int32.toInt_inj.mp (e.trans ha.symm))
theorem zisB_fit {v : Int32} (h : zisB v = true) : fits .boolean (.int v) = true := by
  unfold zisB at h
  rw [Bool.or_eq_true, decide_eq_true_eq, decide_eq_true_eq] at h
  rcases h with rfl | rfl <;> decide +kernel
theorem zci_ofF {l : Launch} {D : va_G} {cy : Nat → ClassId} {sh : zShp} {ad : Nat → Nat} {M M1 : zMem} {y : MethodName} {bs : ByteArray} {mL : Nat} {rm : Room} {As : List Value} {ret : FieldType} {r : Int32} (hy : plainFor y = true) (hlen : (lg_sl As).length ≤ mL)
    (body : ∀ (p : Program) (e : Env) (s : State) (m : MethodId) (below : List Frame) (meth : Method) (c : Code) (ls : Array Slot), zFx D cy p m c bs mL s As.toArray y.cls → meth.sig.returnType = some ret → meth.locks = false → lv_has ls mL (lv_args 0 As) → zWd D cy sh ad s M s.heap [] → W p l e rm s m As.toArray below meth c s.heap [] 0 0 (zQI below D cy sh ad s As r M1) (F0 m 0 ls [])) : zCI l y bs mL ret rm As D cy sh ad M r M1 := by
  intro sz
  refine va_MetF (cc := bs) (maxL := mL) (ret := some ret) hy rfl ?_
  intro p e s m args below meth c s₁ B hml hv
  obtain ⟨rfl, hsz, hP, hK, hN, hD, hTy⟩ := hv
  subst hsz
  have hts := atoms_spec (ws := .code y bs mL (some ret) :: AW) B.pre
  have hl := lv_entry As (n := mL) hlen
  rw [lg_entry_eq]
  generalize (lg_sl As ++ List.replicate (mL - (lg_sl As).length) Slot.unset).toArray = ls at hl ⊢
  exact body p e s m below meth c ls ⟨⟨B.exec, B.bytes, hml, findClass_of_methodNamed B.named, fun w h => hts w (List.mem_cons_of_mem _ h)⟩, hK, hN⟩ B.returns B.notSynchronized hl ⟨hP, zD_all hD (fun k h => zA_in h), va_S.rf, hTy⟩
def zF : Nat := 1000000
def zrem (x y : Int32) : Int32 := x - x / y * y
theorem z_irem {p : Program} {l : Launch} {e : Env} {R : Room} {s : State} {m : MethodId} {args : Array Value} {below : List Frame} {meth : Method} {c : Code} {H : Heap} {locs : List Loc} {cells slots : Nat} {Q : State → Prop} {cc : ByteArray} {pc : Nat} {ls : Array Slot} {rest : List Value} (hexec : p.tables.exec = Jvm.exec) (hb : c.code = cc) {x y : Int32} (hdg : decode cc pc = .ok (.irem, 1)) (hne : ¬ y = 0) (k : W p l e R s m args below meth c H locs cells slots Q (F0 m (pc + 1) ls (.int (zrem x y) :: rest))) : W p l e R s m args below meth c H locs cells slots Q (F0 m pc ls (.int y :: .int x :: rest)) := lv_irem hexec hb hdg hne k
