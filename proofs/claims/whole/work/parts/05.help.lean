/-! helpers of the walks -/
theorem zif_pos {c : Prop} [Decidable c] {α : Type} {A B r : α} (h : c) (hd : (if c then A else B) = r) : A = r := (if_pos h).symm.trans hd
theorem zif_neg {c : Prop} [Decidable c] {α : Type} {A B r : α} (h : ¬ c) (hd : (if c then A else B) = r) : B = r := (if_neg h).symm.trans hd
theorem znone {α : Type} {r : α} (h : (none : Option α) = some r) : False := by cases h
theorem zpr1 {α β : Type} {a c : α} {b d : β} (h : some (a, b) = some (c, d)) : a = c := congrArg Prod.fst (Option.some.inj h)
theorem zpr2 {α β : Type} {a c : α} {b d : β} (h : some (a, b) = some (c, d)) : b = d := congrArg Prod.snd (Option.some.inj h)
def zob2 {α β γ : Type} (x : Option (α × β)) (f : α → β → Option γ) : Option γ := match x with
  | none => none
  | some a => f a.1 a.2
theorem zob2_some {α β γ : Type} {x : Option (α × β)} {f : α → β → Option γ} {r : γ} (h : zob2 x f = some r) : ∃ a b, x = some (a, b) ∧ f a b = some r := by
  cases x with
  | none => cases h
  | some a => exact ⟨a.1, a.2, rfl, h⟩
theorem ziinc {x a b : Int32} (h : a = b) : x + a = x + b := h ▸ rfl
theorem zne {x c : Int32} (h : ¬ x = c) {a : Int} (ha : c.toInt = a) : x.toInt ≠ a := fun e => h (Int32.toInt_inj.mp (e.trans ha.symm))
theorem zisB_fit {v : Int32} (h : zisB v = true) : fits .boolean (.int v) = true := by
  unfold zisB at h
  rw [Bool.or_eq_true, decide_eq_true_eq, decide_eq_true_eq] at h
  rcases h with rfl | rfl <;> decide +kernel
def zF : Nat := 1000000
def zrem (x y : Int32) : Int32 := x - x / y * y
theorem z_irem {p : Program} {l : Launch} {e : Env} {R : Room} {s : State} {m : MethodId} {args : Array Value} {below : List Frame} {meth : Method} {c : Code} {H : Heap} {locs : List Loc} {cells slots : Nat} {Q : State → Prop} {cc : ByteArray} {pc : Nat} {ls : Array Slot} {rest : List Value} (hexec : p.tables.exec = Jvm.exec) (hb : c.code = cc) {x y : Int32} (hdg : decode cc pc = .ok (.irem, 1)) (hne : ¬ y = 0) (k : W p l e R s m args below meth c H locs cells slots Q (F0 m (pc + 1) ls (.int (zrem x y) :: rest))) : W p l e R s m args below meth c H locs cells slots Q (F0 m pc ls (.int y :: .int x :: rest)) := lv_irem hexec hb hdg hne k
