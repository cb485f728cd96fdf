/-! helpers of the walks -/
theorem zif_pos {c : Prop} [Decidable c] {α : Type} {A B r : α} (h : c) (hd : (if c then A else B) = r) : A = r := (if_pos h).symm.trans hd
theorem zif_neg {c : Prop} [Decidable c] {α : Type} {A B r : α} (h : ¬ c) (hd : (if c then A else B) = r) : B = r := (if_neg h).symm.trans hd
theorem znone {α : Type} {r : α} (h : (none : Option α) = some r) : False := by cases h
theorem zpr1 {α β : Type} {a c : α} {b d : β} (h : some (a, b) = some (c, d)) : a = c := congrArg Prod.fst (Option.some.inj h)
theorem zpr2 {α β : Type} {a c : α} {b d : β} (h : some (a, b) = some (c, d)) : b = d := congrArg Prod.snd (Option.some.inj h)
def zob2 {α β γ : Type} (x : Option (α × β)) (f : α → β → Option γ) : Option γ := match x with
  | none => none
  | some a => f a.1 a.2
theorem zob2_some {α β γ : Type} {x : Option (α × β)} {f : α → β → Option γ} {r : γ} (h : zob2 x f = some r) : ∃ a b, x = some (a, b) ∧ f a b = some r := by
  cases x with
  | none => cases h
  | some a => exact ⟨a.1, a.2, rfl, h⟩
theorem ziinc {x a b : Int32} (h : a = b) : x + a = x + b := h ▸ rfl
theorem zne {x c : Int32} (h : ¬ x = c) {a : Int} (ha : c.toInt = a) : x.toInt ≠ a := fun e => h (Int32.toInt_inj.mp (e.trans ha.symm))
def zF : Nat := 1000000
def zrem (x y : Int32) : Int32 := x - x / y * y
theorem z_irem {p : Program} {l : Launch} {e : Env} {R : Room} {s : State} {m : MethodId} {args : Array Value} {below : List Frame} {meth : Method} {c : Code} {H : Heap} {locs : List Loc} {cells slots : Nat} {Q : State → Prop} {cc : ByteArray} {pc : Nat} {ls : Array Slot} {rest : List Value} (hexec : p.tables.exec = Jvm.exec) (hb : c.code = cc) {x y : Int32} (hdg : decode cc pc = .ok (.irem, 1)) (hne : ¬ y = 0) (k : W p l e R s m args below meth c H locs cells slots Q (F0 m (pc + 1) ls (.int (zrem x y) :: rest))) : W p l e R s m args below meth c H locs cells slots Q (F0 m pc ls (.int y :: .int x :: rest)) := lv_irem hexec hb hdg hne k
theorem zf5_9 : Cond.fieldLink RX5 9 "MicroSteps$Ramp" "gone" "[I" ∈ AW := aw_mem (by decide +kernel) rfl
theorem zf7_22 : Cond.fieldLink RX7 22 "MicroSteps$Rotor" "at" "I" ∈ AW := aw_mem (by decide +kernel) rfl
theorem zf7_25 : Cond.fieldLink RX7 25 "MicroSteps$Rotor" "place" "I" ∈ AW := aw_mem (by decide +kernel) rfl
theorem zf7_28 : Cond.fieldLink RX7 28 "MicroSteps$Rotor" "swing" "I" ∈ AW := aw_mem (by decide +kernel) rfl
theorem zf7_31 : Cond.fieldLink RX7 31 "MicroSteps$Rotor" "load" "I" ∈ AW := aw_mem (by decide +kernel) rfl
theorem zf7_40 : Cond.fieldLink RX7 40 "MicroSteps$Axis" "hold" "I" ∈ AW := aw_mem (by decide +kernel) rfl
theorem zf7_45 : Cond.fieldLink RX7 45 "MicroSteps$Table" "plain" "[I" ∈ AW := aw_mem (by decide +kernel) rfl
theorem zf7_59 : Cond.fieldLink RX7 59 "MicroSteps$Axis" "mass" "I" ∈ AW := aw_mem (by decide +kernel) rfl
theorem zf7_66 : Cond.fieldLink RX7 66 "MicroSteps$Axis" "damp" "I" ∈ AW := aw_mem (by decide +kernel) rfl
theorem zk7_51 : Cond.methodLink RX7 51 yX7_angle ∈ AW := aw_mem (by decide +kernel) rfl
theorem zk7_55 : Cond.methodLink RX7 55 yX9_wave ∈ AW := aw_mem (by decide +kernel) rfl
theorem zk7_62 : Cond.methodLink RX7 62 yX7_push ∈ AW := aw_mem (by decide +kernel) rfl
theorem zk7_69 : Cond.methodLink RX7 69 Lib.Math.min.name ∈ AW := aw_mem (by decide +kernel) rfl
theorem zk7_72 : Cond.methodLink RX7 72 Lib.Math.max.name ∈ AW := aw_mem (by decide +kernel) rfl
theorem zyX7_angle : zMth yX7_angle cX7_angle 1 (some .int) 0 := ⟨aw_mem (by decide +kernel) rfl, aw_mem (by decide +kernel) rfl, aw_mem (by decide +kernel) rfl, aw_mem (by decide +kernel) rfl, by decide +kernel⟩
theorem zyX7_push : zMth yX7_push cX7_push 4 (some .int) 2 := ⟨aw_mem (by decide +kernel) rfl, aw_mem (by decide +kernel) rfl, aw_mem (by decide +kernel) rfl, aw_mem (by decide +kernel) rfl, by decide +kernel⟩
theorem zyX9_wave : zMtS yX9_wave cX9_wave 3 (some .int) 2 := ⟨aw_mem (by decide +kernel) rfl, aw_mem (by decide +kernel) rfl, aw_mem (by decide +kernel) rfl, by decide +kernel⟩
theorem dX7_letGo_0 : decode cX7_letGo 0 = .ok (.aload_n 0, 1) := by decide +kernel
theorem dX7_letGo_1 : decode cX7_letGo 1 = .ok (.iconst 0, 1) := by decide +kernel
theorem dX7_letGo_2 : decode cX7_letGo 2 = .ok (.putfield 22, 3) := by decide +kernel
theorem dX7_letGo_5 : decode cX7_letGo 5 = .ok (.aload_n 0, 1) := by decide +kernel
theorem dX7_letGo_6 : decode cX7_letGo 6 = .ok (.iload_n 2, 1) := by decide +kernel
theorem dX7_letGo_7 : decode cX7_letGo 7 = .ok (.ineg, 1) := by decide +kernel
theorem dX7_letGo_8 : decode cX7_letGo 8 = .ok (.putfield 25, 3) := by decide +kernel
theorem dX7_letGo_11 : decode cX7_letGo 11 = .ok (.aload_n 0, 1) := by decide +kernel
theorem dX7_letGo_12 : decode cX7_letGo 12 = .ok (.iconst 0, 1) := by decide +kernel
theorem dX7_letGo_13 : decode cX7_letGo 13 = .ok (.putfield 28, 3) := by decide +kernel
theorem dX7_letGo_16 : decode cX7_letGo 16 = .ok (.aload_n 0, 1) := by decide +kernel
theorem dX7_letGo_17 : decode cX7_letGo 17 = .ok (.iload_n 1, 1) := by decide +kernel
theorem dX7_letGo_18 : decode cX7_letGo 18 = .ok (.putfield 31, 3) := by decide +kernel
theorem dX7_letGo_21 : decode cX7_letGo 21 = .ok (.return_, 1) := by decide +kernel
theorem dX7_angle_0 : decode cX7_angle 0 = .ok (.bipush 16, 2) := by decide +kernel
theorem dX7_angle_2 : decode cX7_angle 2 = .ok (.aload_n 0, 1) := by decide +kernel
theorem dX7_angle_3 : decode cX7_angle 3 = .ok (.getfield 22, 3) := by decide +kernel
theorem dX7_angle_6 : decode cX7_angle 6 = .ok (.imul, 1) := by decide +kernel
theorem dX7_angle_7 : decode cX7_angle 7 = .ok (.aload_n 0, 1) := by decide +kernel
theorem dX7_angle_8 : decode cX7_angle 8 = .ok (.getfield 25, 3) := by decide +kernel
theorem dX7_angle_11 : decode cX7_angle 11 = .ok (.isub, 1) := by decide +kernel
theorem dX7_angle_12 : decode cX7_angle 12 = .ok (.ireturn, 1) := by decide +kernel
theorem dX5_speedIn_0 : decode cX5_speedIn 0 = .ok (.iload_n 1, 1) := by decide +kernel
theorem dX5_speedIn_1 : decode cX5_speedIn 1 = .ok (.iconst 1, 1) := by decide +kernel
theorem dX5_speedIn_2 : decode cX5_speedIn 2 = .ok (.if_icmp .lt 30, 3) := by decide +kernel
theorem dX5_speedIn_5 : decode cX5_speedIn 5 = .ok (.iload_n 1, 1) := by decide +kernel
theorem dX5_speedIn_6 : decode cX5_speedIn 6 = .ok (.aload_n 0, 1) := by decide +kernel
theorem dX5_speedIn_7 : decode cX5_speedIn 7 = .ok (.getfield 9, 3) := by decide +kernel
theorem dX5_speedIn_10 : decode cX5_speedIn 10 = .ok (.arraylength, 1) := by decide +kernel
theorem dX5_speedIn_11 : decode cX5_speedIn 11 = .ok (.if_icmp .ge 21, 3) := by decide +kernel
theorem dX5_speedIn_14 : decode cX5_speedIn 14 = .ok (.aload_n 0, 1) := by decide +kernel
theorem dX5_speedIn_15 : decode cX5_speedIn 15 = .ok (.getfield 9, 3) := by decide +kernel
theorem dX5_speedIn_18 : decode cX5_speedIn 18 = .ok (.iload_n 1, 1) := by decide +kernel
theorem dX5_speedIn_19 : decode cX5_speedIn 19 = .ok (.iaload, 1) := by decide +kernel
theorem dX5_speedIn_20 : decode cX5_speedIn 20 = .ok (.aload_n 0, 1) := by decide +kernel
theorem dX5_speedIn_21 : decode cX5_speedIn 21 = .ok (.getfield 9, 3) := by decide +kernel
theorem dX5_speedIn_24 : decode cX5_speedIn 24 = .ok (.iload_n 1, 1) := by decide +kernel
theorem dX5_speedIn_25 : decode cX5_speedIn 25 = .ok (.iconst 1, 1) := by decide +kernel
theorem dX5_speedIn_26 : decode cX5_speedIn 26 = .ok (.isub, 1) := by decide +kernel
theorem dX5_speedIn_27 : decode cX5_speedIn 27 = .ok (.iaload, 1) := by decide +kernel
theorem dX5_speedIn_28 : decode cX5_speedIn 28 = .ok (.isub, 1) := by decide +kernel
theorem dX5_speedIn_29 : decode cX5_speedIn 29 = .ok (.goto 4, 3) := by decide +kernel
theorem dX5_speedIn_32 : decode cX5_speedIn 32 = .ok (.iconst 0, 1) := by decide +kernel
theorem dX5_speedIn_33 : decode cX5_speedIn 33 = .ok (.ireturn, 1) := by decide +kernel
theorem dX9_wave_0 : decode cX9_wave 0 = .ok (.iload_n 1, 1) := by decide +kernel
theorem dX9_wave_1 : decode cX9_wave 1 = .ok (.bipush 63, 2) := by decide +kernel
theorem dX9_wave_3 : decode cX9_wave 3 = .ok (.iand, 1) := by decide +kernel
theorem dX9_wave_4 : decode cX9_wave 4 = .ok (.istore_n 2, 1) := by decide +kernel
theorem dX9_wave_5 : decode cX9_wave 5 = .ok (.iload_n 1, 1) := by decide +kernel
theorem dX9_wave_6 : decode cX9_wave 6 = .ok (.bipush 6, 2) := by decide +kernel
theorem dX9_wave_8 : decode cX9_wave 8 = .ok (.ishr, 1) := by decide +kernel
theorem dX9_wave_9 : decode cX9_wave 9 = .ok (.iconst 3, 1) := by decide +kernel
theorem dX9_wave_10 : decode cX9_wave 10 = .ok (.iand, 1) := by decide +kernel
theorem dX9_wave_11 : decode cX9_wave 11 = .ok (.tableswitch 41 0 2 #[25, 29, 36], 25) := by decide +kernel
theorem dX9_wave_36 : decode cX9_wave 36 = .ok (.aload_n 0, 1) := by decide +kernel
theorem dX9_wave_37 : decode cX9_wave 37 = .ok (.iload_n 2, 1) := by decide +kernel
theorem dX9_wave_38 : decode cX9_wave 38 = .ok (.iaload, 1) := by decide +kernel
theorem dX9_wave_39 : decode cX9_wave 39 = .ok (.ireturn, 1) := by decide +kernel
theorem dX9_wave_40 : decode cX9_wave 40 = .ok (.aload_n 0, 1) := by decide +kernel
theorem dX9_wave_41 : decode cX9_wave 41 = .ok (.bipush 64, 2) := by decide +kernel
theorem dX9_wave_43 : decode cX9_wave 43 = .ok (.iload_n 2, 1) := by decide +kernel
theorem dX9_wave_44 : decode cX9_wave 44 = .ok (.isub, 1) := by decide +kernel
theorem dX9_wave_45 : decode cX9_wave 45 = .ok (.iaload, 1) := by decide +kernel
theorem dX9_wave_46 : decode cX9_wave 46 = .ok (.ireturn, 1) := by decide +kernel
theorem dX9_wave_47 : decode cX9_wave 47 = .ok (.aload_n 0, 1) := by decide +kernel
theorem dX9_wave_48 : decode cX9_wave 48 = .ok (.iload_n 2, 1) := by decide +kernel
theorem dX9_wave_49 : decode cX9_wave 49 = .ok (.iaload, 1) := by decide +kernel
theorem dX9_wave_50 : decode cX9_wave 50 = .ok (.ineg, 1) := by decide +kernel
theorem dX9_wave_51 : decode cX9_wave 51 = .ok (.ireturn, 1) := by decide +kernel
theorem dX9_wave_52 : decode cX9_wave 52 = .ok (.aload_n 0, 1) := by decide +kernel
theorem dX9_wave_53 : decode cX9_wave 53 = .ok (.bipush 64, 2) := by decide +kernel
theorem dX9_wave_55 : decode cX9_wave 55 = .ok (.iload_n 2, 1) := by decide +kernel
theorem dX9_wave_56 : decode cX9_wave 56 = .ok (.isub, 1) := by decide +kernel
theorem dX9_wave_57 : decode cX9_wave 57 = .ok (.iaload, 1) := by decide +kernel
theorem dX9_wave_58 : decode cX9_wave 58 = .ok (.ineg, 1) := by decide +kernel
theorem dX9_wave_59 : decode cX9_wave 59 = .ok (.ireturn, 1) := by decide +kernel
theorem dX9_squareRoot_0 : decode cX9_squareRoot 0 = .ok (.iconst 0, 1) := by decide +kernel
theorem dX9_squareRoot_1 : decode cX9_squareRoot 1 = .ok (.istore_n 1, 1) := by decide +kernel
theorem dX9_squareRoot_2 : decode cX9_squareRoot 2 = .ok (.sipush 1024, 3) := by decide +kernel
theorem dX9_squareRoot_5 : decode cX9_squareRoot 5 = .ok (.istore_n 2, 1) := by decide +kernel
theorem dX9_squareRoot_6 : decode cX9_squareRoot 6 = .ok (.iload_n 2, 1) := by decide +kernel
theorem dX9_squareRoot_7 : decode cX9_squareRoot 7 = .ok (.ifCond .le 23, 3) := by decide +kernel
theorem dX9_squareRoot_10 : decode cX9_squareRoot 10 = .ok (.iload_n 1, 1) := by decide +kernel
theorem dX9_squareRoot_11 : decode cX9_squareRoot 11 = .ok (.iload_n 2, 1) := by decide +kernel
theorem dX9_squareRoot_12 : decode cX9_squareRoot 12 = .ok (.iadd, 1) := by decide +kernel
theorem dX9_squareRoot_13 : decode cX9_squareRoot 13 = .ok (.istore_n 3, 1) := by decide +kernel
theorem dX9_squareRoot_14 : decode cX9_squareRoot 14 = .ok (.iload_n 3, 1) := by decide +kernel
theorem dX9_squareRoot_15 : decode cX9_squareRoot 15 = .ok (.iload_n 3, 1) := by decide +kernel
theorem dX9_squareRoot_16 : decode cX9_squareRoot 16 = .ok (.imul, 1) := by decide +kernel
theorem dX9_squareRoot_17 : decode cX9_squareRoot 17 = .ok (.iload_n 0, 1) := by decide +kernel
theorem dX9_squareRoot_18 : decode cX9_squareRoot 18 = .ok (.if_icmp .gt 5, 3) := by decide +kernel
theorem dX9_squareRoot_21 : decode cX9_squareRoot 21 = .ok (.iload_n 3, 1) := by decide +kernel
theorem dX9_squareRoot_22 : decode cX9_squareRoot 22 = .ok (.istore_n 1, 1) := by decide +kernel
theorem dX9_squareRoot_23 : decode cX9_squareRoot 23 = .ok (.iload_n 2, 1) := by decide +kernel
theorem dX9_squareRoot_24 : decode cX9_squareRoot 24 = .ok (.iconst 1, 1) := by decide +kernel
theorem dX9_squareRoot_25 : decode cX9_squareRoot 25 = .ok (.ishr, 1) := by decide +kernel
theorem dX9_squareRoot_26 : decode cX9_squareRoot 26 = .ok (.istore_n 2, 1) := by decide +kernel
theorem dX9_squareRoot_27 : decode cX9_squareRoot 27 = .ok (.goto (-21), 3) := by decide +kernel
theorem dX9_squareRoot_30 : decode cX9_squareRoot 30 = .ok (.iload_n 1, 1) := by decide +kernel
theorem dX9_squareRoot_31 : decode cX9_squareRoot 31 = .ok (.ireturn, 1) := by decide +kernel
theorem dX7_push_0 : decode cX7_push 0 = .ok (.aload_n 1, 1) := by decide +kernel
theorem dX7_push_1 : decode cX7_push 1 = .ok (.getfield 40, 3) := by decide +kernel
theorem dX7_push_4 : decode cX7_push 4 = .ok (.aload_n 2, 1) := by decide +kernel
theorem dX7_push_5 : decode cX7_push 5 = .ok (.getfield 45, 3) := by decide +kernel
theorem dX7_push_8 : decode cX7_push 8 = .ok (.aload_n 0, 1) := by decide +kernel
theorem dX7_push_9 : decode cX7_push 9 = .ok (.invokevirtual 51, 3) := by decide +kernel
theorem dX7_push_12 : decode cX7_push 12 = .ok (.bipush 16, 2) := by decide +kernel
theorem dX7_push_14 : decode cX7_push 14 = .ok (.idiv, 1) := by decide +kernel
theorem dX7_push_15 : decode cX7_push 15 = .ok (.invokestatic 55, 3) := by decide +kernel
theorem dX7_push_18 : decode cX7_push 18 = .ok (.imul, 1) := by decide +kernel
theorem dX7_push_19 : decode cX7_push 19 = .ok (.sipush 1000, 3) := by decide +kernel
theorem dX7_push_22 : decode cX7_push 22 = .ok (.idiv, 1) := by decide +kernel
theorem dX7_push_23 : decode cX7_push 23 = .ok (.istore_n 3, 1) := by decide +kernel
theorem dX7_push_24 : decode cX7_push 24 = .ok (.aload_n 1, 1) := by decide +kernel
theorem dX7_push_25 : decode cX7_push 25 = .ok (.getfield 59, 3) := by decide +kernel
theorem dX7_push_28 : decode cX7_push 28 = .ok (.iconst 1, 1) := by decide +kernel
theorem dX7_push_29 : decode cX7_push 29 = .ok (.if_icmp .ge 7, 3) := by decide +kernel
theorem dX7_push_32 : decode cX7_push 32 = .ok (.iconst 0, 1) := by decide +kernel
theorem dX7_push_33 : decode cX7_push 33 = .ok (.goto 14, 3) := by decide +kernel
theorem dX7_push_36 : decode cX7_push 36 = .ok (.iload_n 3, 1) := by decide +kernel
theorem dX7_push_37 : decode cX7_push 37 = .ok (.aload_n 0, 1) := by decide +kernel
theorem dX7_push_38 : decode cX7_push 38 = .ok (.getfield 31, 3) := by decide +kernel
theorem dX7_push_41 : decode cX7_push 41 = .ok (.isub, 1) := by decide +kernel
theorem dX7_push_42 : decode cX7_push 42 = .ok (.aload_n 1, 1) := by decide +kernel
theorem dX7_push_43 : decode cX7_push 43 = .ok (.getfield 59, 3) := by decide +kernel
theorem dX7_push_46 : decode cX7_push 46 = .ok (.idiv, 1) := by decide +kernel
theorem dX7_push_47 : decode cX7_push 47 = .ok (.ireturn, 1) := by decide +kernel
theorem dX7_turn_0 : decode cX7_turn 0 = .ok (.aload_n 0, 1) := by decide +kernel
theorem dX7_turn_1 : decode cX7_turn 1 = .ok (.getfield 28, 3) := by decide +kernel
theorem dX7_turn_4 : decode cX7_turn 4 = .ok (.aload_n 0, 1) := by decide +kernel
theorem dX7_turn_5 : decode cX7_turn 5 = .ok (.aload_n 1, 1) := by decide +kernel
theorem dX7_turn_6 : decode cX7_turn 6 = .ok (.aload_n 2, 1) := by decide +kernel
theorem dX7_turn_7 : decode cX7_turn 7 = .ok (.invokevirtual 62, 3) := by decide +kernel
theorem dX7_turn_10 : decode cX7_turn 10 = .ok (.iadd, 1) := by decide +kernel
theorem dX7_turn_11 : decode cX7_turn 11 = .ok (.istore_n 3, 1) := by decide +kernel
theorem dX7_turn_12 : decode cX7_turn 12 = .ok (.iload_n 3, 1) := by decide +kernel
theorem dX7_turn_13 : decode cX7_turn 13 = .ok (.iload_n 3, 1) := by decide +kernel
theorem dX7_turn_14 : decode cX7_turn 14 = .ok (.aload_n 1, 1) := by decide +kernel
theorem dX7_turn_15 : decode cX7_turn 15 = .ok (.getfield 66, 3) := by decide +kernel
theorem dX7_turn_18 : decode cX7_turn 18 = .ok (.imul, 1) := by decide +kernel
theorem dX7_turn_19 : decode cX7_turn 19 = .ok (.bipush 100, 2) := by decide +kernel
theorem dX7_turn_21 : decode cX7_turn 21 = .ok (.idiv, 1) := by decide +kernel
theorem dX7_turn_22 : decode cX7_turn 22 = .ok (.isub, 1) := by decide +kernel
theorem dX7_turn_23 : decode cX7_turn 23 = .ok (.istore_n 3, 1) := by decide +kernel
theorem dX7_turn_24 : decode cX7_turn 24 = .ok (.aload_n 0, 1) := by decide +kernel
theorem dX7_turn_25 : decode cX7_turn 25 = .ok (.sipush (-2000), 3) := by decide +kernel
theorem dX7_turn_28 : decode cX7_turn 28 = .ok (.sipush 2000, 3) := by decide +kernel
theorem dX7_turn_31 : decode cX7_turn 31 = .ok (.iload_n 3, 1) := by decide +kernel
theorem dX7_turn_32 : decode cX7_turn 32 = .ok (.invokestatic 69, 3) := by decide +kernel
theorem dX7_turn_35 : decode cX7_turn 35 = .ok (.invokestatic 72, 3) := by decide +kernel
theorem dX7_turn_38 : decode cX7_turn 38 = .ok (.putfield 28, 3) := by decide +kernel
theorem dX7_turn_41 : decode cX7_turn 41 = .ok (.aload_n 0, 1) := by decide +kernel
theorem dX7_turn_42 : decode cX7_turn 42 = .ok (.dup, 1) := by decide +kernel
theorem dX7_turn_43 : decode cX7_turn 43 = .ok (.getfield 25, 3) := by decide +kernel
theorem dX7_turn_46 : decode cX7_turn 46 = .ok (.aload_n 0, 1) := by decide +kernel
theorem dX7_turn_47 : decode cX7_turn 47 = .ok (.getfield 28, 3) := by decide +kernel
theorem dX7_turn_50 : decode cX7_turn 50 = .ok (.iadd, 1) := by decide +kernel
theorem dX7_turn_51 : decode cX7_turn 51 = .ok (.putfield 25, 3) := by decide +kernel
theorem dX7_turn_54 : decode cX7_turn 54 = .ok (.return_, 1) := by decide +kernel
def zX7_letGo (sh : zShp) (k0 : Nat) (p1 : Int32) (p2 : Int32) (M : zMem) : Option (zMem) :=
  zbd (zpI M k0 0 (0 : Int32)) fun M_1 =>
  zbd (zpI M_1 k0 1 (-p2)) fun M_2 =>
  zbd (zpI M_2 k0 2 (0 : Int32)) fun M_3 =>
  zbd (zpI M_3 k0 3 p1) fun M_4 =>
  some M_4
set_option maxHeartbeats 4000000 in
set_option maxRecDepth 100000 in
theorem ztX7_letGo (l : Launch) (D : va_G) (cy : Nat → ClassId) (sh : zShp) (ad : Nat → Nat) {k0 : Nat} {p1 : Int32} {p2 : Int32} (h0 : zT sh k0 7) {M : zMem} {M1 : zMem} (hd : zX7_letGo sh k0 p1 p2 M = some M1) : zCV l yX7_letGo cX7_letGo 3 { frames := 0, cells := 0, slots := 0, locals := 0 } [.ref (ad k0), .int p1, .int p2] D cy sh ad M M1 := by
  refine zcv_of (by decide) (Nat.le_of_ble_eq_true rfl) (fun p e s m below meth c ls F hr hlk hl hw => ?_)
  have hx := F.1.1
  have hb := F.1.2.1
  have hl : lv_has ls 3 [(0, .ref (ad k0)), (1, .int p1), (2, .int p2)] := hl
  unfold zX7_letGo at hd
  refine lv_aload_n hx hb dX7_letGo_0 rfl (lv_at hl 0 rfl) ?_
  refine lv_iconst (v := (0 : Int32)) hx hb dX7_letGo_1 (by decide) ?_
  refine z_pI F hw h0 zc7 0 (by decide) rfl zf7_22 rfl rfl rfl dX7_letGo_2 (fun H locs M_1 eM_1 hw => ?_)
  have hd := zbd_eq eM_1 hd
  refine lv_aload_n hx hb dX7_letGo_5 rfl (lv_at hl 0 rfl) ?_
  refine lv_iload_n hx hb dX7_letGo_6 rfl (lv_at hl 2 rfl) ?_
  refine lv_ineg hx hb dX7_letGo_7 ?_
  refine z_pI F hw h0 zc7 1 (by decide) rfl zf7_25 rfl rfl rfl dX7_letGo_8 (fun H locs M_2 eM_2 hw => ?_)
  have hd := zbd_eq eM_2 hd
  refine lv_aload_n hx hb dX7_letGo_11 rfl (lv_at hl 0 rfl) ?_
  refine lv_iconst (v := (0 : Int32)) hx hb dX7_letGo_12 (by decide) ?_
  refine z_pI F hw h0 zc7 2 (by decide) rfl zf7_28 rfl rfl rfl dX7_letGo_13 (fun H locs M_3 eM_3 hw => ?_)
  have hd := zbd_eq eM_3 hd
  refine lv_aload_n hx hb dX7_letGo_16 rfl (lv_at hl 0 rfl) ?_
  refine lv_iload_n hx hb dX7_letGo_17 rfl (lv_at hl 1 rfl) ?_
  refine z_pI F hw h0 zc7 3 (by decide) rfl zf7_31 rfl rfl rfl dX7_letGo_18 (fun H locs M_4 eM_4 hw => ?_)
  have hd := zbd_eq eM_4 hd
  exact z_vret F hr hlk hw (Option.some.inj hd) dX7_letGo_21

def zX7_angle (sh : zShp) (k0 : Nat) (M : zMem) : Option (Int32) :=
  some (((16 : Int32) * (zI M k0 0)) - (zI M k0 1))
set_option maxHeartbeats 4000000 in
set_option maxRecDepth 100000 in
theorem ztX7_angle (l : Launch) (D : va_G) (cy : Nat → ClassId) (sh : zShp) (ad : Nat → Nat) {k0 : Nat} (h0 : zT sh k0 7) {M : zMem} {r : Int32} (hd : zX7_angle sh k0 M = some r) : zCI l yX7_angle cX7_angle 1 .int { frames := 0, cells := 0, slots := 0, locals := 0 } [.ref (ad k0)] D cy sh ad M r M := by
  refine zci_of (by decide) (Nat.le_of_ble_eq_true rfl) (fun p e s m below meth c ls F hr hlk hl hw => ?_)
  have hx := F.1.1
  have hb := F.1.2.1
  have hl : lv_has ls 1 [(0, .ref (ad k0))] := hl
  unfold zX7_angle at hd
  refine lv_bipush (v := (16 : Int32)) hx hb dX7_angle_0 (by decide) ?_
  refine lv_aload_n hx hb dX7_angle_2 rfl (lv_at hl 0 rfl) ?_
  refine z_gI F hw h0 zc7 0 (by decide) rfl zf7_22 dX7_angle_3 ?_
  refine lv_imul hx hb dX7_angle_6 ?_
  refine lv_aload_n hx hb dX7_angle_7 rfl (lv_at hl 0 rfl) ?_
  refine z_gI F hw h0 zc7 1 (by decide) rfl zf7_25 dX7_angle_8 ?_
  refine lv_isub hx hb dX7_angle_11 ?_
  exact z_iret F hr hlk hw (Option.some.inj hd) rfl dX7_angle_12

def zjX5_speedIn_33 (sh : zShp) (k0 : Nat) (p1 : Int32) (M : zMem)  (s0 : Int32) : Option (Int32) :=
  some s0
def zjX5_speedIn_32 (sh : zShp) (k0 : Nat) (p1 : Int32) (M : zMem)   : Option (Int32) :=
  zjX5_speedIn_33 sh k0 p1 M (0 : Int32)
def zX5_speedIn (sh : zShp) (k0 : Nat) (p1 : Int32) (M : zMem) : Option (Int32) :=
  if p1 < (1 : Int32) then (
  zjX5_speedIn_32 sh k0 p1 M)
  else (
  if (Int32.ofNat (zlen sh (zR M k0 0))) ≤ p1 then (
  zjX5_speedIn_32 sh k0 p1 M)
  else (
  zgd (zin p1 (zlen sh (zR M k0 0))) <|
  zgd (zin (p1 - (1 : Int32)) (zlen sh (zR M k0 0))) <|
  zjX5_speedIn_33 sh k0 p1 M ((zI M (zR M k0 0) p1.toNatClampNeg) - (zI M (zR M k0 0) ((p1 - (1 : Int32)).toNatClampNeg)))))
set_option maxHeartbeats 4000000 in
set_option maxRecDepth 100000 in
theorem ztX5_speedIn (l : Launch) (D : va_G) (cy : Nat → ClassId) (sh : zShp) (ad : Nat → Nat) {k0 : Nat} {p1 : Int32} (h0 : zT sh k0 5) {M : zMem} {r : Int32} (hd : zX5_speedIn sh k0 p1 M = some r) : zCI l yX5_speedIn cX5_speedIn 2 .int { frames := 0, cells := 0, slots := 0, locals := 0 } [.ref (ad k0), .int p1] D cy sh ad M r M := by
  refine zci_of (by decide) (Nat.le_of_ble_eq_true rfl) (fun p e s m below meth c ls F hr hlk hl hw => ?_)
  have hx := F.1.1
  have hb := F.1.2.1
  have hl : lv_has ls 2 [(0, .ref (ad k0)), (1, .int p1)] := hl
  have J33 : ∀ (s0 : Int32) (H : Heap) (locs : List Loc) (ls : Array Slot), lv_has ls 2 [] → zWd D cy sh ad s M H locs → zjX5_speedIn_33 sh k0 p1 M  s0 = some r → W p l e { frames := 0, cells := 0, slots := 0, locals := 0 } s m ([.ref (ad k0), .int p1] : List Value).toArray below meth c H locs 0 0 (zQI below D cy sh ad s [.ref (ad k0), .int p1] r M) (F0 m 33 ls [.int s0]) := by
    intro  s0 H locs ls hl hw hd
    unfold zjX5_speedIn_33 at hd
    exact z_iret F hr hlk hw (Option.some.inj hd) rfl dX5_speedIn_33
  have J32 : ∀  (H : Heap) (locs : List Loc) (ls : Array Slot), lv_has ls 2 [] → zWd D cy sh ad s M H locs → zjX5_speedIn_32 sh k0 p1 M   = some r → W p l e { frames := 0, cells := 0, slots := 0, locals := 0 } s m ([.ref (ad k0), .int p1] : List Value).toArray below meth c H locs 0 0 (zQI below D cy sh ad s [.ref (ad k0), .int p1] r M) (F0 m 32 ls []) := by
    intro  H locs ls hl hw hd
    unfold zjX5_speedIn_32 at hd
    refine lv_iconst (v := (0 : Int32)) hx hb dX5_speedIn_32 (by decide) ?_
    exact J33 _ _ _ _ (lv_sub hl [] rfl) hw hd
  unfold zX5_speedIn at hd
  refine lv_iload_n hx hb dX5_speedIn_0 rfl (lv_at hl 1 rfl) ?_
  refine lv_iconst (v := (1 : Int32)) hx hb dX5_speedIn_1 (by decide) ?_
  refine lv_icmp_lt (tgt := 32) hx hb dX5_speedIn_2 (by decide) (fun c_1 => ?_) (fun c_1 => ?_)
  · have hd := zif_pos c_1 hd
    exact J32 _ _ _ (lv_sub hl [] rfl) hw hd
  · have hd := zif_neg c_1 hd
    refine lv_iload_n hx hb dX5_speedIn_5 rfl (lv_at hl 1 rfl) ?_
    refine lv_aload_n hx hb dX5_speedIn_6 rfl (lv_at hl 0 rfl) ?_
    refine z_gR F hw h0 zc5 0 (by decide) rfl zf5_9 dX5_speedIn_7 ?_
    have t_2 : zT sh (zR M k0 0) 14 := hw.2.2.2.fld h0 0 14
    refine z_alen F hw t_2 (by decide) (t0 := 1) rfl dX5_speedIn_10 ?_
    refine lv_icmp_ge (tgt := 32) hx hb dX5_speedIn_11 (by decide) (fun c_3 => ?_) (fun c_3 => ?_)
    · have hd := zif_pos c_3 hd
      exact J32 _ _ _ (lv_sub hl [] rfl) hw hd
    · have hd := zif_neg c_3 hd
      refine lv_aload_n hx hb dX5_speedIn_14 rfl (lv_at hl 0 rfl) ?_
      refine z_gR F hw h0 zc5 0 (by decide) rfl zf5_9 dX5_speedIn_15 ?_
      have t_4 : zT sh (zR M k0 0) 14 := hw.2.2.2.fld h0 0 14
      refine lv_iload_n hx hb dX5_speedIn_18 rfl (lv_at hl 1 rfl) ?_
      obtain ⟨g_5, hd⟩ := zgd_some hd
      refine z_iald F hw t_4 g_5 dX5_speedIn_19 ?_
      refine lv_aload_n hx hb dX5_speedIn_20 rfl (lv_at hl 0 rfl) ?_
      refine z_gR F hw h0 zc5 0 (by decide) rfl zf5_9 dX5_speedIn_21 ?_
      have t_6 : zT sh (zR M k0 0) 14 := hw.2.2.2.fld h0 0 14
      refine lv_iload_n hx hb dX5_speedIn_24 rfl (lv_at hl 1 rfl) ?_
      refine lv_iconst (v := (1 : Int32)) hx hb dX5_speedIn_25 (by decide) ?_
      refine lv_isub hx hb dX5_speedIn_26 ?_
      obtain ⟨g_7, hd⟩ := zgd_some hd
      refine z_iald F hw t_6 g_7 dX5_speedIn_27 ?_
      refine lv_isub hx hb dX5_speedIn_28 ?_
      refine lv_goto (tgt := 33) hx hb dX5_speedIn_29 (by decide) ?_
      exact J33 _ _ _ _ (lv_sub hl [] rfl) hw hd

def zX9_wave (sh : zShp) (k0 : Nat) (p1 : Int32) (M : zMem) : Option (Int32) :=
  if ((p1 >>> ((6 : Int32) &&& 31)) &&& (3 : Int32)) = (0 : Int32) then (
  zgd (zin (p1 &&& (63 : Int32)) (zlen sh k0)) <|
  some (zI M k0 ((p1 &&& (63 : Int32)).toNatClampNeg)))
  else if ((p1 >>> ((6 : Int32) &&& 31)) &&& (3 : Int32)) = (1 : Int32) then (
  zgd (zin ((64 : Int32) - (p1 &&& (63 : Int32))) (zlen sh k0)) <|
  some (zI M k0 (((64 : Int32) - (p1 &&& (63 : Int32))).toNatClampNeg)))
  else if ((p1 >>> ((6 : Int32) &&& 31)) &&& (3 : Int32)) = (2 : Int32) then (
  zgd (zin (p1 &&& (63 : Int32)) (zlen sh k0)) <|
  some (-(zI M k0 ((p1 &&& (63 : Int32)).toNatClampNeg))))
  else (
  zgd (zin ((64 : Int32) - (p1 &&& (63 : Int32))) (zlen sh k0)) <|
  some (-(zI M k0 (((64 : Int32) - (p1 &&& (63 : Int32))).toNatClampNeg))))
set_option maxHeartbeats 4000000 in
set_option maxRecDepth 100000 in
theorem ztX9_wave (l : Launch) (D : va_G) (cy : Nat → ClassId) (sh : zShp) (ad : Nat → Nat) {k0 : Nat} {p1 : Int32} (h0 : zT sh k0 14) {M : zMem} {r : Int32} (hd : zX9_wave sh k0 p1 M = some r) : zCI l yX9_wave cX9_wave 3 .int { frames := 0, cells := 0, slots := 0, locals := 0 } [.ref (ad k0), .int p1] D cy sh ad M r M := by
  refine zci_of (by decide) (Nat.le_of_ble_eq_true rfl) (fun p e s m below meth c ls F hr hlk hl hw => ?_)
  have hx := F.1.1
  have hb := F.1.2.1
  have hl : lv_has ls 3 [(0, .ref (ad k0)), (1, .int p1)] := hl
  unfold zX9_wave at hd
  refine lv_iload_n hx hb dX9_wave_0 rfl (lv_at hl 1 rfl) ?_
  refine lv_bipush (v := (63 : Int32)) hx hb dX9_wave_1 (by decide) ?_
  refine lv_iand hx hb dX9_wave_3 ?_
  refine lv_istore_n (lv' := [(2, .int (p1 &&& (63 : Int32))), (0, .ref (ad k0)), (1, .int p1)]) hx hb dX9_wave_4 rfl hl (by decide) rfl (fun ls hl => ?_)
  refine lv_iload_n hx hb dX9_wave_5 rfl (lv_at hl 2 rfl) ?_
  refine lv_bipush (v := (6 : Int32)) hx hb dX9_wave_6 (by decide) ?_
  refine lv_ishr hx hb dX9_wave_8 ?_
  refine lv_iconst (v := (3 : Int32)) hx hb dX9_wave_9 (by decide) ?_
  refine lv_iand hx hb dX9_wave_10 ?_
  by_cases c_1 : ((p1 >>> ((6 : Int32) &&& 31)) &&& (3 : Int32)) = (0 : Int32)
  · have hd := zif_pos c_1 hd
    refine lv_tableIn (tgt := 36) (off := 25) hx hb dX9_wave_11 (by rw [c_1]; decide) (by rw [c_1]; decide) (by rw [c_1]; decide) (by decide) ?_
    refine lv_aload_n hx hb dX9_wave_36 rfl (lv_at hl 1 rfl) ?_
    refine lv_iload_n hx hb dX9_wave_37 rfl (lv_at hl 0 rfl) ?_
    obtain ⟨g_2, hd⟩ := zgd_some hd
    refine z_iald F hw h0 g_2 dX9_wave_38 ?_
    exact z_iret F hr hlk hw (Option.some.inj hd) rfl dX9_wave_39
  have hd := zif_neg c_1 hd
  by_cases c_3 : ((p1 >>> ((6 : Int32) &&& 31)) &&& (3 : Int32)) = (1 : Int32)
  · have hd := zif_pos c_3 hd
    refine lv_tableIn (tgt := 40) (off := 29) hx hb dX9_wave_11 (by rw [c_3]; decide) (by rw [c_3]; decide) (by rw [c_3]; decide) (by decide) ?_
    refine lv_aload_n hx hb dX9_wave_40 rfl (lv_at hl 1 rfl) ?_
    refine lv_bipush (v := (64 : Int32)) hx hb dX9_wave_41 (by decide) ?_
    refine lv_iload_n hx hb dX9_wave_43 rfl (lv_at hl 0 rfl) ?_
    refine lv_isub hx hb dX9_wave_44 ?_
    obtain ⟨g_4, hd⟩ := zgd_some hd
    refine z_iald F hw h0 g_4 dX9_wave_45 ?_
    exact z_iret F hr hlk hw (Option.some.inj hd) rfl dX9_wave_46
  have hd := zif_neg c_3 hd
  by_cases c_5 : ((p1 >>> ((6 : Int32) &&& 31)) &&& (3 : Int32)) = (2 : Int32)
  · have hd := zif_pos c_5 hd
    refine lv_tableIn (tgt := 47) (off := 36) hx hb dX9_wave_11 (by rw [c_5]; decide) (by rw [c_5]; decide) (by rw [c_5]; decide) (by decide) ?_
    refine lv_aload_n hx hb dX9_wave_47 rfl (lv_at hl 1 rfl) ?_
    refine lv_iload_n hx hb dX9_wave_48 rfl (lv_at hl 0 rfl) ?_
    obtain ⟨g_6, hd⟩ := zgd_some hd
    refine z_iald F hw h0 g_6 dX9_wave_49 ?_
    refine lv_ineg hx hb dX9_wave_50 ?_
    exact z_iret F hr hlk hw (Option.some.inj hd) rfl dX9_wave_51
  have hd := zif_neg c_5 hd
  have nc_1 := zne c_1 (a := 0) (by decide)
  have nc_3 := zne c_3 (a := 1) (by decide)
  have nc_5 := zne c_5 (a := 2) (by decide)
  refine lv_tableOut (tgt := 52) hx hb dX9_wave_11 (by omega) (by decide) ?_
  refine lv_aload_n hx hb dX9_wave_52 rfl (lv_at hl 1 rfl) ?_
  refine lv_bipush (v := (64 : Int32)) hx hb dX9_wave_53 (by decide) ?_
  refine lv_iload_n hx hb dX9_wave_55 rfl (lv_at hl 0 rfl) ?_
  refine lv_isub hx hb dX9_wave_56 ?_
  obtain ⟨g_7, hd⟩ := zgd_some hd
  refine z_iald F hw h0 g_7 dX9_wave_57 ?_
  refine lv_ineg hx hb dX9_wave_58 ?_
  exact z_iret F hr hlk hw (Option.some.inj hd) rfl dX9_wave_59

def zjX9_squareRoot_23 (sh : zShp) (p0 : Int32) (M : zMem) (kk6 : Int32 → Int32 → Option (Int32)) (x1 : Int32) (x2 : Int32) : Option (Int32) :=
  zbd ((x2 >>> ((1 : Int32) &&& 31))) fun v_1 =>
  kk6 x1 v_1
def zbX9_squareRoot_6 (sh : zShp) (p0 : Int32) (M : zMem)  (kk6 : Int32 → Int32 → Option (Int32)) (x1 : Int32) (x2 : Int32) : Option (Int32) :=
  if x2 ≤ 0 then (
  some x1)
  else (
  if p0 < ((x1 + x2) * (x1 + x2)) then (
  zjX9_squareRoot_23 sh p0 M kk6 x1 x2)
  else (
  zjX9_squareRoot_23 sh p0 M kk6 (x1 + x2) x2))
def zlX9_squareRoot_6 (sh : zShp) (p0 : Int32) (M : zMem)  : Nat → Int32 → Int32 → Option (Int32)
  | 0 => fun _ _ => none
  | n + 1 => fun x1 x2 => zbX9_squareRoot_6 sh p0 M  (zlX9_squareRoot_6 sh p0 M  n) x1 x2
def zX9_squareRoot (sh : zShp) (p0 : Int32) (M : zMem) : Option (Int32) :=
  zlX9_squareRoot_6 sh p0 M zF (0 : Int32) (1024 : Int32)
set_option maxHeartbeats 4000000 in
set_option maxRecDepth 100000 in
theorem ztX9_squareRoot (l : Launch) (D : va_G) (cy : Nat → ClassId) (sh : zShp) (ad : Nat → Nat) {p0 : Int32}  {M : zMem} {r : Int32} (hd : zX9_squareRoot sh p0 M = some r) : zCI l yX9_squareRoot cX9_squareRoot 4 .int { frames := 0, cells := 0, slots := 0, locals := 0 } [.int p0] D cy sh ad M r M := by
  refine zci_of (by decide) (Nat.le_of_ble_eq_true rfl) (fun p e s m below meth c ls F hr hlk hl hw => ?_)
  have hx := F.1.1
  have hb := F.1.2.1
  have hl : lv_has ls 4 [(0, .int p0)] := hl
  have J23 : ∀ (kk6 : Int32 → Int32 → Option (Int32)) (hk6 : ∀ (x1 : Int32) (x2 : Int32) (H : Heap) (locs : List Loc) (ls : Array Slot), lv_has ls 4 [(0, .int p0), (1, .int x1), (2, .int x2)] → zWd D cy sh ad s M H locs → kk6 x1 x2 = some r → W p l e { frames := 0, cells := 0, slots := 0, locals := 0 } s m ([.int p0] : List Value).toArray below meth c H locs 0 0 (zQI below D cy sh ad s [.int p0] r M) (F0 m 6 ls [])), ∀ (x1 : Int32) (x2 : Int32) (H : Heap) (locs : List Loc) (ls : Array Slot), lv_has ls 4 [(0, .int p0), (1, .int x1), (2, .int x2)] → zWd D cy sh ad s M H locs → zjX9_squareRoot_23 sh p0 M kk6 x1 x2 = some r → W p l e { frames := 0, cells := 0, slots := 0, locals := 0 } s m ([.int p0] : List Value).toArray below meth c H locs 0 0 (zQI below D cy sh ad s [.int p0] r M) (F0 m 23 ls []) := by
    intro kk6 hk6 x1 x2 H locs ls hl hw hd
    unfold zjX9_squareRoot_23 at hd
    refine lv_iload_n hx hb dX9_squareRoot_23 rfl (lv_at hl 2 rfl) ?_
    refine lv_iconst (v := (1 : Int32)) hx hb dX9_squareRoot_24 (by decide) ?_
    refine lv_ishr hx hb dX9_squareRoot_25 ?_
    refine lv_topi (fun v_1 ev_1 => ?_)
    have hd := zbd_eq ev_1 hd
    refine lv_istore_n (lv' := [(2, .int v_1), (0, .int p0), (1, .int x1)]) hx hb dX9_squareRoot_26 rfl hl (by decide) rfl (fun ls hl => ?_)
    refine lv_goto (tgt := 6) hx hb dX9_squareRoot_27 (by decide) ?_
    exact hk6 _ _ _ _ _ (lv_sub hl [1, 2, 0] rfl) hw hd
  have L6 : ∀  (n : Nat), ∀ (x1 : Int32) (x2 : Int32) (H : Heap) (locs : List Loc) (ls : Array Slot), lv_has ls 4 [(0, .int p0), (1, .int x1), (2, .int x2)] → zWd D cy sh ad s M H locs → zlX9_squareRoot_6 sh p0 M  n x1 x2 = some r → W p l e { frames := 0, cells := 0, slots := 0, locals := 0 } s m ([.int p0] : List Value).toArray below meth c H locs 0 0 (zQI below D cy sh ad s [.int p0] r M) (F0 m 6 ls []) := by
    intro  n
    induction n with
    | zero => intro x1 x2 H locs ls hl hw hd; exact (znone hd).elim
    | succ n hk6 =>
      intro x1 x2 H locs ls hl hw hd
      have hd : zbX9_squareRoot_6 sh p0 M  (zlX9_squareRoot_6 sh p0 M  n) x1 x2 = some r := hd
      unfold zbX9_squareRoot_6 at hd
      refine lv_iload_n hx hb dX9_squareRoot_6 rfl (lv_at hl 2 rfl) ?_
      refine lv_if_le (tgt := 30) hx hb dX9_squareRoot_7 (by decide) (fun c_2 => ?_) (fun c_2 => ?_)
      · have hd := zif_pos c_2 hd
        refine lv_iload_n hx hb dX9_squareRoot_30 rfl (lv_at hl 1 rfl) ?_
        exact z_iret F hr hlk hw (Option.some.inj hd) rfl dX9_squareRoot_31
      · have hd := zif_neg c_2 hd
        refine lv_iload_n hx hb dX9_squareRoot_10 rfl (lv_at hl 1 rfl) ?_
        refine lv_iload_n hx hb dX9_squareRoot_11 rfl (lv_at hl 2 rfl) ?_
        refine lv_iadd hx hb dX9_squareRoot_12 ?_
        refine lv_istore_n (lv' := [(3, .int (x1 + x2)), (0, .int p0), (1, .int x1), (2, .int x2)]) hx hb dX9_squareRoot_13 rfl hl (by decide) rfl (fun ls hl => ?_)
        refine lv_iload_n hx hb dX9_squareRoot_14 rfl (lv_at hl 0 rfl) ?_
        refine lv_iload_n hx hb dX9_squareRoot_15 rfl (lv_at hl 0 rfl) ?_
        refine lv_imul hx hb dX9_squareRoot_16 ?_
        refine lv_iload_n hx hb dX9_squareRoot_17 rfl (lv_at hl 1 rfl) ?_
        refine lv_icmp_gt (tgt := 23) hx hb dX9_squareRoot_18 (by decide) (fun c_3 => ?_) (fun c_3 => ?_)
        · have hd := zif_pos c_3 hd
          exact J23 _ hk6 _ _ _ _ _ (lv_sub hl [1, 2, 3] rfl) hw hd
        · have hd := zif_neg c_3 hd
          refine lv_iload_n hx hb dX9_squareRoot_21 rfl (lv_at hl 0 rfl) ?_
          refine lv_istore_n (lv' := [(1, .int (x1 + x2)), (3, .int (x1 + x2)), (0, .int p0), (2, .int x2)]) hx hb dX9_squareRoot_22 rfl hl (by decide) rfl (fun ls hl => ?_)
          exact J23 _ hk6 _ _ _ _ _ (lv_sub hl [2, 0, 3] rfl) hw hd
  unfold zX9_squareRoot at hd
  refine lv_iconst (v := (0 : Int32)) hx hb dX9_squareRoot_0 (by decide) ?_
  refine lv_istore_n (lv' := [(1, .int (0 : Int32)), (0, .int p0)]) hx hb dX9_squareRoot_1 rfl hl (by decide) rfl (fun ls hl => ?_)
  refine lv_sipush (v := (1024 : Int32)) hx hb dX9_squareRoot_2 (by decide) ?_
  refine lv_istore_n (lv' := [(2, .int (1024 : Int32)), (1, .int (0 : Int32)), (0, .int p0)]) hx hb dX9_squareRoot_5 rfl hl (by decide) rfl (fun ls hl => ?_)
  exact L6 zF _ _ _ _ _ (lv_sub hl [2, 1, 0] rfl) hw hd

def zjX7_push_47 (sh : zShp) (k0 : Nat) (k1 : Nat) (k2 : Nat) (M : zMem)  (s0 : Int32) : Option (Int32) :=
  some s0
def zX7_push (sh : zShp) (k0 : Nat) (k1 : Nat) (k2 : Nat) (M : zMem) : Option (Int32) :=
  zob (zX7_angle sh k0 M) fun r_3 =>
  zob (zX9_wave sh (zR M k2 0) (r_3 / (16 : Int32)) M) fun r_5 =>
  zbd ((((zI M k1 4) * r_5) / (1000 : Int32))) fun v_6 =>
  if (1 : Int32) ≤ (zI M k1 5) then (
  zgd (znz (zI M k1 5)) <|
  zjX7_push_47 sh k0 k1 k2 M ((v_6 - (zI M k0 3)) / (zI M k1 5)))
  else (
  zjX7_push_47 sh k0 k1 k2 M (0 : Int32))
set_option maxHeartbeats 4000000 in
set_option maxRecDepth 100000 in
theorem ztX7_push (l : Launch) (D : va_G) (cy : Nat → ClassId) (sh : zShp) (ad : Nat → Nat) {k0 : Nat} {k1 : Nat} {k2 : Nat} (h0 : zT sh k0 7) (h1 : zT sh k1 0) (h2 : zT sh k2 9) {M : zMem} {r : Int32} (hd : zX7_push sh k0 k1 k2 M = some r) : zCI l yX7_push cX7_push 4 .int { frames := 1, cells := 0, slots := 0, locals := 22 } [.ref (ad k0), .ref (ad k1), .ref (ad k2)] D cy sh ad M r M := by
  refine zci_of (by decide) (Nat.le_of_ble_eq_true rfl) (fun p e s m below meth c ls F hr hlk hl hw => ?_)
  have hx := F.1.1
  have hb := F.1.2.1
  have hl : lv_has ls 4 [(0, .ref (ad k0)), (1, .ref (ad k1)), (2, .ref (ad k2))] := hl
  have J47 : ∀ (s0 : Int32) (H : Heap) (locs : List Loc) (ls : Array Slot), lv_has ls 4 [] → zWd D cy sh ad s M H locs → zjX7_push_47 sh k0 k1 k2 M  s0 = some r → W p l e { frames := 1, cells := 0, slots := 0, locals := 22 } s m ([.ref (ad k0), .ref (ad k1), .ref (ad k2)] : List Value).toArray below meth c H locs 0 0 (zQI below D cy sh ad s [.ref (ad k0), .ref (ad k1), .ref (ad k2)] r M) (F0 m 47 ls [.int s0]) := by
    intro  s0 H locs ls hl hw hd
    unfold zjX7_push_47 at hd
    exact z_iret F hr hlk hw (Option.some.inj hd) rfl dX7_push_47
  unfold zX7_push at hd
  refine lv_aload_n hx hb dX7_push_0 rfl (lv_at hl 1 rfl) ?_
  refine z_gI F hw h1 zc0 4 (by decide) rfl zf7_40 dX7_push_1 ?_
  refine lv_aload_n hx hb dX7_push_4 rfl (lv_at hl 2 rfl) ?_
  refine z_gR F hw h2 zc9 0 (by decide) rfl zf7_45 dX7_push_5 ?_
  have t_1 : zT sh (zR M k2 0) 14 := hw.2.2.2.fld h2 0 14
  refine lv_aload_n hx hb dX7_push_8 rfl (lv_at hl 0 rfl) ?_
  obtain ⟨r_3, hc_2, hd⟩ := zob_some hd
  refine z_cvI F hw hl.1 (As := []) (rest := [.ref (ad (zR M k2 0)), .int (zI M k1 4)]) (ztX7_angle l D cy sh ad h0 hc_2) zyX7_angle h0 zc7 zk7_51 ⟨rfl, rfl⟩ ⟨by decide, by decide⟩ rfl rfl (Nat.le_of_ble_eq_true rfl) dX7_push_9 (fun H locs hw => ?_)
  refine lv_bipush (v := (16 : Int32)) hx hb dX7_push_12 (by decide) ?_
  refine lv_idiv hx hb dX7_push_14 (by decide) ?_
  obtain ⟨r_5, hc_4, hd⟩ := zob_some hd
  refine z_csI F hw hl.1 (As := [.ref (ad (zR M k2 0)), .int (r_3 / (16 : Int32))]) (rest := [.int (zI M k1 4)]) (ztX9_wave l D cy sh ad t_1 hc_4) zyX9_wave zk7_55 ⟨rfl, rfl⟩ ⟨by decide, by decide⟩ rfl rfl (Nat.le_of_ble_eq_true rfl) dX7_push_15 (fun H locs hw => ?_)
  refine lv_imul hx hb dX7_push_18 ?_
  refine lv_sipush (v := (1000 : Int32)) hx hb dX7_push_19 (by decide) ?_
  refine lv_idiv hx hb dX7_push_22 (by decide) ?_
  refine lv_topi (fun v_6 ev_6 => ?_)
  have hd := zbd_eq ev_6 hd
  refine lv_istore_n (lv' := [(3, .int v_6), (0, .ref (ad k0)), (1, .ref (ad k1)), (2, .ref (ad k2))]) hx hb dX7_push_23 rfl hl (by decide) rfl (fun ls hl => ?_)
  refine lv_aload_n hx hb dX7_push_24 rfl (lv_at hl 2 rfl) ?_
  refine z_gI F hw h1 zc0 5 (by decide) rfl zf7_59 dX7_push_25 ?_
  refine lv_iconst (v := (1 : Int32)) hx hb dX7_push_28 (by decide) ?_
  refine lv_icmp_ge (tgt := 36) hx hb dX7_push_29 (by decide) (fun c_7 => ?_) (fun c_7 => ?_)
  · have hd := zif_pos c_7 hd
    refine lv_iload_n hx hb dX7_push_36 rfl (lv_at hl 0 rfl) ?_
    refine lv_aload_n hx hb dX7_push_37 rfl (lv_at hl 1 rfl) ?_
    refine z_gI F hw h0 zc7 3 (by decide) rfl zf7_31 dX7_push_38 ?_
    refine lv_isub hx hb dX7_push_41 ?_
    refine lv_aload_n hx hb dX7_push_42 rfl (lv_at hl 2 rfl) ?_
    refine z_gI F hw h1 zc0 5 (by decide) rfl zf7_59 dX7_push_43 ?_
    obtain ⟨g_8, hd⟩ := zgd_some hd
    refine lv_idiv hx hb dX7_push_46 (znz_ne g_8) ?_
    exact J47 _ _ _ _ (lv_sub hl [] rfl) hw hd
  · have hd := zif_neg c_7 hd
    refine lv_iconst (v := (0 : Int32)) hx hb dX7_push_32 (by decide) ?_
    refine lv_goto (tgt := 47) hx hb dX7_push_33 (by decide) ?_
    exact J47 _ _ _ _ (lv_sub hl [] rfl) hw hd

def zX7_turn (sh : zShp) (k0 : Nat) (k1 : Nat) (k2 : Nat) (M : zMem) : Option (zMem) :=
  zob (zX7_push sh k0 k1 k2 M) fun r_2 =>
  zbd ((((zI M k0 2) + r_2) - ((((zI M k0 2) + r_2) * (zI M k1 6)) / (100 : Int32)))) fun v_3 =>
  zbd (zpI M k0 2 (zmax (-2000 : Int32) (zmin (2000 : Int32) v_3))) fun M_4 =>
  zbd (zpI M_4 k0 1 ((zI M_4 k0 1) + (zI M_4 k0 2))) fun M_5 =>
  some M_5
set_option maxHeartbeats 4000000 in
set_option maxRecDepth 100000 in
theorem ztX7_turn (l : Launch) (D : va_G) (cy : Nat → ClassId) (sh : zShp) (ad : Nat → Nat) {k0 : Nat} {k1 : Nat} {k2 : Nat} (h0 : zT sh k0 7) (h1 : zT sh k1 0) (h2 : zT sh k2 9) {M : zMem} {M1 : zMem} (hd : zX7_turn sh k0 k1 k2 M = some M1) : zCV l yX7_turn cX7_turn 4 { frames := 2, cells := 0, slots := 0, locals := 45 } [.ref (ad k0), .ref (ad k1), .ref (ad k2)] D cy sh ad M M1 := by
  refine zcv_of (by decide) (Nat.le_of_ble_eq_true rfl) (fun p e s m below meth c ls F hr hlk hl hw => ?_)
  have hx := F.1.1
  have hb := F.1.2.1
  have hl : lv_has ls 4 [(0, .ref (ad k0)), (1, .ref (ad k1)), (2, .ref (ad k2))] := hl
  unfold zX7_turn at hd
  refine lv_aload_n hx hb dX7_turn_0 rfl (lv_at hl 0 rfl) ?_
  refine z_gI F hw h0 zc7 2 (by decide) rfl zf7_28 dX7_turn_1 ?_
  refine lv_aload_n hx hb dX7_turn_4 rfl (lv_at hl 0 rfl) ?_
  refine lv_aload_n hx hb dX7_turn_5 rfl (lv_at hl 1 rfl) ?_
  refine lv_aload_n hx hb dX7_turn_6 rfl (lv_at hl 2 rfl) ?_
  obtain ⟨r_2, hc_1, hd⟩ := zob_some hd
  refine z_cvI F hw hl.1 (As := [.ref (ad k1), .ref (ad k2)]) (rest := [.int (zI M k0 2)]) (ztX7_push l D cy sh ad h0 h1 h2 hc_1) zyX7_push h0 zc7 zk7_62 ⟨rfl, rfl⟩ ⟨by decide, by decide⟩ rfl rfl (Nat.le_of_ble_eq_true rfl) dX7_turn_7 (fun H locs hw => ?_)
  refine lv_iadd hx hb dX7_turn_10 ?_
  refine lv_istore_n (lv' := [(3, .int ((zI M k0 2) + r_2)), (0, .ref (ad k0)), (1, .ref (ad k1)), (2, .ref (ad k2))]) hx hb dX7_turn_11 rfl hl (by decide) rfl (fun ls hl => ?_)
  refine lv_iload_n hx hb dX7_turn_12 rfl (lv_at hl 0 rfl) ?_
  refine lv_iload_n hx hb dX7_turn_13 rfl (lv_at hl 0 rfl) ?_
  refine lv_aload_n hx hb dX7_turn_14 rfl (lv_at hl 2 rfl) ?_
  refine z_gI F hw h1 zc0 6 (by decide) rfl zf7_66 dX7_turn_15 ?_
  refine lv_imul hx hb dX7_turn_18 ?_
  refine lv_bipush (v := (100 : Int32)) hx hb dX7_turn_19 (by decide) ?_
  refine lv_idiv hx hb dX7_turn_21 (by decide) ?_
  refine lv_isub hx hb dX7_turn_22 ?_
  refine lv_topi (fun v_3 ev_3 => ?_)
  have hd := zbd_eq ev_3 hd
  refine lv_istore_n (lv' := [(3, .int v_3), (0, .ref (ad k0)), (1, .ref (ad k1)), (2, .ref (ad k2))]) hx hb dX7_turn_23 rfl hl (by decide) rfl (fun ls hl => ?_)
  refine lv_aload_n hx hb dX7_turn_24 rfl (lv_at hl 1 rfl) ?_
  refine lv_sipush (v := (-2000 : Int32)) hx hb dX7_turn_25 (by decide) ?_
  refine lv_sipush (v := (2000 : Int32)) hx hb dX7_turn_28 (by decide) ?_
  refine lv_iload_n hx hb dX7_turn_31 rfl (lv_at hl 0 rfl) ?_
  refine z_mmin F hl.1 zk7_69 (by decide) (Nat.le_of_ble_eq_true rfl) dX7_turn_32 ?_
  refine z_mmax F hl.1 zk7_72 (by decide) (Nat.le_of_ble_eq_true rfl) dX7_turn_35 ?_
  refine z_pI F hw h0 zc7 2 (by decide) rfl zf7_28 rfl rfl rfl dX7_turn_38 (fun H locs M_4 eM_4 hw => ?_)
  have hd := zbd_eq eM_4 hd
  refine lv_aload_n hx hb dX7_turn_41 rfl (lv_at hl 1 rfl) ?_
  refine lv_dup hx hb dX7_turn_42 rfl ?_
  refine z_gI F hw h0 zc7 1 (by decide) rfl zf7_25 dX7_turn_43 ?_
  refine lv_aload_n hx hb dX7_turn_46 rfl (lv_at hl 1 rfl) ?_
  refine z_gI F hw h0 zc7 2 (by decide) rfl zf7_28 dX7_turn_47 ?_
  refine lv_iadd hx hb dX7_turn_50 ?_
  refine z_pI F hw h0 zc7 1 (by decide) rfl zf7_25 rfl rfl rfl dX7_turn_51 (fun H locs M_5 eM_5 hw => ?_)
  have hd := zbd_eq eM_5 hd
  exact z_vret F hr hlk hw (Option.some.inj hd) dX7_turn_54

