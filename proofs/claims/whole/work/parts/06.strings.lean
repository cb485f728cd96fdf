def zslen : List Nat := [4, 4, 4, 4, 3, 4, 4, 4, 4, 4, 5, 5, 6]
def zsbyt : List (List Int32) := [[97, 120, 105, 115], [98, 97, 110, 100], [99, 111, 105, 108], [100, 97, 109, 112], [102, 105, 120], [103, 97, 105, 110], [104, 111, 108, 100], [106, 101, 114, 107], [108, 111, 115, 115], [109, 97, 115, 115], [109, 111, 116, 111, 114], [115, 112, 101, 101, 100], [115, 117, 112, 112, 108, 121]]
def zsidx : List Nat := [40, 55, 65, 137, 60, 110, 129, 114, 180, 133, 50, 96, 176]
def zstx : List String := ["axis", "band", "coil", "damp", "fix", "gain", "hold", "jerk", "loss", "mass", "motor", "speed", "supply"]
theorem zsw9 : Cond.fieldLink RJ0 9 "java/lang/String" "value" "[B" ∈ AW := aw_t (i := 1778) (by decide +kernel) rfl
theorem zsw15 : Cond.fieldLink RJ0 15 "java/lang/String" "coder" "B" ∈ AW := aw_t (i := 1779) (by decide +kernel) rfl
theorem zsw38 : Cond.fieldLink RJ0 38 "java/lang/String" "COMPACT_STRINGS" "Z" ∈ AW := aw_t (i := 552) (by decide +kernel) rfl
theorem zsw1053 : Cond.fieldLink RJ0 1053 "jdk/internal/util/Preconditions" "SIOOBE_FORMATTER" "Ljava/util/function/BiFunction;" ∈ AW := aw_t (i := 568) (by decide +kernel) rfl
theorem zsk335 : Cond.methodLink RJ0 335 yJ0_coder_7d493 ∈ AW := aw_t (i := 548) (by decide +kernel) rfl
theorem zsk492 : Cond.methodLink RJ0 492 yJ0_isLatin1_aae02 ∈ AW := aw_t (i := 558) (by decide +kernel) rfl
theorem zsk495 : Cond.methodLink RJ0 495 yJ1_charAt_3b067 ∈ AW := aw_t (i := 562) (by decide +kernel) rfl
theorem zskL9 : Cond.methodLink RJ1 9 yJ0_checkIndex_df160 ∈ AW := aw_t (i := 565) (by decide +kernel) rfl
theorem zsk1059 : Cond.methodLink RJ0 1059 yJ3_checkIndex_8e157 ∈ AW := aw_t (i := 570) (by decide +kernel) rfl
theorem zskRl : Cond.methodLink RX6 195 yJ0_length_8abf5 ∈ AW := aw_t (i := 544) (by decide +kernel) rfl
theorem zskRc : Cond.methodLink RX6 201 yJ0_charAt_5068e ∈ AW := aw_t (i := 554) (by decide +kernel) rfl
theorem zyJ0_length_8abf5 : zMth yJ0_length_8abf5 cJ0_length_8abf5 1 (some .int) 0 := ⟨aw_t (i := 545) (by decide +kernel) rfl, aw_t (i := 546) (by decide +kernel) rfl, aw_t (i := 15) (by decide +kernel) rfl, aw_t (i := 547) (by decide +kernel) rfl, by decide +kernel⟩
theorem zyJ0_charAt_5068e : zMth yJ0_charAt_5068e cJ0_charAt_5068e 2 (some .char) 1 := ⟨aw_t (i := 555) (by decide +kernel) rfl, aw_t (i := 556) (by decide +kernel) rfl, aw_t (i := 15) (by decide +kernel) rfl, aw_t (i := 557) (by decide +kernel) rfl, by decide +kernel⟩
theorem zyJ0_coder_7d493 : zMth yJ0_coder_7d493 cJ0_coder_7d493 1 (some .byte) 0 := ⟨aw_t (i := 549) (by decide +kernel) rfl, aw_t (i := 550) (by decide +kernel) rfl, aw_t (i := 15) (by decide +kernel) rfl, aw_t (i := 551) (by decide +kernel) rfl, by decide +kernel⟩
theorem zyJ0_isLatin1_aae02 : zMth yJ0_isLatin1_aae02 cJ0_isLatin1_aae02 1 (some .boolean) 0 := ⟨aw_t (i := 559) (by decide +kernel) rfl, aw_t (i := 560) (by decide +kernel) rfl, aw_t (i := 15) (by decide +kernel) rfl, aw_t (i := 561) (by decide +kernel) rfl, by decide +kernel⟩
theorem zyJ0_checkIndex_df160 : zMtS yJ0_checkIndex_df160 cJ0_checkIndex_df160 2 none 2 := ⟨aw_t (i := 566) (by decide +kernel) rfl, aw_t (i := 15) (by decide +kernel) rfl, aw_t (i := 567) (by decide +kernel) rfl, by decide +kernel⟩
theorem zyJ1_charAt_3b067 : zMtS yJ1_charAt_3b067 cJ1_charAt_3b067 2 (some .char) 2 := ⟨aw_t (i := 563) (by decide +kernel) rfl, aw_t (i := 16) (by decide +kernel) rfl, aw_t (i := 564) (by decide +kernel) rfl, by decide +kernel⟩
theorem zyJ3_checkIndex_8e157 : zMtS yJ3_checkIndex_8e157 cJ3_checkIndex_8e157 3 (some .int) 3 := ⟨aw_t (i := 571) (by decide +kernel) rfl, aw_t (i := 17) (by decide +kernel) rfl, aw_t (i := 572) (by decide +kernel) rfl, by decide +kernel⟩
theorem dJ0_length_8abf5_0 : decode cJ0_length_8abf5 0 = .ok (.aload_n 0, 1) := by decide +kernel
theorem dJ0_length_8abf5_1 : decode cJ0_length_8abf5 1 = .ok (.getfield 9, 3) := by decide +kernel
theorem dJ0_length_8abf5_4 : decode cJ0_length_8abf5 4 = .ok (.arraylength, 1) := by decide +kernel
theorem dJ0_length_8abf5_5 : decode cJ0_length_8abf5 5 = .ok (.aload_n 0, 1) := by decide +kernel
theorem dJ0_length_8abf5_6 : decode cJ0_length_8abf5 6 = .ok (.invokevirtual 335, 3) := by decide +kernel
theorem dJ0_length_8abf5_9 : decode cJ0_length_8abf5 9 = .ok (.ishr, 1) := by decide +kernel
theorem dJ0_length_8abf5_10 : decode cJ0_length_8abf5 10 = .ok (.ireturn, 1) := by decide +kernel
theorem dJ0_charAt_5068e_0 : decode cJ0_charAt_5068e 0 = .ok (.aload_n 0, 1) := by decide +kernel
theorem dJ0_charAt_5068e_1 : decode cJ0_charAt_5068e 1 = .ok (.invokevirtual 492, 3) := by decide +kernel
theorem dJ0_charAt_5068e_4 : decode cJ0_charAt_5068e 4 = .ok (.ifCond .eq 12, 3) := by decide +kernel
theorem dJ0_charAt_5068e_7 : decode cJ0_charAt_5068e 7 = .ok (.aload_n 0, 1) := by decide +kernel
theorem dJ0_charAt_5068e_8 : decode cJ0_charAt_5068e 8 = .ok (.getfield 9, 3) := by decide +kernel
theorem dJ0_charAt_5068e_11 : decode cJ0_charAt_5068e 11 = .ok (.iload_n 1, 1) := by decide +kernel
theorem dJ0_charAt_5068e_12 : decode cJ0_charAt_5068e 12 = .ok (.invokestatic 495, 3) := by decide +kernel
theorem dJ0_charAt_5068e_15 : decode cJ0_charAt_5068e 15 = .ok (.ireturn, 1) := by decide +kernel
theorem dJ0_charAt_5068e_16 : decode cJ0_charAt_5068e 16 = .ok (.aload_n 0, 1) := by decide +kernel
theorem dJ0_charAt_5068e_17 : decode cJ0_charAt_5068e 17 = .ok (.getfield 9, 3) := by decide +kernel
theorem dJ0_charAt_5068e_20 : decode cJ0_charAt_5068e 20 = .ok (.iload_n 1, 1) := by decide +kernel
theorem dJ0_charAt_5068e_21 : decode cJ0_charAt_5068e 21 = .ok (.invokestatic 498, 3) := by decide +kernel
theorem dJ0_charAt_5068e_24 : decode cJ0_charAt_5068e 24 = .ok (.ireturn, 1) := by decide +kernel
theorem dJ0_coder_7d493_0 : decode cJ0_coder_7d493 0 = .ok (.getstatic 38, 3) := by decide +kernel
theorem dJ0_coder_7d493_3 : decode cJ0_coder_7d493 3 = .ok (.ifCond .eq 10, 3) := by decide +kernel
theorem dJ0_coder_7d493_6 : decode cJ0_coder_7d493 6 = .ok (.aload_n 0, 1) := by decide +kernel
theorem dJ0_coder_7d493_7 : decode cJ0_coder_7d493 7 = .ok (.getfield 15, 3) := by decide +kernel
theorem dJ0_coder_7d493_10 : decode cJ0_coder_7d493 10 = .ok (.goto 4, 3) := by decide +kernel
theorem dJ0_coder_7d493_13 : decode cJ0_coder_7d493 13 = .ok (.iconst 1, 1) := by decide +kernel
theorem dJ0_coder_7d493_14 : decode cJ0_coder_7d493 14 = .ok (.ireturn, 1) := by decide +kernel
theorem dJ0_isLatin1_aae02_0 : decode cJ0_isLatin1_aae02 0 = .ok (.getstatic 38, 3) := by decide +kernel
theorem dJ0_isLatin1_aae02_3 : decode cJ0_isLatin1_aae02 3 = .ok (.ifCond .eq 14, 3) := by decide +kernel
theorem dJ0_isLatin1_aae02_6 : decode cJ0_isLatin1_aae02 6 = .ok (.aload_n 0, 1) := by decide +kernel
theorem dJ0_isLatin1_aae02_7 : decode cJ0_isLatin1_aae02 7 = .ok (.getfield 15, 3) := by decide +kernel
theorem dJ0_isLatin1_aae02_10 : decode cJ0_isLatin1_aae02 10 = .ok (.ifCond .ne 7, 3) := by decide +kernel
theorem dJ0_isLatin1_aae02_13 : decode cJ0_isLatin1_aae02 13 = .ok (.iconst 1, 1) := by decide +kernel
theorem dJ0_isLatin1_aae02_14 : decode cJ0_isLatin1_aae02 14 = .ok (.goto 4, 3) := by decide +kernel
theorem dJ0_isLatin1_aae02_17 : decode cJ0_isLatin1_aae02 17 = .ok (.iconst 0, 1) := by decide +kernel
theorem dJ0_isLatin1_aae02_18 : decode cJ0_isLatin1_aae02 18 = .ok (.ireturn, 1) := by decide +kernel
theorem dJ0_checkIndex_df160_0 : decode cJ0_checkIndex_df160 0 = .ok (.iload_n 0, 1) := by decide +kernel
theorem dJ0_checkIndex_df160_1 : decode cJ0_checkIndex_df160 1 = .ok (.iload_n 1, 1) := by decide +kernel
theorem dJ0_checkIndex_df160_2 : decode cJ0_checkIndex_df160 2 = .ok (.getstatic 1053, 3) := by decide +kernel
theorem dJ0_checkIndex_df160_5 : decode cJ0_checkIndex_df160 5 = .ok (.invokestatic 1059, 3) := by decide +kernel
theorem dJ0_checkIndex_df160_8 : decode cJ0_checkIndex_df160 8 = .ok (.pop, 1) := by decide +kernel
theorem dJ0_checkIndex_df160_9 : decode cJ0_checkIndex_df160 9 = .ok (.return_, 1) := by decide +kernel
theorem dJ1_charAt_3b067_0 : decode cJ1_charAt_3b067 0 = .ok (.iload_n 1, 1) := by decide +kernel
theorem dJ1_charAt_3b067_1 : decode cJ1_charAt_3b067 1 = .ok (.aload_n 0, 1) := by decide +kernel
theorem dJ1_charAt_3b067_2 : decode cJ1_charAt_3b067 2 = .ok (.arraylength, 1) := by decide +kernel
theorem dJ1_charAt_3b067_3 : decode cJ1_charAt_3b067 3 = .ok (.invokestatic 9, 3) := by decide +kernel
theorem dJ1_charAt_3b067_6 : decode cJ1_charAt_3b067 6 = .ok (.aload_n 0, 1) := by decide +kernel
theorem dJ1_charAt_3b067_7 : decode cJ1_charAt_3b067 7 = .ok (.iload_n 1, 1) := by decide +kernel
theorem dJ1_charAt_3b067_8 : decode cJ1_charAt_3b067 8 = .ok (.baload, 1) := by decide +kernel
theorem dJ1_charAt_3b067_9 : decode cJ1_charAt_3b067 9 = .ok (.sipush 255, 3) := by decide +kernel
theorem dJ1_charAt_3b067_12 : decode cJ1_charAt_3b067 12 = .ok (.iand, 1) := by decide +kernel
theorem dJ1_charAt_3b067_13 : decode cJ1_charAt_3b067 13 = .ok (.i2c, 1) := by decide +kernel
theorem dJ1_charAt_3b067_14 : decode cJ1_charAt_3b067 14 = .ok (.ireturn, 1) := by decide +kernel
theorem dJ3_checkIndex_8e157_0 : decode cJ3_checkIndex_8e157 0 = .ok (.iload_n 0, 1) := by decide +kernel
theorem dJ3_checkIndex_8e157_1 : decode cJ3_checkIndex_8e157 1 = .ok (.ifCond .lt 8, 3) := by decide +kernel
theorem dJ3_checkIndex_8e157_4 : decode cJ3_checkIndex_8e157 4 = .ok (.iload_n 0, 1) := by decide +kernel
theorem dJ3_checkIndex_8e157_5 : decode cJ3_checkIndex_8e157 5 = .ok (.iload_n 1, 1) := by decide +kernel
theorem dJ3_checkIndex_8e157_6 : decode cJ3_checkIndex_8e157 6 = .ok (.if_icmp .lt 10, 3) := by decide +kernel
theorem dJ3_checkIndex_8e157_9 : decode cJ3_checkIndex_8e157 9 = .ok (.aload_n 2, 1) := by decide +kernel
theorem dJ3_checkIndex_8e157_10 : decode cJ3_checkIndex_8e157 10 = .ok (.iload_n 0, 1) := by decide +kernel
theorem dJ3_checkIndex_8e157_11 : decode cJ3_checkIndex_8e157 11 = .ok (.iload_n 1, 1) := by decide +kernel
theorem dJ3_checkIndex_8e157_12 : decode cJ3_checkIndex_8e157 12 = .ok (.invokestatic 95, 3) := by decide +kernel
theorem dJ3_checkIndex_8e157_15 : decode cJ3_checkIndex_8e157 15 = .ok (.athrow, 1) := by decide +kernel
theorem dJ3_checkIndex_8e157_16 : decode cJ3_checkIndex_8e157 16 = .ok (.iload_n 0, 1) := by decide +kernel
theorem dJ3_checkIndex_8e157_17 : decode cJ3_checkIndex_8e157 17 = .ok (.ireturn, 1) := by decide +kernel
theorem dX6_codeOf_0 : decode cX6_codeOf 0 = .ok (.iconst 0, 1) := by decide +kernel
theorem dX6_codeOf_1 : decode cX6_codeOf 1 = .ok (.istore_n 1, 1) := by decide +kernel
theorem dX6_codeOf_2 : decode cX6_codeOf 2 = .ok (.iconst 0, 1) := by decide +kernel
theorem dX6_codeOf_3 : decode cX6_codeOf 3 = .ok (.istore_n 2, 1) := by decide +kernel
theorem dX6_codeOf_4 : decode cX6_codeOf 4 = .ok (.iload_n 2, 1) := by decide +kernel
theorem dX6_codeOf_5 : decode cX6_codeOf 5 = .ok (.aload_n 0, 1) := by decide +kernel
theorem dX6_codeOf_6 : decode cX6_codeOf 6 = .ok (.invokevirtual 195, 3) := by decide +kernel
theorem dX6_codeOf_9 : decode cX6_codeOf 9 = .ok (.if_icmp .ge 25, 3) := by decide +kernel
theorem dX6_codeOf_12 : decode cX6_codeOf 12 = .ok (.iload_n 1, 1) := by decide +kernel
theorem dX6_codeOf_13 : decode cX6_codeOf 13 = .ok (.bipush 27, 2) := by decide +kernel
theorem dX6_codeOf_15 : decode cX6_codeOf 15 = .ok (.imul, 1) := by decide +kernel
theorem dX6_codeOf_16 : decode cX6_codeOf 16 = .ok (.aload_n 0, 1) := by decide +kernel
theorem dX6_codeOf_17 : decode cX6_codeOf 17 = .ok (.iload_n 2, 1) := by decide +kernel
theorem dX6_codeOf_18 : decode cX6_codeOf 18 = .ok (.invokevirtual 201, 3) := by decide +kernel
theorem dX6_codeOf_21 : decode cX6_codeOf 21 = .ok (.iadd, 1) := by decide +kernel
theorem dX6_codeOf_22 : decode cX6_codeOf 22 = .ok (.bipush 97, 2) := by decide +kernel
theorem dX6_codeOf_24 : decode cX6_codeOf 24 = .ok (.isub, 1) := by decide +kernel
theorem dX6_codeOf_25 : decode cX6_codeOf 25 = .ok (.iconst 1, 1) := by decide +kernel
theorem dX6_codeOf_26 : decode cX6_codeOf 26 = .ok (.iadd, 1) := by decide +kernel
theorem dX6_codeOf_27 : decode cX6_codeOf 27 = .ok (.istore_n 1, 1) := by decide +kernel
theorem dX6_codeOf_28 : decode cX6_codeOf 28 = .ok (.iinc 2 1, 3) := by decide +kernel
theorem dX6_codeOf_31 : decode cX6_codeOf 31 = .ok (.goto (-27), 3) := by decide +kernel
theorem dX6_codeOf_34 : decode cX6_codeOf 34 = .ok (.iload_n 1, 1) := by decide +kernel
theorem dX6_codeOf_35 : decode cX6_codeOf 35 = .ok (.ireturn, 1) := by decide +kernel

abbrev zKa : Type := (Nat → Nat) × (Nat → Nat)
def zStr (sh : zShp) (ad : Nat → Nat) (ka : zKa) (U : State) : Prop :=
  vk_S 13 zslen zsbyt ka.1 ka.2 (zA sh ad U.heap.size) U U.heap ∧ va_Z "java/lang/String" "COMPACT_STRINGS" "Z" (.int 1) (zA sh ad U.heap.size) U U.heap ∧ va_Zq "jdk/internal/util/Preconditions" "SIOOBE_FORMATTER" "Ljava/util/function/BiFunction;" (zA sh ad U.heap.size) U U.heap ∧ ∀ i, i < 13 → vk_R RX6 (zsidx.getD i 0) (zstx.getD i "") (ka.1 i) U
theorem zStr.warm {sh : zShp} {ad : Nat → Nat} {ka : zKa} {s U : State} {H : Heap} {locs : List Loc} (hW : s.WarmedH U.vm) (hU : U.heap = H) (hS : va_S (zA sh ad s.heap.size) s.heap H locs) (h : zStr sh ad ka s) : zStr sh ad ka U := by
  have hle : ∀ q, zA sh ad U.heap.size q → zA sh ad s.heap.size q := fun q hq => zA_le (by rw [hU]; exact hS.1) hq
  have hk : ∀ a : Nat, a < s.heap.size → ¬ zA sh ad s.heap.size a → U.heap[a]? = s.heap[a]? := fun a h1 h2 => by rw [hU]; exact hS.2.1 a h1 h2
  exact ⟨((h.1.moved hW.alike).kept hk).narrow hle, ((h.2.1.moved hW.alike).kept hk).narrow hle, ((h.2.2.1.moved hW.alike).kept hk).narrow hle, fun i hi => vk_R.warm hW (h.2.2.2 i hi)⟩
def zPreS (D : va_G) (cy : Nat → ClassId) (sh : zShp) (ad : Nat → Nat) (ka : zKa) (M : zMem) (sz : Nat) (U : State) : Prop := zPre D cy sh ad M sz U ∧ zStr sh ad ka U
theorem zblindS {As : List Value} {D : va_G} {cy : Nat → ClassId} {sh : zShp} {ad : Nat → Nat} {ka : zKa} {M : zMem} {sz : Nat} : FrameBlind (va_Pc As (zPreS D cy sh ad ka M sz)) := fun a U g mk q => by
  obtain ⟨q0, ⟨q1, qP, qK, qN, qD, qT⟩, s1, s2, s3, s4⟩ := q
  exact ⟨q0, ⟨q1, qP, va_K.moved (u := U) (U := U.calling g mk a) (Vm.Alike.refl U.vm) qK, zNst.same rfl qN, qD, qT⟩, vk_S.moved (u := U) (U := U.calling g mk a) (Vm.Alike.refl U.vm) s1, va_Z.moved (u := U) (U := U.calling g mk a) (Vm.Alike.refl U.vm) s2, va_Zq.moved (u := U) (U := U.calling g mk a) (Vm.Alike.refl U.vm) s3, fun i hi => vk_R.same rfl (s4 i hi)⟩
def zSCI (l : Launch) (y : MethodName) (bs : ByteArray) (mL : Nat) (ret : FieldType) (rm : Room) (As : List Value) (D : va_G) (cy : Nat → ClassId) (sh : zShp) (ad : Nat → Nat) (ka : zKa) (M : zMem) (r : Int32) (M1 : zMem) : Prop := ∀ sz : Nat, Met l y (.code y bs mL (some ret) :: AW) rm (va_Pc As (zPreS D cy sh ad ka M sz)) (va_Qi (fun (r' : Int32) (u : zMem) => r' = r ∧ u = M1) (zPost D cy sh ad sz) (zA sh ad sz)) 0 0 (zA sh ad sz)
def zSCV (l : Launch) (y : MethodName) (bs : ByteArray) (mL : Nat) (rm : Room) (As : List Value) (D : va_G) (cy : Nat → ClassId) (sh : zShp) (ad : Nat → Nat) (ka : zKa) (M : zMem) (M1 : zMem) : Prop := ∀ sz : Nat, Met l y (.code y bs mL none :: AW) rm (va_Pc As (zPreS D cy sh ad ka M sz)) (va_Qv (fun (u : zMem) => u = M1) (zPost D cy sh ad sz) (zA sh ad sz)) 0 0 (zA sh ad sz)
section ZSCALL
variable {p : Program} {l : Launch} {e : Env} {R : Room} {s : State} {m : MethodId} {args : Array Value} {below : List Frame} {meth : Method} {c : Code} {H : Heap} {locs : List Loc} {Q : State → Prop}
variable {cc : ByteArray} {pc nL : Nat} {ls : Array Slot} {rest : List Value} {own : String} {D : va_G} {cy : Nat → ClassId} {sh : zShp} {ad : Nat → Nat} {ka : zKa} {M M1 : zMem} {y : MethodName} {bs : ByteArray} {mL : Nat} {rm : Room} {As : List Value}
theorem zsci_of {ret : FieldType} {r : Int32} (hy : plainFor y = true) (hlen : (lg_sl As).length ≤ mL)
    (body : ∀ (p : Program) (e : Env) (s : State) (m : MethodId) (below : List Frame) (meth : Method) (c : Code) (ls : Array Slot), zFx D cy p m c bs mL s As.toArray y.cls → meth.sig.returnType = some ret → meth.locks = false → lv_has ls mL (lv_args 0 As) → zWd D cy sh ad s M s.heap [] → zStr sh ad ka s → W p l e rm s m As.toArray below meth c s.heap [] 0 0 (zQI below D cy sh ad s As r M1) (F0 m 0 ls [])) : zSCI l y bs mL ret rm As D cy sh ad ka M r M1 := by
  intro sz
  refine va_MetF (cc := bs) (maxL := mL) (ret := some ret) hy rfl ?_
  intro p e s m args below meth c s₁ B hml hv
  obtain ⟨rfl, ⟨hsz, hP, hK, hN, hD, hTy⟩, hS⟩ := hv
  subst hsz
  have hts := atoms_spec (ws := .code y bs mL (some ret) :: AW) B.pre
  have hl := lv_entry As (n := mL) hlen
  rw [lg_entry_eq]
  generalize (lg_sl As ++ List.replicate (mL - (lg_sl As).length) Slot.unset).toArray = ls at hl ⊢
  exact body p e s m below meth c ls ⟨⟨B.exec, B.bytes, hml, findClass_of_methodNamed B.named, fun w h => hts w (List.mem_cons_of_mem _ h)⟩, hK, hN⟩ B.returns B.notSynchronized hl ⟨hP, zD_all hD (fun k h => zA_in h), va_S.rf, hTy⟩ hS
theorem zscv_of (hy : plainFor y = true) (hlen : (lg_sl As).length ≤ mL)
    (body : ∀ (p : Program) (e : Env) (s : State) (m : MethodId) (below : List Frame) (meth : Method) (c : Code) (ls : Array Slot), zFx D cy p m c bs mL s As.toArray y.cls → meth.sig.returnType = none → meth.locks = false → lv_has ls mL (lv_args 0 As) → zWd D cy sh ad s M s.heap [] → zStr sh ad ka s → W p l e rm s m As.toArray below meth c s.heap [] 0 0 (zQV below D cy sh ad s As M1) (F0 m 0 ls [])) : zSCV l y bs mL rm As D cy sh ad ka M M1 := by
  intro sz
  refine va_MetF (cc := bs) (maxL := mL) (ret := none) hy rfl ?_
  intro p e s m args below meth c s₁ B hml hv
  obtain ⟨rfl, ⟨hsz, hP, hK, hN, hD, hTy⟩, hS⟩ := hv
  subst hsz
  have hts := atoms_spec (ws := .code y bs mL none :: AW) B.pre
  have hl := lv_entry As (n := mL) hlen
  rw [lg_entry_eq]
  generalize (lg_sl As ++ List.replicate (mL - (lg_sl As).length) Slot.unset).toArray = ls at hl ⊢
  exact body p e s m below meth c ls ⟨⟨B.exec, B.bytes, hml, findClass_of_methodNamed B.named, fun w h => hts w (List.mem_cons_of_mem _ h)⟩, hK, hN⟩ B.returns B.notSynchronized hl ⟨hP, zD_all hD (fun k h => zA_in h), va_S.rf, hTy⟩ hS
theorem z_nret {r v : Int32} {Mx : zMem} {ty : FieldType} (F : zFx D cy p m c cc nL s As.toArray own) (hr : meth.sig.returnType = some ty) (hlk : meth.locks = false) (hw : zWd D cy sh ad s Mx H locs) (hn : narrow ty (.int v) = .int v) (hv : v = r) (hM : Mx = M1) (hdg : decode cc pc = .ok (.ireturn, 1)) : W p l e R s m As.toArray below meth c H locs 0 0 (zQI below D cy sh ad s As r M1) (F0 m pc ls [.int v]) := by
  unfold zQI
  exact W.zret F.1.1 F.1.2.1 hr hn (fun t ht hW => ⟨⟨v, Mx, rfl, ⟨hv, hM⟩, by rw [ht]; exact hw.1, hw.2.1, hw.2.2.2⟩, hw.2.2.1.F ht⟩) hw.2.2.1.2.2 hdg hlk
theorem z_svI (F : zFx D cy p m c cc nL s args own) (hS : zStr sh ad ka s) (hw : zWd D cy sh ad s M H locs) (hls : ls.size = nL) {ret : FieldType} {r : Int32} {b n idx : Nat} (hC : zSCI l y bs mL ret rm (.ref b :: As) D cy sh ad ka M r M1) (hY : zMth y bs mL (some ret) n) (hrc : ∃ cellB : Cell, H[b]? = some cellB ∧ cellB.vm.isStatics = false ∧ s.vm.findClass y.cls = some cellB.cls) (hlink : Cond.methodLink own idx y ∈ AW) (hrm : rm.cells = 0 ∧ rm.slots = 0) (hR : rm.frames + 1 ≤ R.frames ∧ 8 + (mL + 11) + rm.locals ≤ R.locals) (hn : As.length = n) {st0 : List Value} (hst : st0 = As.reverse ++ .ref b :: rest) (h8 : (rest.map fun v => v.category).sum ≤ 8) (hdg : decode cc pc = .ok (.invokevirtual idx, 3))
    (kk : ∀ (H1 : Heap) (locs1 : List Loc), zWd D cy sh ad s M1 H1 locs1 → W p l e R s m args below meth c H1 locs1 0 0 Q (F0 m (pc + 3) ls (.int r :: rest))) : W p l e R s m args below meth c H locs 0 0 Q (F0 m pc ls st0) := by
  have hts := F.1.2.2.2.2
  have hpre : PreV s H y.cls b (va_Pc (.ref b :: As) (zPreS D cy sh ad ka M H.size)) As := ⟨zblindS, hrc, fun U hU hW => ⟨rfl, ⟨by rw [hU], by rw [hU]; exact hw.1, va_K.moved hW.alike F.2.1, F.2.2.warm hW, zD_all hw.2.1 (fun _ _ => trivial), hw.2.2.2⟩, hS.warm hW hU hw.2.2.1⟩⟩
  have cw : CallW R s args own y.cls idx y bs mL (some ret) (.code y bs mL (some ret) :: AW) rm 0 0 n := ⟨callB_of n hts (aw_good hY.2.2.2.1) rfl hrm.1 hrm.2 (hts _ hY.2.2.1) (hts _ hlink) hY.2.2.2.2 hR, hts _ hY.1, hts _ hY.2.1⟩
  refine va_calli (va_runV (As := As) (rest := rest) F.1 (hC H.size) cw hpre rfl hn hls hst (lv_room h8) hdg ⟨Nat.zero_le _, Nat.zero_le _⟩) hw.2.2.1 (fun q _ h => zA_le hw.2.2.1.1 h) (fun q h => zA_le hw.2.2.1.1 h) (fun r1 u t H1 locs1 ht hvm hp hB hz hk hS => ?_)
  obtain ⟨rfl, rfl⟩ := hp
  obtain ⟨hP1, hD1, hT1⟩ := hB
  exact kk H1 locs1 ⟨by rw [ht] at hP1; exact hP1, zD_all hD1 (fun k h => zA_in h), hS, hT1⟩
theorem z_ssI (F : zFx D cy p m c cc nL s args own) (hS : zStr sh ad ka s) (hw : zWd D cy sh ad s M H locs) (hls : ls.size = nL) {ret : FieldType} {r : Int32} {n idx : Nat} (hC : zSCI l y bs mL ret rm As D cy sh ad ka M r M1) (hY : zMtS y bs mL (some ret) n) (hlink : Cond.methodLink own idx y ∈ AW) (hrm : rm.cells = 0 ∧ rm.slots = 0) (hR : rm.frames + 1 ≤ R.frames ∧ 8 + (mL + 11) + rm.locals ≤ R.locals) (hn : As.length = n) {st0 : List Value} (hst : st0 = As.reverse ++ rest) (h8 : (rest.map fun v => v.category).sum ≤ 8) (hdg : decode cc pc = .ok (.invokestatic idx, 3))
    (kk : ∀ (H1 : Heap) (locs1 : List Loc), zWd D cy sh ad s M1 H1 locs1 → W p l e R s m args below meth c H1 locs1 0 0 Q (F0 m (pc + 3) ls (.int r :: rest))) : W p l e R s m args below meth c H locs 0 0 Q (F0 m pc ls st0) := by
  have hts := F.1.2.2.2.2
  have hpre : PreS s H (va_Pc As (zPreS D cy sh ad ka M H.size)) As := ⟨zblindS, fun U hU hW => ⟨rfl, ⟨by rw [hU], by rw [hU]; exact hw.1, va_K.moved hW.alike F.2.1, F.2.2.warm hW, zD_all hw.2.1 (fun _ _ => trivial), hw.2.2.2⟩, hS.warm hW hU hw.2.2.1⟩⟩
  have cw : CallB R s args own idx y bs mL (some ret) (.code y bs mL (some ret) :: AW) rm 0 0 n ∧ (Cond.static y).before args s = true := ⟨callB_of n hts (aw_good hY.2.2.1) rfl hrm.1 hrm.2 (hts _ hY.2.1) (hts _ hlink) hY.2.2.2 hR, hts _ hY.1⟩
  refine va_calli (va_runS (As := As) (rest := rest) F.1 (hC H.size) cw hpre rfl hn hls hst (lv_room h8) hdg ⟨Nat.zero_le _, Nat.zero_le _⟩) hw.2.2.1 (fun q _ h => zA_le hw.2.2.1.1 h) (fun q h => zA_le hw.2.2.1.1 h) (fun r1 u t H1 locs1 ht hvm hp hB hz hk hS => ?_)
  obtain ⟨rfl, rfl⟩ := hp
  obtain ⟨hP1, hD1, hT1⟩ := hB
  exact kk H1 locs1 ⟨by rw [ht] at hP1; exact hP1, zD_all hD1 (fun k h => zA_in h), hS, hT1⟩
theorem z_ssV (F : zFx D cy p m c cc nL s args own) (hS : zStr sh ad ka s) (hw : zWd D cy sh ad s M H locs) (hls : ls.size = nL) {n idx : Nat} (hC : zSCV l y bs mL rm As D cy sh ad ka M M1) (hY : zMtS y bs mL none n) (hlink : Cond.methodLink own idx y ∈ AW) (hrm : rm.cells = 0 ∧ rm.slots = 0) (hR : rm.frames + 1 ≤ R.frames ∧ 8 + (mL + 11) + rm.locals ≤ R.locals) (hn : As.length = n) {st0 : List Value} (hst : st0 = As.reverse ++ rest) (h8 : (rest.map fun v => v.category).sum ≤ 8) (hdg : decode cc pc = .ok (.invokestatic idx, 3))
    (kk : ∀ (H1 : Heap) (locs1 : List Loc), zWd D cy sh ad s M1 H1 locs1 → W p l e R s m args below meth c H1 locs1 0 0 Q (F0 m (pc + 3) ls rest)) : W p l e R s m args below meth c H locs 0 0 Q (F0 m pc ls st0) := by
  have hts := F.1.2.2.2.2
  have hpre : PreS s H (va_Pc As (zPreS D cy sh ad ka M H.size)) As := ⟨zblindS, fun U hU hW => ⟨rfl, ⟨by rw [hU], by rw [hU]; exact hw.1, va_K.moved hW.alike F.2.1, F.2.2.warm hW, zD_all hw.2.1 (fun _ _ => trivial), hw.2.2.2⟩, hS.warm hW hU hw.2.2.1⟩⟩
  have cw : CallB R s args own idx y bs mL none (.code y bs mL none :: AW) rm 0 0 n ∧ (Cond.static y).before args s = true := ⟨callB_of n hts (aw_good hY.2.2.1) rfl hrm.1 hrm.2 (hts _ hY.2.1) (hts _ hlink) hY.2.2.2 hR, hts _ hY.1⟩
  refine va_callv (va_runS (As := As) (rest := rest) F.1 (hC H.size) cw hpre rfl hn hls hst (lv_room h8) hdg ⟨Nat.zero_le _, Nat.zero_le _⟩) hw.2.2.1 (fun q _ h => zA_le hw.2.2.1.1 h) (fun q h => zA_le hw.2.2.1.1 h) (fun u t H1 locs1 ht hvm hp hB hz hk hS => ?_)
  subst hp
  obtain ⟨hP1, hD1, hT1⟩ := hB
  exact kk H1 locs1 ⟨by rw [ht] at hP1; exact hP1, zD_all hD1 (fun k h => zA_in h), hS, hT1⟩
end ZSCALL
/-! the JDK's own methods on a text -/
theorem ztJ0_coder (l : Launch) (D : va_G) (cy : Nat → ClassId) (sh : zShp) (ad : Nat → Nat) (ka : zKa) {i : Nat} (hi : i < 13) {M : zMem} : zSCI l yJ0_coder_7d493 cJ0_coder_7d493 1 .byte { frames := 0, cells := 0, slots := 0, locals := 0 } [.ref (ka.1 i)] D cy sh ad ka M 0 M := by
  refine zsci_of (by decide +kernel) (Nat.le_of_ble_eq_true rfl) (fun p e s m below meth c ls F hr hlk hl hw hS => ?_)
  have hx := F.1.1
  have hb := F.1.2.1
  have hl : lv_has ls 1 [(0, .ref (ka.1 i))] := hl
  refine va_gets hx hb hS.2.1 hw.2.2.1 F.1.2.2.2.1 (F.1.2.2.2.2 _ zsw38) (fun _ h => h) dJ0_coder_7d493_0 ?_
  refine lv_if_eq (tgt := 13) hx hb dJ0_coder_7d493_3 (by decide) (fun c1 => absurd c1 (by decide)) (fun _ => ?_)
  refine lv_aload_n hx hb dJ0_coder_7d493_6 rfl (lv_at hl 0 rfl) ?_
  refine vk_getf hx hb (hS.1.1 i hi).2.1 hw.2.2.1 F.1.2.2.2.1 (F.1.2.2.2.2 _ zsw15) (fun _ h => h) dJ0_coder_7d493_7 ?_
  refine lv_goto (tgt := 14) hx hb dJ0_coder_7d493_10 (by decide) ?_
  exact z_nret F hr hlk hw (by decide) rfl rfl dJ0_coder_7d493_14
theorem ztJ0_isLatin1 (l : Launch) (D : va_G) (cy : Nat → ClassId) (sh : zShp) (ad : Nat → Nat) (ka : zKa) {i : Nat} (hi : i < 13) {M : zMem} : zSCI l yJ0_isLatin1_aae02 cJ0_isLatin1_aae02 1 .boolean { frames := 0, cells := 0, slots := 0, locals := 0 } [.ref (ka.1 i)] D cy sh ad ka M 1 M := by
  refine zsci_of (by decide +kernel) (Nat.le_of_ble_eq_true rfl) (fun p e s m below meth c ls F hr hlk hl hw hS => ?_)
  have hx := F.1.1
  have hb := F.1.2.1
  have hl : lv_has ls 1 [(0, .ref (ka.1 i))] := hl
  refine va_gets hx hb hS.2.1 hw.2.2.1 F.1.2.2.2.1 (F.1.2.2.2.2 _ zsw38) (fun _ h => h) dJ0_isLatin1_aae02_0 ?_
  refine lv_if_eq (tgt := 17) hx hb dJ0_isLatin1_aae02_3 (by decide) (fun c1 => absurd c1 (by decide)) (fun _ => ?_)
  refine lv_aload_n hx hb dJ0_isLatin1_aae02_6 rfl (lv_at hl 0 rfl) ?_
  refine vk_getf hx hb (hS.1.1 i hi).2.1 hw.2.2.1 F.1.2.2.2.1 (F.1.2.2.2.2 _ zsw15) (fun _ h => h) dJ0_isLatin1_aae02_7 ?_
  refine lv_if_ne (tgt := 17) hx hb dJ0_isLatin1_aae02_10 (by decide) (fun c1 => absurd rfl c1) (fun _ => ?_)
  refine lv_iconst (v := 1) hx hb dJ0_isLatin1_aae02_13 (by decide) ?_
  refine lv_goto (tgt := 18) hx hb dJ0_isLatin1_aae02_14 (by decide) ?_
  exact z_nret F hr hlk hw (by decide) rfl rfl dJ0_isLatin1_aae02_18
theorem ztJ0_length (l : Launch) (D : va_G) (cy : Nat → ClassId) (sh : zShp) (ad : Nat → Nat) (ka : zKa) {i : Nat} (hi : i < 13) {M : zMem} : zSCI l yJ0_length_8abf5 cJ0_length_8abf5 1 .int { frames := 1, cells := 0, slots := 0, locals := 20 } [.ref (ka.1 i)] D cy sh ad ka M (Int32.ofNat (zslen.getD i 0) >>> ((0 : Int32) &&& 31)) M := by
  refine zsci_of (by decide +kernel) (Nat.le_of_ble_eq_true rfl) (fun p e s m below meth c ls F hr hlk hl hw hS => ?_)
  have hx := F.1.1
  have hb := F.1.2.1
  have hl : lv_has ls 1 [(0, .ref (ka.1 i))] := hl
  refine lv_aload_n hx hb dJ0_length_8abf5_0 rfl (lv_at hl 0 rfl) ?_
  refine vk_getf hx hb (hS.1.1 i hi).2.2.1 hw.2.2.1 F.1.2.2.2.1 (F.1.2.2.2.2 _ zsw9) (fun _ h => h) dJ0_length_8abf5_1 ?_
  refine va_tlen hx hb (hS.1.1 i hi).2.2.2 hw.2.2.1 rfl dJ0_length_8abf5_4 ?_
  refine lv_aload_n hx hb dJ0_length_8abf5_5 rfl (lv_at hl 0 rfl) ?_
  refine z_svI F hS hw hl.1 (As := []) (rest := [.int (Int32.ofNat (zslen.getD i 0))]) (ztJ0_coder l D cy sh ad ka hi) zyJ0_coder_7d493 (vk_recv hS.1 hi hw.2.2.1) zsk335 ⟨rfl, rfl⟩ ⟨by decide, by decide⟩ rfl rfl (Nat.le_of_ble_eq_true rfl) dJ0_length_8abf5_6 (fun H locs hw => ?_)
  refine lv_ishr hx hb dJ0_length_8abf5_9 ?_
  exact z_iret F hr hlk hw rfl rfl dJ0_length_8abf5_10
theorem ztJ3_checkIndex (l : Launch) (D : va_G) (cy : Nat → ClassId) (sh : zShp) (ad : Nat → Nat) (ka : zKa) {a b : Int32} {w : Value} (hw1 : lg_sl [.int a, .int b, w] = [.val (.int a), .val (.int b), .val w]) (h0 : ¬ a < 0) (h1 : a < b) {M : zMem} : zSCI l yJ3_checkIndex_8e157 cJ3_checkIndex_8e157 3 .int { frames := 0, cells := 0, slots := 0, locals := 0 } [.int a, .int b, w] D cy sh ad ka M a M := by
  refine zsci_of (by decide +kernel) (by rw [hw1]; exact Nat.le_refl 3) (fun p e s m below meth c ls F hr hlk hl hw hS => ?_)
  have hx := F.1.1
  have hb := F.1.2.1
  have hl : lv_has ls 3 [(0, .int a), (1, .int b), (2, w)] := hl
  refine lv_iload_n hx hb dJ3_checkIndex_8e157_0 rfl (lv_at hl 0 rfl) ?_
  refine lv_if_lt (tgt := 9) hx hb dJ3_checkIndex_8e157_1 (by decide) (fun c1 => absurd c1 h0) (fun _ => ?_)
  refine lv_iload_n hx hb dJ3_checkIndex_8e157_4 rfl (lv_at hl 0 rfl) ?_
  refine lv_iload_n hx hb dJ3_checkIndex_8e157_5 rfl (lv_at hl 1 rfl) ?_
  refine lv_icmp_lt (tgt := 16) hx hb dJ3_checkIndex_8e157_6 (by decide) (fun _ => ?_) (fun c1 => absurd h1 c1)
  refine lv_iload_n hx hb dJ3_checkIndex_8e157_16 rfl (lv_at hl 0 rfl) ?_
  exact z_iret F hr hlk hw rfl rfl dJ3_checkIndex_8e157_17
theorem ztJ0_checkIndex (l : Launch) (D : va_G) (cy : Nat → ClassId) (sh : zShp) (ad : Nat → Nat) (ka : zKa) {a b : Int32} (h0 : ¬ a < 0) (h1 : a < b) {M : zMem} : zSCV l yJ0_checkIndex_df160 cJ0_checkIndex_df160 2 { frames := 1, cells := 0, slots := 0, locals := 22 } [.int a, .int b] D cy sh ad ka M M := by
  refine zscv_of (by decide +kernel) (Nat.le_of_ble_eq_true rfl) (fun p e s m below meth c ls F hr hlk hl hw hS => ?_)
  have hx := F.1.1
  have hb := F.1.2.1
  have hl : lv_has ls 2 [(0, .int a), (1, .int b)] := hl
  refine lv_iload_n hx hb dJ0_checkIndex_df160_0 rfl (lv_at hl 0 rfl) ?_
  refine lv_iload_n hx hb dJ0_checkIndex_df160_1 rfl (lv_at hl 1 rfl) ?_
  rcases hS.2.2.1 with hq | ⟨t, hq⟩
  · refine va_gets hx hb hq hw.2.2.1 F.1.2.2.2.1 (F.1.2.2.2.2 _ zsw1053) (fun _ h => h) dJ0_checkIndex_df160_2 ?_
    refine z_ssI F hS hw hl.1 (As := [.int a, .int b, .null]) (rest := []) (ztJ3_checkIndex l D cy sh ad ka rfl h0 h1) zyJ3_checkIndex_8e157 zsk1059 ⟨rfl, rfl⟩ ⟨by decide, by decide⟩ rfl rfl (Nat.le_of_ble_eq_true rfl) dJ0_checkIndex_df160_5 (fun H locs hw => ?_)
    refine lv_pop hx hb dJ0_checkIndex_df160_8 rfl ?_
    exact z_vret F hr hlk hw rfl dJ0_checkIndex_df160_9
  · refine va_gets hx hb hq hw.2.2.1 F.1.2.2.2.1 (F.1.2.2.2.2 _ zsw1053) (fun _ h => h) dJ0_checkIndex_df160_2 ?_
    refine z_ssI F hS hw hl.1 (As := [.int a, .int b, .ref t]) (rest := []) (ztJ3_checkIndex l D cy sh ad ka rfl h0 h1) zyJ3_checkIndex_8e157 zsk1059 ⟨rfl, rfl⟩ ⟨by decide, by decide⟩ rfl rfl (Nat.le_of_ble_eq_true rfl) dJ0_checkIndex_df160_5 (fun H locs hw => ?_)
    refine lv_pop hx hb dJ0_checkIndex_df160_8 rfl ?_
    exact z_vret F hr hlk hw rfl dJ0_checkIndex_df160_9
/-- the char at k of text i -/
def zsch (i k : Nat) : Int32 := (zsbyt.getD i []).getD k 0
theorem zsch_nar : ∀ i, i < 13 → ∀ k, k < 6 → narrow .char (.int (zsch i k)) = .int (zsch i k) ∧ ((zsch i k &&& 255).toUInt32.toUInt16.toUInt32.toInt32) = zsch i k := by decide +kernel
theorem zslen_le : ∀ i, i < 13 → zslen.getD i 0 ≤ 6 := by decide +kernel
theorem ztJ1_charAt (l : Launch) (D : va_G) (cy : Nat → ClassId) (sh : zShp) (ad : Nat → Nat) (ka : zKa) {i k : Nat} (hi : i < 13) (hk : k < zslen.getD i 0) {M : zMem} : zSCI l yJ1_charAt_3b067 cJ1_charAt_3b067 2 .char { frames := 2, cells := 0, slots := 0, locals := 43 } [.ref (ka.2 i), .int (nI k)] D cy sh ad ka M (zsch i k) M := by
  have h6 := zslen_le i hi
  have hn := zsch_nar i hi k (by omega)
  refine zsci_of (by decide +kernel) (Nat.le_of_ble_eq_true rfl) (fun p e s m below meth c ls F hr hlk hl hw hS => ?_)
  have hx := F.1.1
  have hb := F.1.2.1
  have hl : lv_has ls 2 [(0, .ref (ka.2 i)), (1, .int (nI k))] := hl
  refine lv_iload_n hx hb dJ1_charAt_3b067_0 rfl (lv_at hl 1 rfl) ?_
  refine lv_aload_n hx hb dJ1_charAt_3b067_1 rfl (lv_at hl 0 rfl) ?_
  refine va_tlen hx hb (hS.1.1 i hi).2.2.2 hw.2.2.1 rfl dJ1_charAt_3b067_2 ?_
  refine z_ssV F hS hw hl.1 (As := [.int (nI k), .int (Int32.ofNat (zslen.getD i 0))]) (rest := []) (ztJ0_checkIndex l D cy sh ad ka (nI_pos (by omega)) (nI_lt hk (by omega))) zyJ0_checkIndex_df160 zskL9 ⟨rfl, rfl⟩ ⟨by decide, by decide⟩ rfl rfl (Nat.le_of_ble_eq_true rfl) dJ1_charAt_3b067_3 (fun H locs hw => ?_)
  refine lv_aload_n hx hb dJ1_charAt_3b067_6 rfl (lv_at hl 0 rfl) ?_
  refine lv_iload_n hx hb dJ1_charAt_3b067_7 rfl (lv_at hl 1 rfl) ?_
  refine va_tb (v := .int (zsch i k)) hx hb (hS.1.1 i hi).2.2.2 hw.2.2.1 (vp_in_nI hk (by omega)) (by rw [nI_clamp (by omega)]; rfl) dJ1_charAt_3b067_8 ?_
  refine lv_sipush (v := 255) hx hb dJ1_charAt_3b067_9 (by decide) ?_
  refine lv_iand hx hb dJ1_charAt_3b067_12 ?_
  refine lv_i2c (v := zsch i k) hx hb dJ1_charAt_3b067_13 hn.2 ?_
  exact z_nret F hr hlk hw hn.1 rfl rfl dJ1_charAt_3b067_14
theorem ztJ0_charAt (l : Launch) (D : va_G) (cy : Nat → ClassId) (sh : zShp) (ad : Nat → Nat) (ka : zKa) {i k : Nat} (hi : i < 13) (hk : k < zslen.getD i 0) {M : zMem} : zSCI l yJ0_charAt_5068e cJ0_charAt_5068e 2 .char { frames := 3, cells := 0, slots := 0, locals := 64 } [.ref (ka.1 i), .int (nI k)] D cy sh ad ka M (zsch i k) M := by
  have h6 := zslen_le i hi
  have hn := zsch_nar i hi k (by omega)
  refine zsci_of (by decide +kernel) (Nat.le_of_ble_eq_true rfl) (fun p e s m below meth c ls F hr hlk hl hw hS => ?_)
  have hx := F.1.1
  have hb := F.1.2.1
  have hl : lv_has ls 2 [(0, .ref (ka.1 i)), (1, .int (nI k))] := hl
  refine lv_aload_n hx hb dJ0_charAt_5068e_0 rfl (lv_at hl 0 rfl) ?_
  refine z_svI F hS hw hl.1 (As := []) (rest := []) (ztJ0_isLatin1 l D cy sh ad ka hi) zyJ0_isLatin1_aae02 (vk_recv hS.1 hi hw.2.2.1) zsk492 ⟨rfl, rfl⟩ ⟨by decide, by decide⟩ rfl rfl (Nat.le_of_ble_eq_true rfl) dJ0_charAt_5068e_1 (fun H locs hw => ?_)
  refine lv_if_eq (tgt := 16) hx hb dJ0_charAt_5068e_4 (by decide) (fun c1 => absurd c1 (by decide)) (fun _ => ?_)
  refine lv_aload_n hx hb dJ0_charAt_5068e_7 rfl (lv_at hl 0 rfl) ?_
  refine vk_getf hx hb (hS.1.1 i hi).2.2.1 hw.2.2.1 F.1.2.2.2.1 (F.1.2.2.2.2 _ zsw9) (fun _ h => h) dJ0_charAt_5068e_8 ?_
  refine lv_iload_n hx hb dJ0_charAt_5068e_11 rfl (lv_at hl 1 rfl) ?_
  refine z_ssI F hS hw hl.1 (As := [.ref (ka.2 i), .int (nI k)]) (rest := []) (ztJ1_charAt l D cy sh ad ka hi hk) zyJ1_charAt_3b067 zsk495 ⟨rfl, rfl⟩ ⟨by decide, by decide⟩ rfl rfl (Nat.le_of_ble_eq_true rfl) dJ0_charAt_5068e_12 (fun H locs hw => ?_)
  exact z_nret F hr hlk hw hn.1 rfl rfl dJ0_charAt_5068e_15
/-- the code of the first n letters of text i -/
def zcf (i : Nat) : Nat → Int32
  | 0 => 0
  | n + 1 => zcf i n * 27 + zsch i n - 97 + 1
def zX6_codeOf (_ : zShp) (k0 : Nat) (_ : zMem) : Option Int32 := some (zcf k0 (zslen.getD k0 0))
theorem zslen_shr : ∀ i, i < 13 → Int32.ofNat (zslen.getD i 0) >>> ((0 : Int32) &&& 31) = nI (zslen.getD i 0) := by decide +kernel
set_option maxHeartbeats 4000000 in
set_option maxRecDepth 100000 in
theorem ztX6_codeOf (l : Launch) (D : va_G) (cy : Nat → ClassId) (sh : zShp) (ad : Nat → Nat) (ka : zKa) {k0 : Nat} (h0 : k0 < 13) {M : zMem} {r : Int32} (hd : zX6_codeOf sh k0 M = some r) : zSCI l yX6_codeOf cX6_codeOf 3 .int { frames := 4, cells := 0, slots := 0, locals := 85 } [.ref (ka.1 k0)] D cy sh ad ka M r M := by
  have h6 := zslen_le k0 h0
  have hd := Option.some.inj hd
  refine zsci_of (by decide +kernel) (Nat.le_of_ble_eq_true rfl) (fun p e s m below meth c ls F hr hlk hl hw hS => ?_)
  have hx := F.1.1
  have hb := F.1.2.1
  have hl : lv_has ls 3 [(0, .ref (ka.1 k0))] := hl
  have L4 : ∀ (q n : Nat) (H : Heap) (locs : List Loc) (ls : Array Slot), n + q = zslen.getD k0 0 → lv_has ls 3 [(0, .ref (ka.1 k0)), (1, .int (zcf k0 n)), (2, .int (nI n))] → zWd D cy sh ad s M H locs → W p l e { frames := 4, cells := 0, slots := 0, locals := 85 } s m ([.ref (ka.1 k0)] : List Value).toArray below meth c H locs 0 0 (zQI below D cy sh ad s [.ref (ka.1 k0)] r M) (F0 m 4 ls []) := by
    intro q
    induction q with
    | zero =>
      intro n H locs ls hq hl hw
      have hq : n = zslen.getD k0 0 := hq
      refine lv_iload_n hx hb dX6_codeOf_4 rfl (lv_at hl 2 rfl) ?_
      refine lv_aload_n hx hb dX6_codeOf_5 rfl (lv_at hl 0 rfl) ?_
      refine z_svI F hS hw hl.1 (As := []) (rest := [.int (nI n)]) (ztJ0_length l D cy sh ad ka h0) zyJ0_length_8abf5 (vk_recv hS.1 h0 hw.2.2.1) zskRl ⟨rfl, rfl⟩ ⟨by decide, by decide⟩ rfl rfl (Nat.le_of_ble_eq_true rfl) dX6_codeOf_6 (fun H locs hw => ?_)
      rw [zslen_shr k0 h0]
      refine lv_icmp_ge (tgt := 34) hx hb dX6_codeOf_9 (by decide) (fun _ => ?_) (fun c1 => absurd (nI_le (by omega) (by omega)) c1)
      refine lv_iload_n hx hb dX6_codeOf_34 rfl (lv_at hl 1 rfl) ?_
      exact z_iret F hr hlk hw (by rw [hq]; exact hd) rfl dX6_codeOf_35
    | succ q ih =>
      intro n H locs ls hq hl hw
      refine lv_iload_n hx hb dX6_codeOf_4 rfl (lv_at hl 2 rfl) ?_
      refine lv_aload_n hx hb dX6_codeOf_5 rfl (lv_at hl 0 rfl) ?_
      refine z_svI F hS hw hl.1 (As := []) (rest := [.int (nI n)]) (ztJ0_length l D cy sh ad ka h0) zyJ0_length_8abf5 (vk_recv hS.1 h0 hw.2.2.1) zskRl ⟨rfl, rfl⟩ ⟨by decide, by decide⟩ rfl rfl (Nat.le_of_ble_eq_true rfl) dX6_codeOf_6 (fun H locs hw => ?_)
      rw [zslen_shr k0 h0]
      refine lv_icmp_ge (tgt := 34) hx hb dX6_codeOf_9 (by decide) (fun c1 => absurd c1 (nI_ge (by omega) (by omega))) (fun _ => ?_)
      refine lv_iload_n hx hb dX6_codeOf_12 rfl (lv_at hl 1 rfl) ?_
      refine lv_bipush (v := 27) hx hb dX6_codeOf_13 (by decide) ?_
      refine lv_imul hx hb dX6_codeOf_15 ?_
      refine lv_aload_n hx hb dX6_codeOf_16 rfl (lv_at hl 0 rfl) ?_
      refine lv_iload_n hx hb dX6_codeOf_17 rfl (lv_at hl 2 rfl) ?_
      refine z_svI F hS hw hl.1 (As := [.int (nI n)]) (rest := [.int (zcf k0 n * 27)]) (ztJ0_charAt l D cy sh ad ka h0 (by omega)) zyJ0_charAt_5068e (vk_recv hS.1 h0 hw.2.2.1) zskRc ⟨rfl, rfl⟩ ⟨by decide, by decide⟩ rfl rfl (Nat.le_of_ble_eq_true rfl) dX6_codeOf_18 (fun H locs hw => ?_)
      refine lv_iadd hx hb dX6_codeOf_21 ?_
      refine lv_bipush (v := 97) hx hb dX6_codeOf_22 (by decide) ?_
      refine lv_isub hx hb dX6_codeOf_24 ?_
      refine lv_iconst (v := 1) hx hb dX6_codeOf_25 (by decide) ?_
      refine lv_iadd hx hb dX6_codeOf_26 ?_
      refine lv_istore_n (lv' := [(1, .int (zcf k0 (n + 1))), (0, .ref (ka.1 k0)), (2, .int (nI n))]) hx hb dX6_codeOf_27 rfl hl (by decide) rfl (fun ls hl => ?_)
      refine lv_iinc (v := nI (n + 1)) (lv' := [(2, .int (nI (n + 1))), (1, .int (zcf k0 (n + 1))), (0, .ref (ka.1 k0))]) hx hb dX6_codeOf_28 hl (k := 2) rfl (nI_1 n) (by decide) rfl (fun ls hl => ?_)
      refine lv_goto (tgt := 4) hx hb dX6_codeOf_31 (by decide) ?_
      exact ih (n + 1) _ _ _ (by omega) (lv_sub hl [2, 1, 0] rfl) hw
  refine lv_iconst (v := 0) hx hb dX6_codeOf_0 (by decide) ?_
  refine lv_istore_n (lv' := [(1, .int 0), (0, .ref (ka.1 k0))]) hx hb dX6_codeOf_1 rfl hl (by decide) rfl (fun ls hl => ?_)
  refine lv_iconst (v := 0) hx hb dX6_codeOf_2 (by decide) ?_
  refine lv_istore_n (lv' := [(2, .int 0), (1, .int 0), (0, .ref (ka.1 k0))]) hx hb dX6_codeOf_3 rfl hl (by decide) rfl (fun ls hl => ?_)
  exact L4 (zslen.getD k0 0) 0 _ _ _ (by omega) (lv_sub hl [2, 1, 0] rfl) hw

