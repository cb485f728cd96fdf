/-! the law: two worlds side by side -/
abbrev lCells : Nat := 203
abbrev lSlots : Nat := 7095
def lwd (D : va_G) (cy : Nat → ClassId) (adc adm : Nat → Nat) (s : State) (M N : zMem) (H : Heap) (locs : List Loc) : Prop := va_P D vwCl (zW cy shC adc M) H ∧ va_P D vwCl (zW cy shM adm N) H ∧ ((va_D (fun q => s.heap.size ≤ q) (zW cy shC adc M) ∧ va_D (fun q => s.heap.size ≤ q) (zW cy shM adm N)) ∧ ∀ i j, i < 185 → j < 18 → adc i ≠ adm j) ∧ va_S (fun q => s.heap.size ≤ q) s.heap H locs ∧ zTY shC M ∧ zTY shM N
def lStr (ka : zKa) (s : State) : Prop := vk_S 13 zslen zsbyt ka.1 ka.2 (fun q => s.heap.size ≤ q) s s.heap ∧ va_Z "java/lang/String" "COMPACT_STRINGS" "Z" (.int 1) (fun q => s.heap.size ≤ q) s s.heap ∧ va_Zq "jdk/internal/util/Preconditions" "SIOOBE_FORMATTER" "Ljava/util/function/BiFunction;" (fun q => s.heap.size ≤ q) s s.heap ∧ ∀ i, i < 13 → vk_R RX6 (zsidx.getD i 0) (zstx.getD i "") (ka.1 i) s
theorem l_kC : zT shC 0 11 := ⟨by decide, by decide⟩
theorem l_kM : zT shM 0 12 := ⟨by decide, by decide⟩
theorem l_in {j L k : Nat} {v : Int32} (hj : j + 7 ≤ L) (hL : L ≤ 3584) (hk : k < 7) (hv : v = nI k) : vp_in (nI j + v) L := by
  rw [hv, nI_add]
  exact vp_in_nI (by omega) (by omega)
theorem l_lt {D : va_G} {cy : Nat → ClassId} {sh : zShp} {ad : Nat → Nat} {M : zMem} {H : Heap} (hP : va_P D vwCl (zW cy sh ad M) H) {k : Nat} (hk : k < sh.1) : ad k < H.size := y_lt hP (zW_get hk)
/-- a world elsewhere stays -/
theorem l_kept {D : va_G} {cy : Nat → ClassId} {sh sh' : zShp} {ad ad' : Nat → Nat} {M : zMem} {H H1 : Heap} (hP : va_P D vwCl (zW cy sh ad M) H) (hne : ∀ i j, i < sh'.1 → j < sh.1 → ad' i ≠ ad j) (hk : ∀ q : Nat, q < H.size → ¬ zA sh' ad' H.size q → H1[q]? = H[q]?) : va_P D vwCl (zW cy sh ad M) H1 := by
  refine hP.kept (fun k q hq => ?_)
  by_cases h : k < sh.1
  · rw [zW_get h] at hq
    obtain rfl := Option.some.inj hq
    have hlt := l_lt hP h
    refine hk _ hlt (fun g => ?_)
    rcases g with ⟨i, hi, e⟩ | g
    · exact hne i k hi h e.symm
    · exact absurd g (Nat.not_le.mpr hlt)
  · have h1 : sh.1 ≤ k := Nat.le_of_not_lt h
    simp [zW, h1] at hq
theorem lStr.to {ka : zKa} {s U : State} {adc : Nat → Nat} {H : Heap} {locs : List Loc} (h : lStr ka s) (hW : s.WarmedH U.vm) (hU : U.heap = H) (hS : va_S (fun q => s.heap.size ≤ q) s.heap H locs) (had : ∀ k, k < 185 → s.heap.size ≤ adc k) : zStr shC adc ka U := by
  have hle : ∀ q, zA shC adc U.heap.size q → s.heap.size ≤ q := fun q hq => by
    rcases hq with ⟨k, hk, rfl⟩ | hq
    · exact had k hk
    · rw [hU] at hq
      exact Nat.le_trans hS.1 hq
  have hk : ∀ a : Nat, a < s.heap.size → ¬ s.heap.size ≤ a → U.heap[a]? = s.heap[a]? := fun a h1 h2 => by rw [hU]; exact hS.2.1 a h1 h2
  exact ⟨((h.1.moved hW.alike).kept hk).narrow hle, ((h.2.1.moved hW.alike).kept hk).narrow hle, ((h.2.2.1.moved hW.alike).kept hk).narrow hle, fun i hi => vk_R.warm hW (h.2.2.2 i hi)⟩
section LCALL
variable {p : Program} {l : Launch} {e : Env} {s : State} {m : MethodId} {args : Array Value} {below : List Frame} {meth : Method} {c : Code} {H : Heap} {locs : List Loc} {Q : State → Prop}
variable {cc : ByteArray} {pc nL : Nat} {ls : Array Slot} {rest : List Value} {own : String} {D : va_G} {cy : Nat → ClassId} {adc adm : Nat → Nat} {M N M1 : zMem} {y : MethodName} {bs : ByteArray} {mL : Nat} {rm : Room} {As : List Value}
theorem l_ge {cy : Nat → ClassId} {sh : zShp} {ad : Nat → Nat} {M : zMem} {A : Nat → Prop} (hD : va_D A (zW cy sh ad M)) {k : Nat} (hk : k < sh.1) : A (ad k) := hD.2 k _ (zW_get hk)
theorem l_cI (F : zFx D cy p m c cc nL s args own) (hw : lwd D cy adc adm s M N H locs) (hls : ls.size = nL) {ret : FieldType} {r : Int32} {n idx : Nat} (hC : zCI l y bs mL ret rm (.ref (adc 0) :: As) D cy shC adc M r M1) (hY : zMth y bs mL (some ret) n) (hlink : Cond.methodLink own idx y ∈ AW) (hrm : rm.cells = 0 ∧ rm.slots = 0) (hR : rm.frames + 1 ≤ room_1.frames ∧ 8 + (mL + 11) + rm.locals ≤ room_1.locals) (hn : As.length = n) {st0 : List Value} (hst : st0 = As.reverse ++ .ref (adc 0) :: rest) (h8 : (rest.map fun v => v.category).sum ≤ 8) (hdg : decode cc pc = .ok (.invokevirtual idx, 3)) (hyc : y.cls = RX11)
    (kk : ∀ (H1 : Heap) (locs1 : List Loc), lwd D cy adc adm s M1 N H1 locs1 → W p l e room_1 s m args below meth c H1 locs1 lCells lSlots Q (F0 m (pc + 3) ls (.int r :: rest))) : W p l e room_1 s m args below meth c H locs lCells lSlots Q (F0 m pc ls st0) := by
  have hts := F.1.2.2.2.2
  obtain ⟨hP, hPm, ⟨⟨hD, hDm⟩, hne⟩, hS, hT, hTm⟩ := hw
  have hrc : ∃ cellB : Cell, H[adc 0]? = some cellB ∧ cellB.vm.isStatics = false ∧ s.vm.findClass y.cls = some cellB.cls := by rw [hyc]; exact va_recv F.2.1 hP zc11.2.1 (zW_obj l_kC zc11.1)
  have hle : ∀ q, zA shC adc H.size q → s.heap.size ≤ q := fun q hq => by
    rcases hq with ⟨k, hk, rfl⟩ | hq
    · exact l_ge hD hk
    · exact Nat.le_trans hS.1 hq
  have hpre : PreV s H y.cls (adc 0) (va_Pc (.ref (adc 0) :: As) (zPre D cy shC adc M H.size)) As := ⟨zblind, hrc, fun U hU hW => ⟨rfl, by rw [hU], by rw [hU]; exact hP, va_K.moved hW.alike F.2.1, F.2.2.warm hW, zD_all hD (fun _ _ => trivial), hT⟩⟩
  have cw : CallW room_1 s args own y.cls idx y bs mL (some ret) (.code y bs mL (some ret) :: AW) rm 0 0 n := ⟨callB_of n hts (aw_good hY.2.2.2.1) rfl hrm.1 hrm.2 (hts _ hY.2.2.1) (hts _ hlink) hY.2.2.2.2 hR, hts _ hY.1, hts _ hY.2.1⟩
  refine va_calli (va_runV (As := As) (rest := rest) F.1 (hC H.size) cw hpre rfl hn hls hst (lv_room h8) hdg ⟨Nat.le_of_ble_eq_true rfl, Nat.le_of_ble_eq_true rfl⟩) hS (fun q _ h => hle q h) hle (fun r1 u t H1 locs1 ht hvm hp hB hz hk hS => ?_)
  obtain ⟨rfl, rfl⟩ := hp
  obtain ⟨hP1, hD1, hT1⟩ := hB
  rw [ht] at hP1
  exact kk H1 locs1 ⟨hP1, l_kept hPm hne hk, ⟨⟨zD_all hD (fun k h => l_ge hD h), hDm⟩, hne⟩, hS, hT1, hTm⟩
theorem l_mI (F : zFx D cy p m c cc nL s args own) (hw : lwd D cy adc adm s N M H locs) (hls : ls.size = nL) {ret : FieldType} {r : Int32} {n idx : Nat} (hC : zCI l y bs mL ret rm (.ref (adm 0) :: As) D cy shM adm M r M1) (hY : zMth y bs mL (some ret) n) (hlink : Cond.methodLink own idx y ∈ AW) (hrm : rm.cells = 0 ∧ rm.slots = 0) (hR : rm.frames + 1 ≤ room_1.frames ∧ 8 + (mL + 11) + rm.locals ≤ room_1.locals) (hn : As.length = n) {st0 : List Value} (hst : st0 = As.reverse ++ .ref (adm 0) :: rest) (h8 : (rest.map fun v => v.category).sum ≤ 8) (hdg : decode cc pc = .ok (.invokevirtual idx, 3)) (hyc : y.cls = RX12)
    (kk : ∀ (H1 : Heap) (locs1 : List Loc), lwd D cy adc adm s N M1 H1 locs1 → W p l e room_1 s m args below meth c H1 locs1 lCells lSlots Q (F0 m (pc + 3) ls (.int r :: rest))) : W p l e room_1 s m args below meth c H locs lCells lSlots Q (F0 m pc ls st0) := by
  have hts := F.1.2.2.2.2
  obtain ⟨hPm, hP, ⟨⟨hDm, hD⟩, hne⟩, hS, hTm, hT⟩ := hw
  have hrc : ∃ cellB : Cell, H[adm 0]? = some cellB ∧ cellB.vm.isStatics = false ∧ s.vm.findClass y.cls = some cellB.cls := by rw [hyc]; exact va_recv F.2.1 hP zc12.2.1 (zW_obj l_kM zc12.1)
  have hle : ∀ q, zA shM adm H.size q → s.heap.size ≤ q := fun q hq => by
    rcases hq with ⟨k, hk, rfl⟩ | hq
    · exact l_ge hD hk
    · exact Nat.le_trans hS.1 hq
  have hpre : PreV s H y.cls (adm 0) (va_Pc (.ref (adm 0) :: As) (zPre D cy shM adm M H.size)) As := ⟨zblind, hrc, fun U hU hW => ⟨rfl, by rw [hU], by rw [hU]; exact hP, va_K.moved hW.alike F.2.1, F.2.2.warm hW, zD_all hD (fun _ _ => trivial), hT⟩⟩
  have cw : CallW room_1 s args own y.cls idx y bs mL (some ret) (.code y bs mL (some ret) :: AW) rm 0 0 n := ⟨callB_of n hts (aw_good hY.2.2.2.1) rfl hrm.1 hrm.2 (hts _ hY.2.2.1) (hts _ hlink) hY.2.2.2.2 hR, hts _ hY.1, hts _ hY.2.1⟩
  refine va_calli (va_runV (As := As) (rest := rest) F.1 (hC H.size) cw hpre rfl hn hls hst (lv_room h8) hdg ⟨Nat.le_of_ble_eq_true rfl, Nat.le_of_ble_eq_true rfl⟩) hS (fun q _ h => hle q h) hle (fun r1 u t H1 locs1 ht hvm hp hB hz hk hS => ?_)
  obtain ⟨rfl, rfl⟩ := hp
  obtain ⟨hP1, hD1, hT1⟩ := hB
  rw [ht] at hP1
  exact kk H1 locs1 ⟨l_kept hPm (fun i j hi hj e => hne j i hj hi e.symm) hk, hP1, ⟨⟨hDm, zD_all hD (fun k h => l_ge hD h)⟩, hne⟩, hS, hTm, hT1⟩
theorem l_sI {ka : zKa} (F : zFx D cy p m c cc nL s args own) (hK : lStr ka s) (hw : lwd D cy adc adm s M N H locs) (hls : ls.size = nL) {ret : FieldType} {r : Int32} {n idx : Nat} (hC : zSCI l y bs mL ret rm (.ref (adc 0) :: As) D cy shC adc ka M r M1) (hY : zMth y bs mL (some ret) n) (hlink : Cond.methodLink own idx y ∈ AW) (hrm : rm.cells = 0 ∧ rm.slots = 0) (hR : rm.frames + 1 ≤ room_1.frames ∧ 8 + (mL + 11) + rm.locals ≤ room_1.locals) (hn : As.length = n) {st0 : List Value} (hst : st0 = As.reverse ++ .ref (adc 0) :: rest) (h8 : (rest.map fun v => v.category).sum ≤ 8) (hdg : decode cc pc = .ok (.invokevirtual idx, 3)) (hyc : y.cls = RX11)
    (kk : ∀ (H1 : Heap) (locs1 : List Loc), lwd D cy adc adm s M1 N H1 locs1 → W p l e room_1 s m args below meth c H1 locs1 lCells lSlots Q (F0 m (pc + 3) ls (.int r :: rest))) : W p l e room_1 s m args below meth c H locs lCells lSlots Q (F0 m pc ls st0) := by
  have hts := F.1.2.2.2.2
  obtain ⟨hP, hPm, ⟨⟨hD, hDm⟩, hne⟩, hS, hT, hTm⟩ := hw
  have hrc : ∃ cellB : Cell, H[adc 0]? = some cellB ∧ cellB.vm.isStatics = false ∧ s.vm.findClass y.cls = some cellB.cls := by rw [hyc]; exact va_recv F.2.1 hP zc11.2.1 (zW_obj l_kC zc11.1)
  have hle : ∀ q, zA shC adc H.size q → s.heap.size ≤ q := fun q hq => by
    rcases hq with ⟨k, hk, rfl⟩ | hq
    · exact l_ge hD hk
    · exact Nat.le_trans hS.1 hq
  have hpre : PreV s H y.cls (adc 0) (va_Pc (.ref (adc 0) :: As) (zPreS D cy shC adc ka M H.size)) As := ⟨zblindS, hrc, fun U hU hW => ⟨rfl, ⟨by rw [hU], by rw [hU]; exact hP, va_K.moved hW.alike F.2.1, F.2.2.warm hW, zD_all hD (fun _ _ => trivial), hT⟩, hK.to hW hU hS (fun k hk => l_ge hD hk)⟩⟩
  have cw : CallW room_1 s args own y.cls idx y bs mL (some ret) (.code y bs mL (some ret) :: AW) rm 0 0 n := ⟨callB_of n hts (aw_good hY.2.2.2.1) rfl hrm.1 hrm.2 (hts _ hY.2.2.1) (hts _ hlink) hY.2.2.2.2 hR, hts _ hY.1, hts _ hY.2.1⟩
  refine va_calli (va_runV (As := As) (rest := rest) F.1 (hC H.size) cw hpre rfl hn hls hst (lv_room h8) hdg ⟨Nat.le_of_ble_eq_true rfl, Nat.le_of_ble_eq_true rfl⟩) hS (fun q _ h => hle q h) hle (fun r1 u t H1 locs1 ht hvm hp hB hz hk hS => ?_)
  obtain ⟨rfl, rfl⟩ := hp
  obtain ⟨hP1, hD1, hT1⟩ := hB
  rw [ht] at hP1
  exact kk H1 locs1 ⟨hP1, l_kept hPm hne hk, ⟨⟨zD_all hD (fun k h => l_ge hD h), hDm⟩, hne⟩, hS, hT1, hTm⟩
end LCALL

def B_feed (Inv : Nat → zMem → zMem → Prop) : Prop := ∀ (n : Nat) (M N : zMem) (v1 v2 v3 v4 v5 : Int32), n < 512 → Inv n M N → ∃ (r : Int32) (M1 N1 : zMem), zX11_feed shC 0 v1 v2 v3 v4 v5 M = some (r, M1) ∧ zX12_feed shM 0 v1 v2 v3 v4 v5 N = some (r, N1) ∧ Inv (n + 1) M1 N1
set_option maxHeartbeats 4000000 in
set_option maxRecDepth 100000 in
theorem lc_feed {p : Program} {l : Launch} {e : Env} {s : State} {m : MethodId} {below : List Frame} {meth : Method} {c : Code} {D : va_G} {cy : Nat → ClassId} {b L j n : Nat} {xs : Nat → Int32} {adc adm : Nat → Nat} {M N : zMem} {H : Heap} {locs : List Loc} {ls : Array Slot} {Q : State → Prop} {Inv : Nat → zMem → zMem → Prop} (hB : B_feed Inv) (F : zFx D cy p m c cL_law 4 s #[Value.ref b] RL) (hX : va_X b L xs s s.heap) (hbl : b < s.heap.size) (hj : j + 7 ≤ L) (hL : L ≤ 3584) (hn : n < 512) (hI : Inv n M N) (hw : lwd D cy adc adm s M N H locs) (hl : lv_has ls 4 [(0, .ref b), (1, .ref (adc 0)), (2, .ref (adm 0)), (3, .int (nI j))]) (kk : ∀ (M1 N1 : zMem) (H1 : Heap) (locs1 : List Loc), Inv (n + 1) M1 N1 → lwd D cy adc adm s M1 N1 H1 locs1 → W p l e room_1 s m #[Value.ref b] below meth c H1 locs1 lCells lSlots Q (F0 m 1798 ls [])) : W p l e room_1 s m #[Value.ref b] below meth c H locs lCells lSlots Q (F0 m 224 ls []) := by
  have hx := F.1.1
  have hb := F.1.2.1
  have hbA : ¬ s.heap.size ≤ b := Nat.not_le.mpr hbl
  obtain ⟨r, M1, N1, h1, h2, hI1⟩ := hB n M N (xs (nI j + (1 : Int32)).toNatClampNeg) (xs (nI j + (2 : Int32)).toNatClampNeg) (xs (nI j + (3 : Int32)).toNatClampNeg) (xs (nI j + (4 : Int32)).toNatClampNeg) (xs (nI j + (5 : Int32)).toNatClampNeg) hn hI
  refine lv_aload_n hx hb dL_law_224 rfl (lv_at hl 1 rfl) ?_
  refine lv_aload_n hx hb dL_law_225 rfl (lv_at hl 0 rfl) ?_
  refine lv_iload_n hx hb dL_law_226 rfl (lv_at hl 3 rfl) ?_
  refine lv_iconst (v := (1 : Int32)) hx hb dL_law_227 (by decide) ?_
  refine lv_iadd hx hb dL_law_228 ?_
  refine va_sld hx hb hX hbl hbA hw.2.2.2.1 (l_in (k := 1) hj hL (by decide) (by decide)) dL_law_229 ?_
  refine lv_aload_n hx hb dL_law_230 rfl (lv_at hl 0 rfl) ?_
  refine lv_iload_n hx hb dL_law_231 rfl (lv_at hl 3 rfl) ?_
  refine lv_iconst (v := (2 : Int32)) hx hb dL_law_232 (by decide) ?_
  refine lv_iadd hx hb dL_law_233 ?_
  refine va_sld hx hb hX hbl hbA hw.2.2.2.1 (l_in (k := 2) hj hL (by decide) (by decide)) dL_law_234 ?_
  refine lv_aload_n hx hb dL_law_235 rfl (lv_at hl 0 rfl) ?_
  refine lv_iload_n hx hb dL_law_236 rfl (lv_at hl 3 rfl) ?_
  refine lv_iconst (v := (3 : Int32)) hx hb dL_law_237 (by decide) ?_
  refine lv_iadd hx hb dL_law_238 ?_
  refine va_sld hx hb hX hbl hbA hw.2.2.2.1 (l_in (k := 3) hj hL (by decide) (by decide)) dL_law_239 ?_
  refine lv_aload_n hx hb dL_law_240 rfl (lv_at hl 0 rfl) ?_
  refine lv_iload_n hx hb dL_law_241 rfl (lv_at hl 3 rfl) ?_
  refine lv_iconst (v := (4 : Int32)) hx hb dL_law_242 (by decide) ?_
  refine lv_iadd hx hb dL_law_243 ?_
  refine va_sld hx hb hX hbl hbA hw.2.2.2.1 (l_in (k := 4) hj hL (by decide) (by decide)) dL_law_244 ?_
  refine lv_aload_n hx hb dL_law_245 rfl (lv_at hl 0 rfl) ?_
  refine lv_iload_n hx hb dL_law_246 rfl (lv_at hl 3 rfl) ?_
  refine lv_iconst (v := (5 : Int32)) hx hb dL_law_247 (by decide) ?_
  refine lv_iadd hx hb dL_law_248 ?_
  refine va_sld hx hb hX hbl hbA hw.2.2.2.1 (l_in (k := 5) hj hL (by decide) (by decide)) dL_law_249 ?_
  refine l_cI F hw hl.1 (As := [.int (xs (nI j + (1 : Int32)).toNatClampNeg), .int (xs (nI j + (2 : Int32)).toNatClampNeg), .int (xs (nI j + (3 : Int32)).toNatClampNeg), .int (xs (nI j + (4 : Int32)).toNatClampNeg), .int (xs (nI j + (5 : Int32)).toNatClampNeg)]) (rest := []) (ztX11_feed l D cy shC adc l_kC h1) zyX11_feed zkL_13 ⟨rfl, rfl⟩ ⟨Nat.le_of_ble_eq_true rfl, Nat.le_of_ble_eq_true rfl⟩ rfl rfl (Nat.le_of_ble_eq_true rfl) dL_law_250 rfl (fun H locs hw => ?_)
  refine lv_aload_n hx hb dL_law_253 rfl (lv_at hl 2 rfl) ?_
  refine lv_aload_n hx hb dL_law_254 rfl (lv_at hl 0 rfl) ?_
  refine lv_iload_n hx hb dL_law_255 rfl (lv_at hl 3 rfl) ?_
  refine lv_iconst (v := (1 : Int32)) hx hb dL_law_256 (by decide) ?_
  refine lv_iadd hx hb dL_law_257 ?_
  refine va_sld hx hb hX hbl hbA hw.2.2.2.1 (l_in (k := 1) hj hL (by decide) (by decide)) dL_law_258 ?_
  refine lv_aload_n hx hb dL_law_259 rfl (lv_at hl 0 rfl) ?_
  refine lv_iload_n hx hb dL_law_260 rfl (lv_at hl 3 rfl) ?_
  refine lv_iconst (v := (2 : Int32)) hx hb dL_law_261 (by decide) ?_
  refine lv_iadd hx hb dL_law_262 ?_
  refine va_sld hx hb hX hbl hbA hw.2.2.2.1 (l_in (k := 2) hj hL (by decide) (by decide)) dL_law_263 ?_
  refine lv_aload_n hx hb dL_law_264 rfl (lv_at hl 0 rfl) ?_
  refine lv_iload_n hx hb dL_law_265 rfl (lv_at hl 3 rfl) ?_
  refine lv_iconst (v := (3 : Int32)) hx hb dL_law_266 (by decide) ?_
  refine lv_iadd hx hb dL_law_267 ?_
  refine va_sld hx hb hX hbl hbA hw.2.2.2.1 (l_in (k := 3) hj hL (by decide) (by decide)) dL_law_268 ?_
  refine lv_aload_n hx hb dL_law_269 rfl (lv_at hl 0 rfl) ?_
  refine lv_iload_n hx hb dL_law_270 rfl (lv_at hl 3 rfl) ?_
  refine lv_iconst (v := (4 : Int32)) hx hb dL_law_271 (by decide) ?_
  refine lv_iadd hx hb dL_law_272 ?_
  refine va_sld hx hb hX hbl hbA hw.2.2.2.1 (l_in (k := 4) hj hL (by decide) (by decide)) dL_law_273 ?_
  refine lv_aload_n hx hb dL_law_274 rfl (lv_at hl 0 rfl) ?_
  refine lv_iload_n hx hb dL_law_275 rfl (lv_at hl 3 rfl) ?_
  refine lv_iconst (v := (5 : Int32)) hx hb dL_law_276 (by decide) ?_
  refine lv_iadd hx hb dL_law_277 ?_
  refine va_sld hx hb hX hbl hbA hw.2.2.2.1 (l_in (k := 5) hj hL (by decide) (by decide)) dL_law_278 ?_
  refine l_mI F hw hl.1 (As := [.int (xs (nI j + (1 : Int32)).toNatClampNeg), .int (xs (nI j + (2 : Int32)).toNatClampNeg), .int (xs (nI j + (3 : Int32)).toNatClampNeg), .int (xs (nI j + (4 : Int32)).toNatClampNeg), .int (xs (nI j + (5 : Int32)).toNatClampNeg)]) (rest := [.int r]) (ztX12_feed l D cy shM adm l_kM h2) zyX12_feed zkL_17 ⟨rfl, rfl⟩ ⟨Nat.le_of_ble_eq_true rfl, Nat.le_of_ble_eq_true rfl⟩ rfl rfl (Nat.le_of_ble_eq_true rfl) dL_law_279 rfl (fun H locs hw => ?_)
  refine lv_icmp_eq (tgt := 1798) hx hb dL_law_282 (by decide) (fun _ => ?_) (fun c1 => absurd rfl c1)
  exact kk _ _ _ _ hI1 hw
def B_end (Inv : Nat → zMem → zMem → Prop) : Prop := ∀ (n : Nat) (M N : zMem) (v1 : Int32), n < 512 → Inv n M N → ∃ (r : Int32) (M1 N1 : zMem), zX11_end shC 0 v1 M = some (r, M1) ∧ zX12_end shM 0 v1 N = some (r, N1) ∧ Inv (n + 1) M1 N1
set_option maxHeartbeats 4000000 in
set_option maxRecDepth 100000 in
theorem lc_end {p : Program} {l : Launch} {e : Env} {s : State} {m : MethodId} {below : List Frame} {meth : Method} {c : Code} {D : va_G} {cy : Nat → ClassId} {b L j n : Nat} {xs : Nat → Int32} {adc adm : Nat → Nat} {M N : zMem} {H : Heap} {locs : List Loc} {ls : Array Slot} {Q : State → Prop} {Inv : Nat → zMem → zMem → Prop} (hB : B_end Inv) (F : zFx D cy p m c cL_law 4 s #[Value.ref b] RL) (hX : va_X b L xs s s.heap) (hbl : b < s.heap.size) (hj : j + 7 ≤ L) (hL : L ≤ 3584) (hn : n < 512) (hI : Inv n M N) (hw : lwd D cy adc adm s M N H locs) (hl : lv_has ls 4 [(0, .ref b), (1, .ref (adc 0)), (2, .ref (adm 0)), (3, .int (nI j))]) (kk : ∀ (M1 N1 : zMem) (H1 : Heap) (locs1 : List Loc), Inv (n + 1) M1 N1 → lwd D cy adc adm s M1 N1 H1 locs1 → W p l e room_1 s m #[Value.ref b] below meth c H1 locs1 lCells lSlots Q (F0 m 1798 ls [])) : W p l e room_1 s m #[Value.ref b] below meth c H locs lCells lSlots Q (F0 m 287 ls []) := by
  have hx := F.1.1
  have hb := F.1.2.1
  have hbA : ¬ s.heap.size ≤ b := Nat.not_le.mpr hbl
  obtain ⟨r, M1, N1, h1, h2, hI1⟩ := hB n M N (xs (nI j + (1 : Int32)).toNatClampNeg) hn hI
  refine lv_aload_n hx hb dL_law_287 rfl (lv_at hl 1 rfl) ?_
  refine lv_aload_n hx hb dL_law_288 rfl (lv_at hl 0 rfl) ?_
  refine lv_iload_n hx hb dL_law_289 rfl (lv_at hl 3 rfl) ?_
  refine lv_iconst (v := (1 : Int32)) hx hb dL_law_290 (by decide) ?_
  refine lv_iadd hx hb dL_law_291 ?_
  refine va_sld hx hb hX hbl hbA hw.2.2.2.1 (l_in (k := 1) hj hL (by decide) (by decide)) dL_law_292 ?_
  refine l_cI F hw hl.1 (As := [.int (xs (nI j + (1 : Int32)).toNatClampNeg)]) (rest := []) (ztX11_end l D cy shC adc l_kC h1) zyX11_end zkL_18 ⟨rfl, rfl⟩ ⟨Nat.le_of_ble_eq_true rfl, Nat.le_of_ble_eq_true rfl⟩ rfl rfl (Nat.le_of_ble_eq_true rfl) dL_law_293 rfl (fun H locs hw => ?_)
  refine lv_aload_n hx hb dL_law_296 rfl (lv_at hl 2 rfl) ?_
  refine lv_aload_n hx hb dL_law_297 rfl (lv_at hl 0 rfl) ?_
  refine lv_iload_n hx hb dL_law_298 rfl (lv_at hl 3 rfl) ?_
  refine lv_iconst (v := (1 : Int32)) hx hb dL_law_299 (by decide) ?_
  refine lv_iadd hx hb dL_law_300 ?_
  refine va_sld hx hb hX hbl hbA hw.2.2.2.1 (l_in (k := 1) hj hL (by decide) (by decide)) dL_law_301 ?_
  refine l_mI F hw hl.1 (As := [.int (xs (nI j + (1 : Int32)).toNatClampNeg)]) (rest := [.int r]) (ztX12_end l D cy shM adm l_kM h2) zyX12_end zkL_22 ⟨rfl, rfl⟩ ⟨Nat.le_of_ble_eq_true rfl, Nat.le_of_ble_eq_true rfl⟩ rfl rfl (Nat.le_of_ble_eq_true rfl) dL_law_302 rfl (fun H locs hw => ?_)
  refine lv_icmp_eq (tgt := 1798) hx hb dL_law_305 (by decide) (fun _ => ?_) (fun c1 => absurd rfl c1)
  exact kk _ _ _ _ hI1 hw
def B_bench (Inv : Nat → zMem → zMem → Prop) : Prop := ∀ (n : Nat) (M N : zMem) , n < 512 → Inv n M N → ∃ (r : Int32) (M1 N1 : zMem), zX11_bench shC 0  M = some (r, M1) ∧ zX12_bench shM 0  N = some (r, N1) ∧ Inv (n + 1) M1 N1
set_option maxHeartbeats 4000000 in
set_option maxRecDepth 100000 in
theorem lc_bench {p : Program} {l : Launch} {e : Env} {s : State} {m : MethodId} {below : List Frame} {meth : Method} {c : Code} {D : va_G} {cy : Nat → ClassId} {b L j n : Nat} {xs : Nat → Int32} {adc adm : Nat → Nat} {ka : zKa} {M N : zMem} {H : Heap} {locs : List Loc} {ls : Array Slot} {Q : State → Prop} {Inv : Nat → zMem → zMem → Prop} (hB : B_bench Inv) (F : zFx D cy p m c cL_law 4 s #[Value.ref b] RL) (hX : va_X b L xs s s.heap) (hbl : b < s.heap.size) (hS : lStr ka s) (hj : j + 7 ≤ L) (hL : L ≤ 3584) (hn : n < 512) (hI : Inv n M N) (hw : lwd D cy adc adm s M N H locs) (hl : lv_has ls 4 [(0, .ref b), (1, .ref (adc 0)), (2, .ref (adm 0)), (3, .int (nI j))]) (kk : ∀ (M1 N1 : zMem) (H1 : Heap) (locs1 : List Loc), Inv (n + 1) M1 N1 → lwd D cy adc adm s M1 N1 H1 locs1 → W p l e room_1 s m #[Value.ref b] below meth c H1 locs1 lCells lSlots Q (F0 m 1798 ls [])) : W p l e room_1 s m #[Value.ref b] below meth c H locs lCells lSlots Q (F0 m 310 ls []) := by
  have hx := F.1.1
  have hb := F.1.2.1
  have hbA : ¬ s.heap.size ≤ b := Nat.not_le.mpr hbl
  obtain ⟨r, M1, N1, h1, h2, hI1⟩ := hB n M N  hn hI
  refine lv_aload_n hx hb dL_law_310 rfl (lv_at hl 1 rfl) ?_
  refine l_sI F hS hw hl.1 (As := []) (rest := []) (ztX11_bench l D cy shC adc ka l_kC h1) zyX11_bench zkL_23 ⟨rfl, rfl⟩ ⟨Nat.le_of_ble_eq_true rfl, Nat.le_of_ble_eq_true rfl⟩ rfl rfl (Nat.le_of_ble_eq_true rfl) dL_law_311 rfl (fun H locs hw => ?_)
  refine lv_aload_n hx hb dL_law_314 rfl (lv_at hl 2 rfl) ?_
  refine l_mI F hw hl.1 (As := []) (rest := [.int r]) (ztX12_bench l D cy shM adm l_kM h2) zyX12_bench zkL_27 ⟨rfl, rfl⟩ ⟨Nat.le_of_ble_eq_true rfl, Nat.le_of_ble_eq_true rfl⟩ rfl rfl (Nat.le_of_ble_eq_true rfl) dL_law_315 rfl (fun H locs hw => ?_)
  refine lv_icmp_eq (tgt := 1798) hx hb dL_law_318 (by decide) (fun _ => ?_) (fun c1 => absurd rfl c1)
  exact kk _ _ _ _ hI1 hw
def B_fault (Inv : Nat → zMem → zMem → Prop) : Prop := ∀ (n : Nat) (M N : zMem) (v1 : Int32), n < 512 → Inv n M N → ∃ (r : Int32) (M1 N1 : zMem), zX11_fault shC 0 v1 M = some r ∧ zX12_fault shM 0 v1 N = some r ∧ Inv (n + 1) M N
set_option maxHeartbeats 4000000 in
set_option maxRecDepth 100000 in
theorem lc_fault {p : Program} {l : Launch} {e : Env} {s : State} {m : MethodId} {below : List Frame} {meth : Method} {c : Code} {D : va_G} {cy : Nat → ClassId} {b L j n : Nat} {xs : Nat → Int32} {adc adm : Nat → Nat} {M N : zMem} {H : Heap} {locs : List Loc} {ls : Array Slot} {Q : State → Prop} {Inv : Nat → zMem → zMem → Prop} (hB : B_fault Inv) (F : zFx D cy p m c cL_law 4 s #[Value.ref b] RL) (hX : va_X b L xs s s.heap) (hbl : b < s.heap.size) (hj : j + 7 ≤ L) (hL : L ≤ 3584) (hn : n < 512) (hI : Inv n M N) (hw : lwd D cy adc adm s M N H locs) (hl : lv_has ls 4 [(0, .ref b), (1, .ref (adc 0)), (2, .ref (adm 0)), (3, .int (nI j))]) (kk : ∀ (M1 N1 : zMem) (H1 : Heap) (locs1 : List Loc), Inv (n + 1) M1 N1 → lwd D cy adc adm s M1 N1 H1 locs1 → W p l e room_1 s m #[Value.ref b] below meth c H1 locs1 lCells lSlots Q (F0 m 1798 ls [])) : W p l e room_1 s m #[Value.ref b] below meth c H locs lCells lSlots Q (F0 m 323 ls []) := by
  have hx := F.1.1
  have hb := F.1.2.1
  have hbA : ¬ s.heap.size ≤ b := Nat.not_le.mpr hbl
  obtain ⟨r, M1, N1, h1, h2, hI1⟩ := hB n M N (xs (nI j + (1 : Int32)).toNatClampNeg) hn hI
  refine lv_aload_n hx hb dL_law_323 rfl (lv_at hl 1 rfl) ?_
  refine lv_aload_n hx hb dL_law_324 rfl (lv_at hl 0 rfl) ?_
  refine lv_iload_n hx hb dL_law_325 rfl (lv_at hl 3 rfl) ?_
  refine lv_iconst (v := (1 : Int32)) hx hb dL_law_326 (by decide) ?_
  refine lv_iadd hx hb dL_law_327 ?_
  refine va_sld hx hb hX hbl hbA hw.2.2.2.1 (l_in (k := 1) hj hL (by decide) (by decide)) dL_law_328 ?_
  refine l_cI F hw hl.1 (As := [.int (xs (nI j + (1 : Int32)).toNatClampNeg)]) (rest := []) (ztX11_fault l D cy shC adc l_kC h1) zyX11_fault zkL_28 ⟨rfl, rfl⟩ ⟨Nat.le_of_ble_eq_true rfl, Nat.le_of_ble_eq_true rfl⟩ rfl rfl (Nat.le_of_ble_eq_true rfl) dL_law_329 rfl (fun H locs hw => ?_)
  refine lv_aload_n hx hb dL_law_332 rfl (lv_at hl 2 rfl) ?_
  refine lv_aload_n hx hb dL_law_333 rfl (lv_at hl 0 rfl) ?_
  refine lv_iload_n hx hb dL_law_334 rfl (lv_at hl 3 rfl) ?_
  refine lv_iconst (v := (1 : Int32)) hx hb dL_law_335 (by decide) ?_
  refine lv_iadd hx hb dL_law_336 ?_
  refine va_sld hx hb hX hbl hbA hw.2.2.2.1 (l_in (k := 1) hj hL (by decide) (by decide)) dL_law_337 ?_
  refine l_mI F hw hl.1 (As := [.int (xs (nI j + (1 : Int32)).toNatClampNeg)]) (rest := [.int r]) (ztX12_fault l D cy shM adm l_kM h2) zyX12_fault zkL_31 ⟨rfl, rfl⟩ ⟨Nat.le_of_ble_eq_true rfl, Nat.le_of_ble_eq_true rfl⟩ rfl rfl (Nat.le_of_ble_eq_true rfl) dL_law_338 rfl (fun H locs hw => ?_)
  refine lv_icmp_eq (tgt := 1798) hx hb dL_law_341 (by decide) (fun _ => ?_) (fun c1 => absurd rfl c1)
  exact kk _ _ _ _ hI1 hw
def B_table (Inv : Nat → zMem → zMem → Prop) : Prop := ∀ (n : Nat) (M N : zMem) (v1 v2 : Int32), n < 512 → Inv n M N → ∃ (r : Int32) (M1 N1 : zMem), zX11_table shC 0 v1 v2 M = some r ∧ zX12_table shM 0 v1 v2 N = some r ∧ Inv (n + 1) M N
set_option maxHeartbeats 4000000 in
set_option maxRecDepth 100000 in
theorem lc_table {p : Program} {l : Launch} {e : Env} {s : State} {m : MethodId} {below : List Frame} {meth : Method} {c : Code} {D : va_G} {cy : Nat → ClassId} {b L j n : Nat} {xs : Nat → Int32} {adc adm : Nat → Nat} {M N : zMem} {H : Heap} {locs : List Loc} {ls : Array Slot} {Q : State → Prop} {Inv : Nat → zMem → zMem → Prop} (hB : B_table Inv) (F : zFx D cy p m c cL_law 4 s #[Value.ref b] RL) (hX : va_X b L xs s s.heap) (hbl : b < s.heap.size) (hj : j + 7 ≤ L) (hL : L ≤ 3584) (hn : n < 512) (hI : Inv n M N) (hw : lwd D cy adc adm s M N H locs) (hl : lv_has ls 4 [(0, .ref b), (1, .ref (adc 0)), (2, .ref (adm 0)), (3, .int (nI j))]) (kk : ∀ (M1 N1 : zMem) (H1 : Heap) (locs1 : List Loc), Inv (n + 1) M1 N1 → lwd D cy adc adm s M1 N1 H1 locs1 → W p l e room_1 s m #[Value.ref b] below meth c H1 locs1 lCells lSlots Q (F0 m 1798 ls [])) : W p l e room_1 s m #[Value.ref b] below meth c H locs lCells lSlots Q (F0 m 346 ls []) := by
  have hx := F.1.1
  have hb := F.1.2.1
  have hbA : ¬ s.heap.size ≤ b := Nat.not_le.mpr hbl
  obtain ⟨r, M1, N1, h1, h2, hI1⟩ := hB n M N (xs (nI j + (1 : Int32)).toNatClampNeg) (xs (nI j + (2 : Int32)).toNatClampNeg) hn hI
  refine lv_aload_n hx hb dL_law_346 rfl (lv_at hl 1 rfl) ?_
  refine lv_aload_n hx hb dL_law_347 rfl (lv_at hl 0 rfl) ?_
  refine lv_iload_n hx hb dL_law_348 rfl (lv_at hl 3 rfl) ?_
  refine lv_iconst (v := (1 : Int32)) hx hb dL_law_349 (by decide) ?_
  refine lv_iadd hx hb dL_law_350 ?_
  refine va_sld hx hb hX hbl hbA hw.2.2.2.1 (l_in (k := 1) hj hL (by decide) (by decide)) dL_law_351 ?_
  refine lv_aload_n hx hb dL_law_352 rfl (lv_at hl 0 rfl) ?_
  refine lv_iload_n hx hb dL_law_353 rfl (lv_at hl 3 rfl) ?_
  refine lv_iconst (v := (2 : Int32)) hx hb dL_law_354 (by decide) ?_
  refine lv_iadd hx hb dL_law_355 ?_
  refine va_sld hx hb hX hbl hbA hw.2.2.2.1 (l_in (k := 2) hj hL (by decide) (by decide)) dL_law_356 ?_
  refine l_cI F hw hl.1 (As := [.int (xs (nI j + (1 : Int32)).toNatClampNeg), .int (xs (nI j + (2 : Int32)).toNatClampNeg)]) (rest := []) (ztX11_table l D cy shC adc l_kC h1) zyX11_table zkL_32 ⟨rfl, rfl⟩ ⟨Nat.le_of_ble_eq_true rfl, Nat.le_of_ble_eq_true rfl⟩ rfl rfl (Nat.le_of_ble_eq_true rfl) dL_law_357 rfl (fun H locs hw => ?_)
  refine lv_aload_n hx hb dL_law_360 rfl (lv_at hl 2 rfl) ?_
  refine lv_aload_n hx hb dL_law_361 rfl (lv_at hl 0 rfl) ?_
  refine lv_iload_n hx hb dL_law_362 rfl (lv_at hl 3 rfl) ?_
  refine lv_iconst (v := (1 : Int32)) hx hb dL_law_363 (by decide) ?_
  refine lv_iadd hx hb dL_law_364 ?_
  refine va_sld hx hb hX hbl hbA hw.2.2.2.1 (l_in (k := 1) hj hL (by decide) (by decide)) dL_law_365 ?_
  refine lv_aload_n hx hb dL_law_366 rfl (lv_at hl 0 rfl) ?_
  refine lv_iload_n hx hb dL_law_367 rfl (lv_at hl 3 rfl) ?_
  refine lv_iconst (v := (2 : Int32)) hx hb dL_law_368 (by decide) ?_
  refine lv_iadd hx hb dL_law_369 ?_
  refine va_sld hx hb hX hbl hbA hw.2.2.2.1 (l_in (k := 2) hj hL (by decide) (by decide)) dL_law_370 ?_
  refine l_mI F hw hl.1 (As := [.int (xs (nI j + (1 : Int32)).toNatClampNeg), .int (xs (nI j + (2 : Int32)).toNatClampNeg)]) (rest := [.int r]) (ztX12_table l D cy shM adm l_kM h2) zyX12_table zkL_36 ⟨rfl, rfl⟩ ⟨Nat.le_of_ble_eq_true rfl, Nat.le_of_ble_eq_true rfl⟩ rfl rfl (Nat.le_of_ble_eq_true rfl) dL_law_371 rfl (fun H locs hw => ?_)
  refine lv_icmp_eq (tgt := 1798) hx hb dL_law_374 (by decide) (fun _ => ?_) (fun c1 => absurd rfl c1)
  exact kk _ _ _ _ hI1 hw
def B_current (Inv : Nat → zMem → zMem → Prop) : Prop := ∀ (n : Nat) (M N : zMem) (v1 v2 : Int32), n < 512 → Inv n M N → ∃ (r : Int32) (M1 N1 : zMem), zX11_current shC 0 v1 v2 M = some r ∧ zX12_current shM 0 v1 v2 N = some r ∧ Inv (n + 1) M N
set_option maxHeartbeats 4000000 in
set_option maxRecDepth 100000 in
theorem lc_current {p : Program} {l : Launch} {e : Env} {s : State} {m : MethodId} {below : List Frame} {meth : Method} {c : Code} {D : va_G} {cy : Nat → ClassId} {b L j n : Nat} {xs : Nat → Int32} {adc adm : Nat → Nat} {M N : zMem} {H : Heap} {locs : List Loc} {ls : Array Slot} {Q : State → Prop} {Inv : Nat → zMem → zMem → Prop} (hB : B_current Inv) (F : zFx D cy p m c cL_law 4 s #[Value.ref b] RL) (hX : va_X b L xs s s.heap) (hbl : b < s.heap.size) (hj : j + 7 ≤ L) (hL : L ≤ 3584) (hn : n < 512) (hI : Inv n M N) (hw : lwd D cy adc adm s M N H locs) (hl : lv_has ls 4 [(0, .ref b), (1, .ref (adc 0)), (2, .ref (adm 0)), (3, .int (nI j))]) (kk : ∀ (M1 N1 : zMem) (H1 : Heap) (locs1 : List Loc), Inv (n + 1) M1 N1 → lwd D cy adc adm s M1 N1 H1 locs1 → W p l e room_1 s m #[Value.ref b] below meth c H1 locs1 lCells lSlots Q (F0 m 1798 ls [])) : W p l e room_1 s m #[Value.ref b] below meth c H locs lCells lSlots Q (F0 m 379 ls []) := by
  have hx := F.1.1
  have hb := F.1.2.1
  have hbA : ¬ s.heap.size ≤ b := Nat.not_le.mpr hbl
  obtain ⟨r, M1, N1, h1, h2, hI1⟩ := hB n M N (xs (nI j + (1 : Int32)).toNatClampNeg) (xs (nI j + (2 : Int32)).toNatClampNeg) hn hI
  refine lv_aload_n hx hb dL_law_379 rfl (lv_at hl 1 rfl) ?_
  refine lv_aload_n hx hb dL_law_380 rfl (lv_at hl 0 rfl) ?_
  refine lv_iload_n hx hb dL_law_381 rfl (lv_at hl 3 rfl) ?_
  refine lv_iconst (v := (1 : Int32)) hx hb dL_law_382 (by decide) ?_
  refine lv_iadd hx hb dL_law_383 ?_
  refine va_sld hx hb hX hbl hbA hw.2.2.2.1 (l_in (k := 1) hj hL (by decide) (by decide)) dL_law_384 ?_
  refine lv_aload_n hx hb dL_law_385 rfl (lv_at hl 0 rfl) ?_
  refine lv_iload_n hx hb dL_law_386 rfl (lv_at hl 3 rfl) ?_
  refine lv_iconst (v := (2 : Int32)) hx hb dL_law_387 (by decide) ?_
  refine lv_iadd hx hb dL_law_388 ?_
  refine va_sld hx hb hX hbl hbA hw.2.2.2.1 (l_in (k := 2) hj hL (by decide) (by decide)) dL_law_389 ?_
  refine l_cI F hw hl.1 (As := [.int (xs (nI j + (1 : Int32)).toNatClampNeg), .int (xs (nI j + (2 : Int32)).toNatClampNeg)]) (rest := []) (ztX11_current l D cy shC adc l_kC h1) zyX11_current zkL_37 ⟨rfl, rfl⟩ ⟨Nat.le_of_ble_eq_true rfl, Nat.le_of_ble_eq_true rfl⟩ rfl rfl (Nat.le_of_ble_eq_true rfl) dL_law_390 rfl (fun H locs hw => ?_)
  refine lv_aload_n hx hb dL_law_393 rfl (lv_at hl 2 rfl) ?_
  refine lv_aload_n hx hb dL_law_394 rfl (lv_at hl 0 rfl) ?_
  refine lv_iload_n hx hb dL_law_395 rfl (lv_at hl 3 rfl) ?_
  refine lv_iconst (v := (1 : Int32)) hx hb dL_law_396 (by decide) ?_
  refine lv_iadd hx hb dL_law_397 ?_
  refine va_sld hx hb hX hbl hbA hw.2.2.2.1 (l_in (k := 1) hj hL (by decide) (by decide)) dL_law_398 ?_
  refine lv_aload_n hx hb dL_law_399 rfl (lv_at hl 0 rfl) ?_
  refine lv_iload_n hx hb dL_law_400 rfl (lv_at hl 3 rfl) ?_
  refine lv_iconst (v := (2 : Int32)) hx hb dL_law_401 (by decide) ?_
  refine lv_iadd hx hb dL_law_402 ?_
  refine va_sld hx hb hX hbl hbA hw.2.2.2.1 (l_in (k := 2) hj hL (by decide) (by decide)) dL_law_403 ?_
  refine l_mI F hw hl.1 (As := [.int (xs (nI j + (1 : Int32)).toNatClampNeg), .int (xs (nI j + (2 : Int32)).toNatClampNeg)]) (rest := [.int r]) (ztX12_current l D cy shM adm l_kM h2) zyX12_current zkL_40 ⟨rfl, rfl⟩ ⟨Nat.le_of_ble_eq_true rfl, Nat.le_of_ble_eq_true rfl⟩ rfl rfl (Nat.le_of_ble_eq_true rfl) dL_law_404 rfl (fun H locs hw => ?_)
  refine lv_icmp_eq (tgt := 1798) hx hb dL_law_407 (by decide) (fun _ => ?_) (fun c1 => absurd rfl c1)
  exact kk _ _ _ _ hI1 hw
def B_field (Inv : Nat → zMem → zMem → Prop) : Prop := ∀ (n : Nat) (M N : zMem) (v1 : Int32), n < 512 → Inv n M N → ∃ (r : Int32) (M1 N1 : zMem), zX11_field shC 0 v1 M = some r ∧ zX12_field shM 0 v1 N = some r ∧ Inv (n + 1) M N
set_option maxHeartbeats 4000000 in
set_option maxRecDepth 100000 in
theorem lc_field {p : Program} {l : Launch} {e : Env} {s : State} {m : MethodId} {below : List Frame} {meth : Method} {c : Code} {D : va_G} {cy : Nat → ClassId} {b L j n : Nat} {xs : Nat → Int32} {adc adm : Nat → Nat} {M N : zMem} {H : Heap} {locs : List Loc} {ls : Array Slot} {Q : State → Prop} {Inv : Nat → zMem → zMem → Prop} (hB : B_field Inv) (F : zFx D cy p m c cL_law 4 s #[Value.ref b] RL) (hX : va_X b L xs s s.heap) (hbl : b < s.heap.size) (hj : j + 7 ≤ L) (hL : L ≤ 3584) (hn : n < 512) (hI : Inv n M N) (hw : lwd D cy adc adm s M N H locs) (hl : lv_has ls 4 [(0, .ref b), (1, .ref (adc 0)), (2, .ref (adm 0)), (3, .int (nI j))]) (kk : ∀ (M1 N1 : zMem) (H1 : Heap) (locs1 : List Loc), Inv (n + 1) M1 N1 → lwd D cy adc adm s M1 N1 H1 locs1 → W p l e room_1 s m #[Value.ref b] below meth c H1 locs1 lCells lSlots Q (F0 m 1798 ls [])) : W p l e room_1 s m #[Value.ref b] below meth c H locs lCells lSlots Q (F0 m 412 ls []) := by
  have hx := F.1.1
  have hb := F.1.2.1
  have hbA : ¬ s.heap.size ≤ b := Nat.not_le.mpr hbl
  obtain ⟨r, M1, N1, h1, h2, hI1⟩ := hB n M N (xs (nI j + (1 : Int32)).toNatClampNeg) hn hI
  refine lv_aload_n hx hb dL_law_412 rfl (lv_at hl 1 rfl) ?_
  refine lv_aload_n hx hb dL_law_413 rfl (lv_at hl 0 rfl) ?_
  refine lv_iload_n hx hb dL_law_414 rfl (lv_at hl 3 rfl) ?_
  refine lv_iconst (v := (1 : Int32)) hx hb dL_law_415 (by decide) ?_
  refine lv_iadd hx hb dL_law_416 ?_
  refine va_sld hx hb hX hbl hbA hw.2.2.2.1 (l_in (k := 1) hj hL (by decide) (by decide)) dL_law_417 ?_
  refine l_cI F hw hl.1 (As := [.int (xs (nI j + (1 : Int32)).toNatClampNeg)]) (rest := []) (ztX11_field l D cy shC adc l_kC h1) zyX11_field zkL_41 ⟨rfl, rfl⟩ ⟨Nat.le_of_ble_eq_true rfl, Nat.le_of_ble_eq_true rfl⟩ rfl rfl (Nat.le_of_ble_eq_true rfl) dL_law_418 rfl (fun H locs hw => ?_)
  refine lv_aload_n hx hb dL_law_421 rfl (lv_at hl 2 rfl) ?_
  refine lv_aload_n hx hb dL_law_422 rfl (lv_at hl 0 rfl) ?_
  refine lv_iload_n hx hb dL_law_423 rfl (lv_at hl 3 rfl) ?_
  refine lv_iconst (v := (1 : Int32)) hx hb dL_law_424 (by decide) ?_
  refine lv_iadd hx hb dL_law_425 ?_
  refine va_sld hx hb hX hbl hbA hw.2.2.2.1 (l_in (k := 1) hj hL (by decide) (by decide)) dL_law_426 ?_
  refine l_mI F hw hl.1 (As := [.int (xs (nI j + (1 : Int32)).toNatClampNeg)]) (rest := [.int r]) (ztX12_field l D cy shM adm l_kM h2) zyX12_field zkL_44 ⟨rfl, rfl⟩ ⟨Nat.le_of_ble_eq_true rfl, Nat.le_of_ble_eq_true rfl⟩ rfl rfl (Nat.le_of_ble_eq_true rfl) dL_law_427 rfl (fun H locs hw => ?_)
  refine lv_icmp_eq (tgt := 1798) hx hb dL_law_430 (by decide) (fun _ => ?_) (fun c1 => absurd rfl c1)
  exact kk _ _ _ _ hI1 hw
def B_mend (Inv : Nat → zMem → zMem → Prop) : Prop := ∀ (n : Nat) (M N : zMem) (v1 : Int32), n < 512 → Inv n M N → ∃ (r : Int32) (M1 N1 : zMem), zX11_mend shC 0 v1 M = some (r, M1) ∧ zX12_mend shM 0 v1 N = some (r, N1) ∧ Inv (n + 1) M1 N1
set_option maxHeartbeats 4000000 in
set_option maxRecDepth 100000 in
theorem lc_mend {p : Program} {l : Launch} {e : Env} {s : State} {m : MethodId} {below : List Frame} {meth : Method} {c : Code} {D : va_G} {cy : Nat → ClassId} {b L j n : Nat} {xs : Nat → Int32} {adc adm : Nat → Nat} {M N : zMem} {H : Heap} {locs : List Loc} {ls : Array Slot} {Q : State → Prop} {Inv : Nat → zMem → zMem → Prop} (hB : B_mend Inv) (F : zFx D cy p m c cL_law 4 s #[Value.ref b] RL) (hX : va_X b L xs s s.heap) (hbl : b < s.heap.size) (hj : j + 7 ≤ L) (hL : L ≤ 3584) (hn : n < 512) (hI : Inv n M N) (hw : lwd D cy adc adm s M N H locs) (hl : lv_has ls 4 [(0, .ref b), (1, .ref (adc 0)), (2, .ref (adm 0)), (3, .int (nI j))]) (kk : ∀ (M1 N1 : zMem) (H1 : Heap) (locs1 : List Loc), Inv (n + 1) M1 N1 → lwd D cy adc adm s M1 N1 H1 locs1 → W p l e room_1 s m #[Value.ref b] below meth c H1 locs1 lCells lSlots Q (F0 m 1798 ls [])) : W p l e room_1 s m #[Value.ref b] below meth c H locs lCells lSlots Q (F0 m 435 ls []) := by
  have hx := F.1.1
  have hb := F.1.2.1
  have hbA : ¬ s.heap.size ≤ b := Nat.not_le.mpr hbl
  obtain ⟨r, M1, N1, h1, h2, hI1⟩ := hB n M N (xs (nI j + (1 : Int32)).toNatClampNeg) hn hI
  refine lv_aload_n hx hb dL_law_435 rfl (lv_at hl 1 rfl) ?_
  refine lv_aload_n hx hb dL_law_436 rfl (lv_at hl 0 rfl) ?_
  refine lv_iload_n hx hb dL_law_437 rfl (lv_at hl 3 rfl) ?_
  refine lv_iconst (v := (1 : Int32)) hx hb dL_law_438 (by decide) ?_
  refine lv_iadd hx hb dL_law_439 ?_
  refine va_sld hx hb hX hbl hbA hw.2.2.2.1 (l_in (k := 1) hj hL (by decide) (by decide)) dL_law_440 ?_
  refine l_cI F hw hl.1 (As := [.int (xs (nI j + (1 : Int32)).toNatClampNeg)]) (rest := []) (ztX11_mend l D cy shC adc l_kC h1) zyX11_mend zkL_45 ⟨rfl, rfl⟩ ⟨Nat.le_of_ble_eq_true rfl, Nat.le_of_ble_eq_true rfl⟩ rfl rfl (Nat.le_of_ble_eq_true rfl) dL_law_441 rfl (fun H locs hw => ?_)
  refine lv_aload_n hx hb dL_law_444 rfl (lv_at hl 2 rfl) ?_
  refine lv_aload_n hx hb dL_law_445 rfl (lv_at hl 0 rfl) ?_
  refine lv_iload_n hx hb dL_law_446 rfl (lv_at hl 3 rfl) ?_
  refine lv_iconst (v := (1 : Int32)) hx hb dL_law_447 (by decide) ?_
  refine lv_iadd hx hb dL_law_448 ?_
  refine va_sld hx hb hX hbl hbA hw.2.2.2.1 (l_in (k := 1) hj hL (by decide) (by decide)) dL_law_449 ?_
  refine l_mI F hw hl.1 (As := [.int (xs (nI j + (1 : Int32)).toNatClampNeg)]) (rest := [.int r]) (ztX12_mend l D cy shM adm l_kM h2) zyX12_mend zkL_48 ⟨rfl, rfl⟩ ⟨Nat.le_of_ble_eq_true rfl, Nat.le_of_ble_eq_true rfl⟩ rfl rfl (Nat.le_of_ble_eq_true rfl) dL_law_450 rfl (fun H locs hw => ?_)
  refine lv_icmp_eq (tgt := 1798) hx hb dL_law_453 (by decide) (fun _ => ?_) (fun c1 => absurd rfl c1)
  exact kk _ _ _ _ hI1 hw
def B_tuned (Inv : Nat → zMem → zMem → Prop) : Prop := ∀ (n : Nat) (M N : zMem) (v1 : Int32), n < 512 → Inv n M N → ∃ (r : Int32) (M1 N1 : zMem), zX11_tuned shC 0 v1 M = some (r, M1) ∧ zX12_tuned shM 0 v1 N = some (r, N1) ∧ Inv (n + 1) M1 N1
set_option maxHeartbeats 4000000 in
set_option maxRecDepth 100000 in
theorem lc_tuned {p : Program} {l : Launch} {e : Env} {s : State} {m : MethodId} {below : List Frame} {meth : Method} {c : Code} {D : va_G} {cy : Nat → ClassId} {b L j n : Nat} {xs : Nat → Int32} {adc adm : Nat → Nat} {M N : zMem} {H : Heap} {locs : List Loc} {ls : Array Slot} {Q : State → Prop} {Inv : Nat → zMem → zMem → Prop} (hB : B_tuned Inv) (F : zFx D cy p m c cL_law 4 s #[Value.ref b] RL) (hX : va_X b L xs s s.heap) (hbl : b < s.heap.size) (hj : j + 7 ≤ L) (hL : L ≤ 3584) (hn : n < 512) (hI : Inv n M N) (hw : lwd D cy adc adm s M N H locs) (hl : lv_has ls 4 [(0, .ref b), (1, .ref (adc 0)), (2, .ref (adm 0)), (3, .int (nI j))]) (kk : ∀ (M1 N1 : zMem) (H1 : Heap) (locs1 : List Loc), Inv (n + 1) M1 N1 → lwd D cy adc adm s M1 N1 H1 locs1 → W p l e room_1 s m #[Value.ref b] below meth c H1 locs1 lCells lSlots Q (F0 m 1798 ls [])) : W p l e room_1 s m #[Value.ref b] below meth c H locs lCells lSlots Q (F0 m 458 ls []) := by
  have hx := F.1.1
  have hb := F.1.2.1
  have hbA : ¬ s.heap.size ≤ b := Nat.not_le.mpr hbl
  obtain ⟨r, M1, N1, h1, h2, hI1⟩ := hB n M N (xs (nI j + (1 : Int32)).toNatClampNeg) hn hI
  refine lv_aload_n hx hb dL_law_458 rfl (lv_at hl 1 rfl) ?_
  refine lv_aload_n hx hb dL_law_459 rfl (lv_at hl 0 rfl) ?_
  refine lv_iload_n hx hb dL_law_460 rfl (lv_at hl 3 rfl) ?_
  refine lv_iconst (v := (1 : Int32)) hx hb dL_law_461 (by decide) ?_
  refine lv_iadd hx hb dL_law_462 ?_
  refine va_sld hx hb hX hbl hbA hw.2.2.2.1 (l_in (k := 1) hj hL (by decide) (by decide)) dL_law_463 ?_
  refine l_cI F hw hl.1 (As := [.int (xs (nI j + (1 : Int32)).toNatClampNeg)]) (rest := []) (ztX11_tuned l D cy shC adc l_kC h1) zyX11_tuned zkL_49 ⟨rfl, rfl⟩ ⟨Nat.le_of_ble_eq_true rfl, Nat.le_of_ble_eq_true rfl⟩ rfl rfl (Nat.le_of_ble_eq_true rfl) dL_law_464 rfl (fun H locs hw => ?_)
  refine lv_aload_n hx hb dL_law_467 rfl (lv_at hl 2 rfl) ?_
  refine lv_aload_n hx hb dL_law_468 rfl (lv_at hl 0 rfl) ?_
  refine lv_iload_n hx hb dL_law_469 rfl (lv_at hl 3 rfl) ?_
  refine lv_iconst (v := (1 : Int32)) hx hb dL_law_470 (by decide) ?_
  refine lv_iadd hx hb dL_law_471 ?_
  refine va_sld hx hb hX hbl hbA hw.2.2.2.1 (l_in (k := 1) hj hL (by decide) (by decide)) dL_law_472 ?_
  refine l_mI F hw hl.1 (As := [.int (xs (nI j + (1 : Int32)).toNatClampNeg)]) (rest := [.int r]) (ztX12_tuned l D cy shM adm l_kM h2) zyX12_tuned zkL_52 ⟨rfl, rfl⟩ ⟨Nat.le_of_ble_eq_true rfl, Nat.le_of_ble_eq_true rfl⟩ rfl rfl (Nat.le_of_ble_eq_true rfl) dL_law_473 rfl (fun H locs hw => ?_)
  refine lv_icmp_eq (tgt := 1798) hx hb dL_law_476 (by decide) (fun _ => ?_) (fun c1 => absurd rfl c1)
  exact kk _ _ _ _ hI1 hw
def B_ramp (Inv : Nat → zMem → zMem → Prop) : Prop := ∀ (n : Nat) (M N : zMem) (v1 v2 v3 v4 : Int32), n < 512 → Inv n M N → ∃ (r : Int32) (M1 N1 : zMem), zX11_ramp shC 0 v1 v2 v3 v4 M = some (r, M1) ∧ zX12_ramp shM 0 v1 v2 v3 v4 N = some (r, N1) ∧ Inv (n + 1) M1 N1
set_option maxHeartbeats 4000000 in
set_option maxRecDepth 100000 in
theorem lc_ramp {p : Program} {l : Launch} {e : Env} {s : State} {m : MethodId} {below : List Frame} {meth : Method} {c : Code} {D : va_G} {cy : Nat → ClassId} {b L j n : Nat} {xs : Nat → Int32} {adc adm : Nat → Nat} {M N : zMem} {H : Heap} {locs : List Loc} {ls : Array Slot} {Q : State → Prop} {Inv : Nat → zMem → zMem → Prop} (hB : B_ramp Inv) (F : zFx D cy p m c cL_law 4 s #[Value.ref b] RL) (hX : va_X b L xs s s.heap) (hbl : b < s.heap.size) (hj : j + 7 ≤ L) (hL : L ≤ 3584) (hn : n < 512) (hI : Inv n M N) (hw : lwd D cy adc adm s M N H locs) (hl : lv_has ls 4 [(0, .ref b), (1, .ref (adc 0)), (2, .ref (adm 0)), (3, .int (nI j))]) (kk : ∀ (M1 N1 : zMem) (H1 : Heap) (locs1 : List Loc), Inv (n + 1) M1 N1 → lwd D cy adc adm s M1 N1 H1 locs1 → W p l e room_1 s m #[Value.ref b] below meth c H1 locs1 lCells lSlots Q (F0 m 1798 ls [])) : W p l e room_1 s m #[Value.ref b] below meth c H locs lCells lSlots Q (F0 m 481 ls []) := by
  have hx := F.1.1
  have hb := F.1.2.1
  have hbA : ¬ s.heap.size ≤ b := Nat.not_le.mpr hbl
  obtain ⟨r, M1, N1, h1, h2, hI1⟩ := hB n M N (xs (nI j + (1 : Int32)).toNatClampNeg) (xs (nI j + (2 : Int32)).toNatClampNeg) (xs (nI j + (3 : Int32)).toNatClampNeg) (xs (nI j + (4 : Int32)).toNatClampNeg) hn hI
  refine lv_aload_n hx hb dL_law_481 rfl (lv_at hl 1 rfl) ?_
  refine lv_aload_n hx hb dL_law_482 rfl (lv_at hl 0 rfl) ?_
  refine lv_iload_n hx hb dL_law_483 rfl (lv_at hl 3 rfl) ?_
  refine lv_iconst (v := (1 : Int32)) hx hb dL_law_484 (by decide) ?_
  refine lv_iadd hx hb dL_law_485 ?_
  refine va_sld hx hb hX hbl hbA hw.2.2.2.1 (l_in (k := 1) hj hL (by decide) (by decide)) dL_law_486 ?_
  refine lv_aload_n hx hb dL_law_487 rfl (lv_at hl 0 rfl) ?_
  refine lv_iload_n hx hb dL_law_488 rfl (lv_at hl 3 rfl) ?_
  refine lv_iconst (v := (2 : Int32)) hx hb dL_law_489 (by decide) ?_
  refine lv_iadd hx hb dL_law_490 ?_
  refine va_sld hx hb hX hbl hbA hw.2.2.2.1 (l_in (k := 2) hj hL (by decide) (by decide)) dL_law_491 ?_
  refine lv_aload_n hx hb dL_law_492 rfl (lv_at hl 0 rfl) ?_
  refine lv_iload_n hx hb dL_law_493 rfl (lv_at hl 3 rfl) ?_
  refine lv_iconst (v := (3 : Int32)) hx hb dL_law_494 (by decide) ?_
  refine lv_iadd hx hb dL_law_495 ?_
  refine va_sld hx hb hX hbl hbA hw.2.2.2.1 (l_in (k := 3) hj hL (by decide) (by decide)) dL_law_496 ?_
  refine lv_aload_n hx hb dL_law_497 rfl (lv_at hl 0 rfl) ?_
  refine lv_iload_n hx hb dL_law_498 rfl (lv_at hl 3 rfl) ?_
  refine lv_iconst (v := (4 : Int32)) hx hb dL_law_499 (by decide) ?_
  refine lv_iadd hx hb dL_law_500 ?_
  refine va_sld hx hb hX hbl hbA hw.2.2.2.1 (l_in (k := 4) hj hL (by decide) (by decide)) dL_law_501 ?_
  refine l_cI F hw hl.1 (As := [.int (xs (nI j + (1 : Int32)).toNatClampNeg), .int (xs (nI j + (2 : Int32)).toNatClampNeg), .int (xs (nI j + (3 : Int32)).toNatClampNeg), .int (xs (nI j + (4 : Int32)).toNatClampNeg)]) (rest := []) (ztX11_ramp l D cy shC adc l_kC h1) zyX11_ramp zkL_53 ⟨rfl, rfl⟩ ⟨Nat.le_of_ble_eq_true rfl, Nat.le_of_ble_eq_true rfl⟩ rfl rfl (Nat.le_of_ble_eq_true rfl) dL_law_502 rfl (fun H locs hw => ?_)
  refine lv_aload_n hx hb dL_law_505 rfl (lv_at hl 2 rfl) ?_
  refine lv_aload_n hx hb dL_law_506 rfl (lv_at hl 0 rfl) ?_
  refine lv_iload_n hx hb dL_law_507 rfl (lv_at hl 3 rfl) ?_
  refine lv_iconst (v := (1 : Int32)) hx hb dL_law_508 (by decide) ?_
  refine lv_iadd hx hb dL_law_509 ?_
  refine va_sld hx hb hX hbl hbA hw.2.2.2.1 (l_in (k := 1) hj hL (by decide) (by decide)) dL_law_510 ?_
  refine lv_aload_n hx hb dL_law_511 rfl (lv_at hl 0 rfl) ?_
  refine lv_iload_n hx hb dL_law_512 rfl (lv_at hl 3 rfl) ?_
  refine lv_iconst (v := (2 : Int32)) hx hb dL_law_513 (by decide) ?_
  refine lv_iadd hx hb dL_law_514 ?_
  refine va_sld hx hb hX hbl hbA hw.2.2.2.1 (l_in (k := 2) hj hL (by decide) (by decide)) dL_law_515 ?_
  refine lv_aload_n hx hb dL_law_516 rfl (lv_at hl 0 rfl) ?_
  refine lv_iload_n hx hb dL_law_517 rfl (lv_at hl 3 rfl) ?_
  refine lv_iconst (v := (3 : Int32)) hx hb dL_law_518 (by decide) ?_
  refine lv_iadd hx hb dL_law_519 ?_
  refine va_sld hx hb hX hbl hbA hw.2.2.2.1 (l_in (k := 3) hj hL (by decide) (by decide)) dL_law_520 ?_
  refine lv_aload_n hx hb dL_law_521 rfl (lv_at hl 0 rfl) ?_
  refine lv_iload_n hx hb dL_law_522 rfl (lv_at hl 3 rfl) ?_
  refine lv_iconst (v := (4 : Int32)) hx hb dL_law_523 (by decide) ?_
  refine lv_iadd hx hb dL_law_524 ?_
  refine va_sld hx hb hX hbl hbA hw.2.2.2.1 (l_in (k := 4) hj hL (by decide) (by decide)) dL_law_525 ?_
  refine l_mI F hw hl.1 (As := [.int (xs (nI j + (1 : Int32)).toNatClampNeg), .int (xs (nI j + (2 : Int32)).toNatClampNeg), .int (xs (nI j + (3 : Int32)).toNatClampNeg), .int (xs (nI j + (4 : Int32)).toNatClampNeg)]) (rest := [.int r]) (ztX12_ramp l D cy shM adm l_kM h2) zyX12_ramp zkL_57 ⟨rfl, rfl⟩ ⟨Nat.le_of_ble_eq_true rfl, Nat.le_of_ble_eq_true rfl⟩ rfl rfl (Nat.le_of_ble_eq_true rfl) dL_law_526 rfl (fun H locs hw => ?_)
  refine lv_icmp_eq (tgt := 1798) hx hb dL_law_529 (by decide) (fun _ => ?_) (fun c1 => absurd rfl c1)
  exact kk _ _ _ _ hI1 hw
def B_rampAt (Inv : Nat → zMem → zMem → Prop) : Prop := ∀ (n : Nat) (M N : zMem) (v1 v2 v3 v4 : Int32), n < 512 → Inv n M N → ∃ (r : Int32) (M1 N1 : zMem), zX11_rampAt shC 0 v1 v2 v3 v4 M = some (r, M1) ∧ zX12_rampAt shM 0 v1 v2 v3 v4 N = some (r, N1) ∧ Inv (n + 1) M1 N1
set_option maxHeartbeats 4000000 in
set_option maxRecDepth 100000 in
theorem lc_rampAt {p : Program} {l : Launch} {e : Env} {s : State} {m : MethodId} {below : List Frame} {meth : Method} {c : Code} {D : va_G} {cy : Nat → ClassId} {b L j n : Nat} {xs : Nat → Int32} {adc adm : Nat → Nat} {M N : zMem} {H : Heap} {locs : List Loc} {ls : Array Slot} {Q : State → Prop} {Inv : Nat → zMem → zMem → Prop} (hB : B_rampAt Inv) (F : zFx D cy p m c cL_law 4 s #[Value.ref b] RL) (hX : va_X b L xs s s.heap) (hbl : b < s.heap.size) (hj : j + 7 ≤ L) (hL : L ≤ 3584) (hn : n < 512) (hI : Inv n M N) (hw : lwd D cy adc adm s M N H locs) (hl : lv_has ls 4 [(0, .ref b), (1, .ref (adc 0)), (2, .ref (adm 0)), (3, .int (nI j))]) (kk : ∀ (M1 N1 : zMem) (H1 : Heap) (locs1 : List Loc), Inv (n + 1) M1 N1 → lwd D cy adc adm s M1 N1 H1 locs1 → W p l e room_1 s m #[Value.ref b] below meth c H1 locs1 lCells lSlots Q (F0 m 1798 ls [])) : W p l e room_1 s m #[Value.ref b] below meth c H locs lCells lSlots Q (F0 m 534 ls []) := by
  have hx := F.1.1
  have hb := F.1.2.1
  have hbA : ¬ s.heap.size ≤ b := Nat.not_le.mpr hbl
  obtain ⟨r, M1, N1, h1, h2, hI1⟩ := hB n M N (xs (nI j + (1 : Int32)).toNatClampNeg) (xs (nI j + (2 : Int32)).toNatClampNeg) (xs (nI j + (3 : Int32)).toNatClampNeg) (xs (nI j + (4 : Int32)).toNatClampNeg) hn hI
  refine lv_aload_n hx hb dL_law_534 rfl (lv_at hl 1 rfl) ?_
  refine lv_aload_n hx hb dL_law_535 rfl (lv_at hl 0 rfl) ?_
  refine lv_iload_n hx hb dL_law_536 rfl (lv_at hl 3 rfl) ?_
  refine lv_iconst (v := (1 : Int32)) hx hb dL_law_537 (by decide) ?_
  refine lv_iadd hx hb dL_law_538 ?_
  refine va_sld hx hb hX hbl hbA hw.2.2.2.1 (l_in (k := 1) hj hL (by decide) (by decide)) dL_law_539 ?_
  refine lv_aload_n hx hb dL_law_540 rfl (lv_at hl 0 rfl) ?_
  refine lv_iload_n hx hb dL_law_541 rfl (lv_at hl 3 rfl) ?_
  refine lv_iconst (v := (2 : Int32)) hx hb dL_law_542 (by decide) ?_
  refine lv_iadd hx hb dL_law_543 ?_
  refine va_sld hx hb hX hbl hbA hw.2.2.2.1 (l_in (k := 2) hj hL (by decide) (by decide)) dL_law_544 ?_
  refine lv_aload_n hx hb dL_law_545 rfl (lv_at hl 0 rfl) ?_
  refine lv_iload_n hx hb dL_law_546 rfl (lv_at hl 3 rfl) ?_
  refine lv_iconst (v := (3 : Int32)) hx hb dL_law_547 (by decide) ?_
  refine lv_iadd hx hb dL_law_548 ?_
  refine va_sld hx hb hX hbl hbA hw.2.2.2.1 (l_in (k := 3) hj hL (by decide) (by decide)) dL_law_549 ?_
  refine lv_aload_n hx hb dL_law_550 rfl (lv_at hl 0 rfl) ?_
  refine lv_iload_n hx hb dL_law_551 rfl (lv_at hl 3 rfl) ?_
  refine lv_iconst (v := (4 : Int32)) hx hb dL_law_552 (by decide) ?_
  refine lv_iadd hx hb dL_law_553 ?_
  refine va_sld hx hb hX hbl hbA hw.2.2.2.1 (l_in (k := 4) hj hL (by decide) (by decide)) dL_law_554 ?_
  refine l_cI F hw hl.1 (As := [.int (xs (nI j + (1 : Int32)).toNatClampNeg), .int (xs (nI j + (2 : Int32)).toNatClampNeg), .int (xs (nI j + (3 : Int32)).toNatClampNeg), .int (xs (nI j + (4 : Int32)).toNatClampNeg)]) (rest := []) (ztX11_rampAt l D cy shC adc l_kC h1) zyX11_rampAt zkL_58 ⟨rfl, rfl⟩ ⟨Nat.le_of_ble_eq_true rfl, Nat.le_of_ble_eq_true rfl⟩ rfl rfl (Nat.le_of_ble_eq_true rfl) dL_law_555 rfl (fun H locs hw => ?_)
  refine lv_aload_n hx hb dL_law_558 rfl (lv_at hl 2 rfl) ?_
  refine lv_aload_n hx hb dL_law_559 rfl (lv_at hl 0 rfl) ?_
  refine lv_iload_n hx hb dL_law_560 rfl (lv_at hl 3 rfl) ?_
  refine lv_iconst (v := (1 : Int32)) hx hb dL_law_561 (by decide) ?_
  refine lv_iadd hx hb dL_law_562 ?_
  refine va_sld hx hb hX hbl hbA hw.2.2.2.1 (l_in (k := 1) hj hL (by decide) (by decide)) dL_law_563 ?_
  refine lv_aload_n hx hb dL_law_564 rfl (lv_at hl 0 rfl) ?_
  refine lv_iload_n hx hb dL_law_565 rfl (lv_at hl 3 rfl) ?_
  refine lv_iconst (v := (2 : Int32)) hx hb dL_law_566 (by decide) ?_
  refine lv_iadd hx hb dL_law_567 ?_
  refine va_sld hx hb hX hbl hbA hw.2.2.2.1 (l_in (k := 2) hj hL (by decide) (by decide)) dL_law_568 ?_
  refine lv_aload_n hx hb dL_law_569 rfl (lv_at hl 0 rfl) ?_
  refine lv_iload_n hx hb dL_law_570 rfl (lv_at hl 3 rfl) ?_
  refine lv_iconst (v := (3 : Int32)) hx hb dL_law_571 (by decide) ?_
  refine lv_iadd hx hb dL_law_572 ?_
  refine va_sld hx hb hX hbl hbA hw.2.2.2.1 (l_in (k := 3) hj hL (by decide) (by decide)) dL_law_573 ?_
  refine lv_aload_n hx hb dL_law_574 rfl (lv_at hl 0 rfl) ?_
  refine lv_iload_n hx hb dL_law_575 rfl (lv_at hl 3 rfl) ?_
  refine lv_iconst (v := (4 : Int32)) hx hb dL_law_576 (by decide) ?_
  refine lv_iadd hx hb dL_law_577 ?_
  refine va_sld hx hb hX hbl hbA hw.2.2.2.1 (l_in (k := 4) hj hL (by decide) (by decide)) dL_law_578 ?_
  refine l_mI F hw hl.1 (As := [.int (xs (nI j + (1 : Int32)).toNatClampNeg), .int (xs (nI j + (2 : Int32)).toNatClampNeg), .int (xs (nI j + (3 : Int32)).toNatClampNeg), .int (xs (nI j + (4 : Int32)).toNatClampNeg)]) (rest := [.int r]) (ztX12_rampAt l D cy shM adm l_kM h2) zyX12_rampAt zkL_61 ⟨rfl, rfl⟩ ⟨Nat.le_of_ble_eq_true rfl, Nat.le_of_ble_eq_true rfl⟩ rfl rfl (Nat.le_of_ble_eq_true rfl) dL_law_579 rfl (fun H locs hw => ?_)
  refine lv_icmp_eq (tgt := 1798) hx hb dL_law_582 (by decide) (fun _ => ?_) (fun c1 => absurd rfl c1)
  exact kk _ _ _ _ hI1 hw
def B_path (Inv : Nat → zMem → zMem → Prop) : Prop := ∀ (n : Nat) (M N : zMem) (v1 v2 v3 v4 : Int32), n < 512 → Inv n M N → ∃ (r : Int32) (M1 N1 : zMem), zX11_path shC 0 v1 v2 v3 v4 M = some (r, M1) ∧ zX12_path shM 0 v1 v2 v3 v4 N = some (r, N1) ∧ Inv (n + 1) M1 N1
set_option maxHeartbeats 4000000 in
set_option maxRecDepth 100000 in
theorem lc_path {p : Program} {l : Launch} {e : Env} {s : State} {m : MethodId} {below : List Frame} {meth : Method} {c : Code} {D : va_G} {cy : Nat → ClassId} {b L j n : Nat} {xs : Nat → Int32} {adc adm : Nat → Nat} {M N : zMem} {H : Heap} {locs : List Loc} {ls : Array Slot} {Q : State → Prop} {Inv : Nat → zMem → zMem → Prop} (hB : B_path Inv) (F : zFx D cy p m c cL_law 4 s #[Value.ref b] RL) (hX : va_X b L xs s s.heap) (hbl : b < s.heap.size) (hj : j + 7 ≤ L) (hL : L ≤ 3584) (hn : n < 512) (hI : Inv n M N) (hw : lwd D cy adc adm s M N H locs) (hl : lv_has ls 4 [(0, .ref b), (1, .ref (adc 0)), (2, .ref (adm 0)), (3, .int (nI j))]) (kk : ∀ (M1 N1 : zMem) (H1 : Heap) (locs1 : List Loc), Inv (n + 1) M1 N1 → lwd D cy adc adm s M1 N1 H1 locs1 → W p l e room_1 s m #[Value.ref b] below meth c H1 locs1 lCells lSlots Q (F0 m 1798 ls [])) : W p l e room_1 s m #[Value.ref b] below meth c H locs lCells lSlots Q (F0 m 587 ls []) := by
  have hx := F.1.1
  have hb := F.1.2.1
  have hbA : ¬ s.heap.size ≤ b := Nat.not_le.mpr hbl
  obtain ⟨r, M1, N1, h1, h2, hI1⟩ := hB n M N (xs (nI j + (1 : Int32)).toNatClampNeg) (xs (nI j + (2 : Int32)).toNatClampNeg) (xs (nI j + (3 : Int32)).toNatClampNeg) (xs (nI j + (4 : Int32)).toNatClampNeg) hn hI
  refine lv_aload_n hx hb dL_law_587 rfl (lv_at hl 1 rfl) ?_
  refine lv_aload_n hx hb dL_law_588 rfl (lv_at hl 0 rfl) ?_
  refine lv_iload_n hx hb dL_law_589 rfl (lv_at hl 3 rfl) ?_
  refine lv_iconst (v := (1 : Int32)) hx hb dL_law_590 (by decide) ?_
  refine lv_iadd hx hb dL_law_591 ?_
  refine va_sld hx hb hX hbl hbA hw.2.2.2.1 (l_in (k := 1) hj hL (by decide) (by decide)) dL_law_592 ?_
  refine lv_aload_n hx hb dL_law_593 rfl (lv_at hl 0 rfl) ?_
  refine lv_iload_n hx hb dL_law_594 rfl (lv_at hl 3 rfl) ?_
  refine lv_iconst (v := (2 : Int32)) hx hb dL_law_595 (by decide) ?_
  refine lv_iadd hx hb dL_law_596 ?_
  refine va_sld hx hb hX hbl hbA hw.2.2.2.1 (l_in (k := 2) hj hL (by decide) (by decide)) dL_law_597 ?_
  refine lv_aload_n hx hb dL_law_598 rfl (lv_at hl 0 rfl) ?_
  refine lv_iload_n hx hb dL_law_599 rfl (lv_at hl 3 rfl) ?_
  refine lv_iconst (v := (3 : Int32)) hx hb dL_law_600 (by decide) ?_
  refine lv_iadd hx hb dL_law_601 ?_
  refine va_sld hx hb hX hbl hbA hw.2.2.2.1 (l_in (k := 3) hj hL (by decide) (by decide)) dL_law_602 ?_
  refine lv_aload_n hx hb dL_law_603 rfl (lv_at hl 0 rfl) ?_
  refine lv_iload_n hx hb dL_law_604 rfl (lv_at hl 3 rfl) ?_
  refine lv_iconst (v := (4 : Int32)) hx hb dL_law_605 (by decide) ?_
  refine lv_iadd hx hb dL_law_606 ?_
  refine va_sld hx hb hX hbl hbA hw.2.2.2.1 (l_in (k := 4) hj hL (by decide) (by decide)) dL_law_607 ?_
  refine l_cI F hw hl.1 (As := [.int (xs (nI j + (1 : Int32)).toNatClampNeg), .int (xs (nI j + (2 : Int32)).toNatClampNeg), .int (xs (nI j + (3 : Int32)).toNatClampNeg), .int (xs (nI j + (4 : Int32)).toNatClampNeg)]) (rest := []) (ztX11_path l D cy shC adc l_kC h1) zyX11_path zkL_62 ⟨rfl, rfl⟩ ⟨Nat.le_of_ble_eq_true rfl, Nat.le_of_ble_eq_true rfl⟩ rfl rfl (Nat.le_of_ble_eq_true rfl) dL_law_608 rfl (fun H locs hw => ?_)
  refine lv_aload_n hx hb dL_law_611 rfl (lv_at hl 2 rfl) ?_
  refine lv_aload_n hx hb dL_law_612 rfl (lv_at hl 0 rfl) ?_
  refine lv_iload_n hx hb dL_law_613 rfl (lv_at hl 3 rfl) ?_
  refine lv_iconst (v := (1 : Int32)) hx hb dL_law_614 (by decide) ?_
  refine lv_iadd hx hb dL_law_615 ?_
  refine va_sld hx hb hX hbl hbA hw.2.2.2.1 (l_in (k := 1) hj hL (by decide) (by decide)) dL_law_616 ?_
  refine lv_aload_n hx hb dL_law_617 rfl (lv_at hl 0 rfl) ?_
  refine lv_iload_n hx hb dL_law_618 rfl (lv_at hl 3 rfl) ?_
  refine lv_iconst (v := (2 : Int32)) hx hb dL_law_619 (by decide) ?_
  refine lv_iadd hx hb dL_law_620 ?_
  refine va_sld hx hb hX hbl hbA hw.2.2.2.1 (l_in (k := 2) hj hL (by decide) (by decide)) dL_law_621 ?_
  refine lv_aload_n hx hb dL_law_622 rfl (lv_at hl 0 rfl) ?_
  refine lv_iload_n hx hb dL_law_623 rfl (lv_at hl 3 rfl) ?_
  refine lv_iconst (v := (3 : Int32)) hx hb dL_law_624 (by decide) ?_
  refine lv_iadd hx hb dL_law_625 ?_
  refine va_sld hx hb hX hbl hbA hw.2.2.2.1 (l_in (k := 3) hj hL (by decide) (by decide)) dL_law_626 ?_
  refine lv_aload_n hx hb dL_law_627 rfl (lv_at hl 0 rfl) ?_
  refine lv_iload_n hx hb dL_law_628 rfl (lv_at hl 3 rfl) ?_
  refine lv_iconst (v := (4 : Int32)) hx hb dL_law_629 (by decide) ?_
  refine lv_iadd hx hb dL_law_630 ?_
  refine va_sld hx hb hX hbl hbA hw.2.2.2.1 (l_in (k := 4) hj hL (by decide) (by decide)) dL_law_631 ?_
  refine l_mI F hw hl.1 (As := [.int (xs (nI j + (1 : Int32)).toNatClampNeg), .int (xs (nI j + (2 : Int32)).toNatClampNeg), .int (xs (nI j + (3 : Int32)).toNatClampNeg), .int (xs (nI j + (4 : Int32)).toNatClampNeg)]) (rest := [.int r]) (ztX12_path l D cy shM adm l_kM h2) zyX12_path zkL_65 ⟨rfl, rfl⟩ ⟨Nat.le_of_ble_eq_true rfl, Nat.le_of_ble_eq_true rfl⟩ rfl rfl (Nat.le_of_ble_eq_true rfl) dL_law_632 rfl (fun H locs hw => ?_)
  refine lv_icmp_eq (tgt := 1798) hx hb dL_law_635 (by decide) (fun _ => ?_) (fun c1 => absurd rfl c1)
  exact kk _ _ _ _ hI1 hw
def B_pathAt (Inv : Nat → zMem → zMem → Prop) : Prop := ∀ (n : Nat) (M N : zMem) (v1 v2 v3 v4 v5 : Int32), n < 512 → Inv n M N → ∃ (r : Int32) (M1 N1 : zMem), zX11_pathAt shC 0 v1 v2 v3 v4 v5 M = some (r, M1) ∧ zX12_pathAt shM 0 v1 v2 v3 v4 v5 N = some (r, N1) ∧ Inv (n + 1) M1 N1
set_option maxHeartbeats 4000000 in
set_option maxRecDepth 100000 in
theorem lc_pathAt {p : Program} {l : Launch} {e : Env} {s : State} {m : MethodId} {below : List Frame} {meth : Method} {c : Code} {D : va_G} {cy : Nat → ClassId} {b L j n : Nat} {xs : Nat → Int32} {adc adm : Nat → Nat} {M N : zMem} {H : Heap} {locs : List Loc} {ls : Array Slot} {Q : State → Prop} {Inv : Nat → zMem → zMem → Prop} (hB : B_pathAt Inv) (F : zFx D cy p m c cL_law 4 s #[Value.ref b] RL) (hX : va_X b L xs s s.heap) (hbl : b < s.heap.size) (hj : j + 7 ≤ L) (hL : L ≤ 3584) (hn : n < 512) (hI : Inv n M N) (hw : lwd D cy adc adm s M N H locs) (hl : lv_has ls 4 [(0, .ref b), (1, .ref (adc 0)), (2, .ref (adm 0)), (3, .int (nI j))]) (kk : ∀ (M1 N1 : zMem) (H1 : Heap) (locs1 : List Loc), Inv (n + 1) M1 N1 → lwd D cy adc adm s M1 N1 H1 locs1 → W p l e room_1 s m #[Value.ref b] below meth c H1 locs1 lCells lSlots Q (F0 m 1798 ls [])) : W p l e room_1 s m #[Value.ref b] below meth c H locs lCells lSlots Q (F0 m 640 ls []) := by
  have hx := F.1.1
  have hb := F.1.2.1
  have hbA : ¬ s.heap.size ≤ b := Nat.not_le.mpr hbl
  obtain ⟨r, M1, N1, h1, h2, hI1⟩ := hB n M N (xs (nI j + (1 : Int32)).toNatClampNeg) (xs (nI j + (2 : Int32)).toNatClampNeg) (xs (nI j + (3 : Int32)).toNatClampNeg) (xs (nI j + (4 : Int32)).toNatClampNeg) (xs (nI j + (5 : Int32)).toNatClampNeg) hn hI
  refine lv_aload_n hx hb dL_law_640 rfl (lv_at hl 1 rfl) ?_
  refine lv_aload_n hx hb dL_law_641 rfl (lv_at hl 0 rfl) ?_
  refine lv_iload_n hx hb dL_law_642 rfl (lv_at hl 3 rfl) ?_
  refine lv_iconst (v := (1 : Int32)) hx hb dL_law_643 (by decide) ?_
  refine lv_iadd hx hb dL_law_644 ?_
  refine va_sld hx hb hX hbl hbA hw.2.2.2.1 (l_in (k := 1) hj hL (by decide) (by decide)) dL_law_645 ?_
  refine lv_aload_n hx hb dL_law_646 rfl (lv_at hl 0 rfl) ?_
  refine lv_iload_n hx hb dL_law_647 rfl (lv_at hl 3 rfl) ?_
  refine lv_iconst (v := (2 : Int32)) hx hb dL_law_648 (by decide) ?_
  refine lv_iadd hx hb dL_law_649 ?_
  refine va_sld hx hb hX hbl hbA hw.2.2.2.1 (l_in (k := 2) hj hL (by decide) (by decide)) dL_law_650 ?_
  refine lv_aload_n hx hb dL_law_651 rfl (lv_at hl 0 rfl) ?_
  refine lv_iload_n hx hb dL_law_652 rfl (lv_at hl 3 rfl) ?_
  refine lv_iconst (v := (3 : Int32)) hx hb dL_law_653 (by decide) ?_
  refine lv_iadd hx hb dL_law_654 ?_
  refine va_sld hx hb hX hbl hbA hw.2.2.2.1 (l_in (k := 3) hj hL (by decide) (by decide)) dL_law_655 ?_
  refine lv_aload_n hx hb dL_law_656 rfl (lv_at hl 0 rfl) ?_
  refine lv_iload_n hx hb dL_law_657 rfl (lv_at hl 3 rfl) ?_
  refine lv_iconst (v := (4 : Int32)) hx hb dL_law_658 (by decide) ?_
  refine lv_iadd hx hb dL_law_659 ?_
  refine va_sld hx hb hX hbl hbA hw.2.2.2.1 (l_in (k := 4) hj hL (by decide) (by decide)) dL_law_660 ?_
  refine lv_aload_n hx hb dL_law_661 rfl (lv_at hl 0 rfl) ?_
  refine lv_iload_n hx hb dL_law_662 rfl (lv_at hl 3 rfl) ?_
  refine lv_iconst (v := (5 : Int32)) hx hb dL_law_663 (by decide) ?_
  refine lv_iadd hx hb dL_law_664 ?_
  refine va_sld hx hb hX hbl hbA hw.2.2.2.1 (l_in (k := 5) hj hL (by decide) (by decide)) dL_law_665 ?_
  refine l_cI F hw hl.1 (As := [.int (xs (nI j + (1 : Int32)).toNatClampNeg), .int (xs (nI j + (2 : Int32)).toNatClampNeg), .int (xs (nI j + (3 : Int32)).toNatClampNeg), .int (xs (nI j + (4 : Int32)).toNatClampNeg), .int (xs (nI j + (5 : Int32)).toNatClampNeg)]) (rest := []) (ztX11_pathAt l D cy shC adc l_kC h1) zyX11_pathAt zkL_66 ⟨rfl, rfl⟩ ⟨Nat.le_of_ble_eq_true rfl, Nat.le_of_ble_eq_true rfl⟩ rfl rfl (Nat.le_of_ble_eq_true rfl) dL_law_666 rfl (fun H locs hw => ?_)
  refine lv_aload_n hx hb dL_law_669 rfl (lv_at hl 2 rfl) ?_
  refine lv_aload_n hx hb dL_law_670 rfl (lv_at hl 0 rfl) ?_
  refine lv_iload_n hx hb dL_law_671 rfl (lv_at hl 3 rfl) ?_
  refine lv_iconst (v := (1 : Int32)) hx hb dL_law_672 (by decide) ?_
  refine lv_iadd hx hb dL_law_673 ?_
  refine va_sld hx hb hX hbl hbA hw.2.2.2.1 (l_in (k := 1) hj hL (by decide) (by decide)) dL_law_674 ?_
  refine lv_aload_n hx hb dL_law_675 rfl (lv_at hl 0 rfl) ?_
  refine lv_iload_n hx hb dL_law_676 rfl (lv_at hl 3 rfl) ?_
  refine lv_iconst (v := (2 : Int32)) hx hb dL_law_677 (by decide) ?_
  refine lv_iadd hx hb dL_law_678 ?_
  refine va_sld hx hb hX hbl hbA hw.2.2.2.1 (l_in (k := 2) hj hL (by decide) (by decide)) dL_law_679 ?_
  refine lv_aload_n hx hb dL_law_680 rfl (lv_at hl 0 rfl) ?_
  refine lv_iload_n hx hb dL_law_681 rfl (lv_at hl 3 rfl) ?_
  refine lv_iconst (v := (3 : Int32)) hx hb dL_law_682 (by decide) ?_
  refine lv_iadd hx hb dL_law_683 ?_
  refine va_sld hx hb hX hbl hbA hw.2.2.2.1 (l_in (k := 3) hj hL (by decide) (by decide)) dL_law_684 ?_
  refine lv_aload_n hx hb dL_law_685 rfl (lv_at hl 0 rfl) ?_
  refine lv_iload_n hx hb dL_law_686 rfl (lv_at hl 3 rfl) ?_
  refine lv_iconst (v := (4 : Int32)) hx hb dL_law_687 (by decide) ?_
  refine lv_iadd hx hb dL_law_688 ?_
  refine va_sld hx hb hX hbl hbA hw.2.2.2.1 (l_in (k := 4) hj hL (by decide) (by decide)) dL_law_689 ?_
  refine lv_aload_n hx hb dL_law_690 rfl (lv_at hl 0 rfl) ?_
  refine lv_iload_n hx hb dL_law_691 rfl (lv_at hl 3 rfl) ?_
  refine lv_iconst (v := (5 : Int32)) hx hb dL_law_692 (by decide) ?_
  refine lv_iadd hx hb dL_law_693 ?_
  refine va_sld hx hb hX hbl hbA hw.2.2.2.1 (l_in (k := 5) hj hL (by decide) (by decide)) dL_law_694 ?_
  refine l_mI F hw hl.1 (As := [.int (xs (nI j + (1 : Int32)).toNatClampNeg), .int (xs (nI j + (2 : Int32)).toNatClampNeg), .int (xs (nI j + (3 : Int32)).toNatClampNeg), .int (xs (nI j + (4 : Int32)).toNatClampNeg), .int (xs (nI j + (5 : Int32)).toNatClampNeg)]) (rest := [.int r]) (ztX12_pathAt l D cy shM adm l_kM h2) zyX12_pathAt zkL_69 ⟨rfl, rfl⟩ ⟨Nat.le_of_ble_eq_true rfl, Nat.le_of_ble_eq_true rfl⟩ rfl rfl (Nat.le_of_ble_eq_true rfl) dL_law_695 rfl (fun H locs hw => ?_)
  refine lv_icmp_eq (tgt := 1798) hx hb dL_law_698 (by decide) (fun _ => ?_) (fun c1 => absurd rfl c1)
  exact kk _ _ _ _ hI1 hw
def B_stamp (Inv : Nat → zMem → zMem → Prop) : Prop := ∀ (n : Nat) (M N : zMem) (v1 v2 v3 v4 v5 : Int32), n < 512 → Inv n M N → ∃ (r : Int32) (M1 N1 : zMem), zX11_stamp shC 0 v1 v2 v3 v4 v5 M = some (r, M1) ∧ zX12_stamp shM 0 v1 v2 v3 v4 v5 N = some (r, N1) ∧ Inv (n + 1) M1 N1
set_option maxHeartbeats 4000000 in
set_option maxRecDepth 100000 in
theorem lc_stamp {p : Program} {l : Launch} {e : Env} {s : State} {m : MethodId} {below : List Frame} {meth : Method} {c : Code} {D : va_G} {cy : Nat → ClassId} {b L j n : Nat} {xs : Nat → Int32} {adc adm : Nat → Nat} {M N : zMem} {H : Heap} {locs : List Loc} {ls : Array Slot} {Q : State → Prop} {Inv : Nat → zMem → zMem → Prop} (hB : B_stamp Inv) (F : zFx D cy p m c cL_law 4 s #[Value.ref b] RL) (hX : va_X b L xs s s.heap) (hbl : b < s.heap.size) (hj : j + 7 ≤ L) (hL : L ≤ 3584) (hn : n < 512) (hI : Inv n M N) (hw : lwd D cy adc adm s M N H locs) (hl : lv_has ls 4 [(0, .ref b), (1, .ref (adc 0)), (2, .ref (adm 0)), (3, .int (nI j))]) (kk : ∀ (M1 N1 : zMem) (H1 : Heap) (locs1 : List Loc), Inv (n + 1) M1 N1 → lwd D cy adc adm s M1 N1 H1 locs1 → W p l e room_1 s m #[Value.ref b] below meth c H1 locs1 lCells lSlots Q (F0 m 1798 ls [])) : W p l e room_1 s m #[Value.ref b] below meth c H locs lCells lSlots Q (F0 m 703 ls []) := by
  have hx := F.1.1
  have hb := F.1.2.1
  have hbA : ¬ s.heap.size ≤ b := Nat.not_le.mpr hbl
  obtain ⟨r, M1, N1, h1, h2, hI1⟩ := hB n M N (xs (nI j + (1 : Int32)).toNatClampNeg) (xs (nI j + (2 : Int32)).toNatClampNeg) (xs (nI j + (3 : Int32)).toNatClampNeg) (xs (nI j + (4 : Int32)).toNatClampNeg) (xs (nI j + (5 : Int32)).toNatClampNeg) hn hI
  refine lv_aload_n hx hb dL_law_703 rfl (lv_at hl 1 rfl) ?_
  refine lv_aload_n hx hb dL_law_704 rfl (lv_at hl 0 rfl) ?_
  refine lv_iload_n hx hb dL_law_705 rfl (lv_at hl 3 rfl) ?_
  refine lv_iconst (v := (1 : Int32)) hx hb dL_law_706 (by decide) ?_
  refine lv_iadd hx hb dL_law_707 ?_
  refine va_sld hx hb hX hbl hbA hw.2.2.2.1 (l_in (k := 1) hj hL (by decide) (by decide)) dL_law_708 ?_
  refine lv_aload_n hx hb dL_law_709 rfl (lv_at hl 0 rfl) ?_
  refine lv_iload_n hx hb dL_law_710 rfl (lv_at hl 3 rfl) ?_
  refine lv_iconst (v := (2 : Int32)) hx hb dL_law_711 (by decide) ?_
  refine lv_iadd hx hb dL_law_712 ?_
  refine va_sld hx hb hX hbl hbA hw.2.2.2.1 (l_in (k := 2) hj hL (by decide) (by decide)) dL_law_713 ?_
  refine lv_aload_n hx hb dL_law_714 rfl (lv_at hl 0 rfl) ?_
  refine lv_iload_n hx hb dL_law_715 rfl (lv_at hl 3 rfl) ?_
  refine lv_iconst (v := (3 : Int32)) hx hb dL_law_716 (by decide) ?_
  refine lv_iadd hx hb dL_law_717 ?_
  refine va_sld hx hb hX hbl hbA hw.2.2.2.1 (l_in (k := 3) hj hL (by decide) (by decide)) dL_law_718 ?_
  refine lv_aload_n hx hb dL_law_719 rfl (lv_at hl 0 rfl) ?_
  refine lv_iload_n hx hb dL_law_720 rfl (lv_at hl 3 rfl) ?_
  refine lv_iconst (v := (4 : Int32)) hx hb dL_law_721 (by decide) ?_
  refine lv_iadd hx hb dL_law_722 ?_
  refine va_sld hx hb hX hbl hbA hw.2.2.2.1 (l_in (k := 4) hj hL (by decide) (by decide)) dL_law_723 ?_
  refine lv_aload_n hx hb dL_law_724 rfl (lv_at hl 0 rfl) ?_
  refine lv_iload_n hx hb dL_law_725 rfl (lv_at hl 3 rfl) ?_
  refine lv_iconst (v := (5 : Int32)) hx hb dL_law_726 (by decide) ?_
  refine lv_iadd hx hb dL_law_727 ?_
  refine va_sld hx hb hX hbl hbA hw.2.2.2.1 (l_in (k := 5) hj hL (by decide) (by decide)) dL_law_728 ?_
  refine l_cI F hw hl.1 (As := [.int (xs (nI j + (1 : Int32)).toNatClampNeg), .int (xs (nI j + (2 : Int32)).toNatClampNeg), .int (xs (nI j + (3 : Int32)).toNatClampNeg), .int (xs (nI j + (4 : Int32)).toNatClampNeg), .int (xs (nI j + (5 : Int32)).toNatClampNeg)]) (rest := []) (ztX11_stamp l D cy shC adc l_kC h1) zyX11_stamp zkL_70 ⟨rfl, rfl⟩ ⟨Nat.le_of_ble_eq_true rfl, Nat.le_of_ble_eq_true rfl⟩ rfl rfl (Nat.le_of_ble_eq_true rfl) dL_law_729 rfl (fun H locs hw => ?_)
  refine lv_aload_n hx hb dL_law_732 rfl (lv_at hl 2 rfl) ?_
  refine lv_aload_n hx hb dL_law_733 rfl (lv_at hl 0 rfl) ?_
  refine lv_iload_n hx hb dL_law_734 rfl (lv_at hl 3 rfl) ?_
  refine lv_iconst (v := (1 : Int32)) hx hb dL_law_735 (by decide) ?_
  refine lv_iadd hx hb dL_law_736 ?_
  refine va_sld hx hb hX hbl hbA hw.2.2.2.1 (l_in (k := 1) hj hL (by decide) (by decide)) dL_law_737 ?_
  refine lv_aload_n hx hb dL_law_738 rfl (lv_at hl 0 rfl) ?_
  refine lv_iload_n hx hb dL_law_739 rfl (lv_at hl 3 rfl) ?_
  refine lv_iconst (v := (2 : Int32)) hx hb dL_law_740 (by decide) ?_
  refine lv_iadd hx hb dL_law_741 ?_
  refine va_sld hx hb hX hbl hbA hw.2.2.2.1 (l_in (k := 2) hj hL (by decide) (by decide)) dL_law_742 ?_
  refine lv_aload_n hx hb dL_law_743 rfl (lv_at hl 0 rfl) ?_
  refine lv_iload_n hx hb dL_law_744 rfl (lv_at hl 3 rfl) ?_
  refine lv_iconst (v := (3 : Int32)) hx hb dL_law_745 (by decide) ?_
  refine lv_iadd hx hb dL_law_746 ?_
  refine va_sld hx hb hX hbl hbA hw.2.2.2.1 (l_in (k := 3) hj hL (by decide) (by decide)) dL_law_747 ?_
  refine lv_aload_n hx hb dL_law_748 rfl (lv_at hl 0 rfl) ?_
  refine lv_iload_n hx hb dL_law_749 rfl (lv_at hl 3 rfl) ?_
  refine lv_iconst (v := (4 : Int32)) hx hb dL_law_750 (by decide) ?_
  refine lv_iadd hx hb dL_law_751 ?_
  refine va_sld hx hb hX hbl hbA hw.2.2.2.1 (l_in (k := 4) hj hL (by decide) (by decide)) dL_law_752 ?_
  refine lv_aload_n hx hb dL_law_753 rfl (lv_at hl 0 rfl) ?_
  refine lv_iload_n hx hb dL_law_754 rfl (lv_at hl 3 rfl) ?_
  refine lv_iconst (v := (5 : Int32)) hx hb dL_law_755 (by decide) ?_
  refine lv_iadd hx hb dL_law_756 ?_
  refine va_sld hx hb hX hbl hbA hw.2.2.2.1 (l_in (k := 5) hj hL (by decide) (by decide)) dL_law_757 ?_
  refine l_mI F hw hl.1 (As := [.int (xs (nI j + (1 : Int32)).toNatClampNeg), .int (xs (nI j + (2 : Int32)).toNatClampNeg), .int (xs (nI j + (3 : Int32)).toNatClampNeg), .int (xs (nI j + (4 : Int32)).toNatClampNeg), .int (xs (nI j + (5 : Int32)).toNatClampNeg)]) (rest := [.int r]) (ztX12_stamp l D cy shM adm l_kM h2) zyX12_stamp zkL_73 ⟨rfl, rfl⟩ ⟨Nat.le_of_ble_eq_true rfl, Nat.le_of_ble_eq_true rfl⟩ rfl rfl (Nat.le_of_ble_eq_true rfl) dL_law_758 rfl (fun H locs hw => ?_)
  refine lv_icmp_eq (tgt := 1798) hx hb dL_law_761 (by decide) (fun _ => ?_) (fun c1 => absurd rfl c1)
  exact kk _ _ _ _ hI1 hw
def B_peak (Inv : Nat → zMem → zMem → Prop) : Prop := ∀ (n : Nat) (M N : zMem) (v1 v2 v3 v4 : Int32), n < 512 → Inv n M N → ∃ (r : Int32) (M1 N1 : zMem), zX11_peak shC 0 v1 v2 v3 v4 M = some (r, M1) ∧ zX12_peak shM 0 v1 v2 v3 v4 N = some (r, N1) ∧ Inv (n + 1) M1 N1
set_option maxHeartbeats 4000000 in
set_option maxRecDepth 100000 in
theorem lc_peak {p : Program} {l : Launch} {e : Env} {s : State} {m : MethodId} {below : List Frame} {meth : Method} {c : Code} {D : va_G} {cy : Nat → ClassId} {b L j n : Nat} {xs : Nat → Int32} {adc adm : Nat → Nat} {M N : zMem} {H : Heap} {locs : List Loc} {ls : Array Slot} {Q : State → Prop} {Inv : Nat → zMem → zMem → Prop} (hB : B_peak Inv) (F : zFx D cy p m c cL_law 4 s #[Value.ref b] RL) (hX : va_X b L xs s s.heap) (hbl : b < s.heap.size) (hj : j + 7 ≤ L) (hL : L ≤ 3584) (hn : n < 512) (hI : Inv n M N) (hw : lwd D cy adc adm s M N H locs) (hl : lv_has ls 4 [(0, .ref b), (1, .ref (adc 0)), (2, .ref (adm 0)), (3, .int (nI j))]) (kk : ∀ (M1 N1 : zMem) (H1 : Heap) (locs1 : List Loc), Inv (n + 1) M1 N1 → lwd D cy adc adm s M1 N1 H1 locs1 → W p l e room_1 s m #[Value.ref b] below meth c H1 locs1 lCells lSlots Q (F0 m 1798 ls [])) : W p l e room_1 s m #[Value.ref b] below meth c H locs lCells lSlots Q (F0 m 766 ls []) := by
  have hx := F.1.1
  have hb := F.1.2.1
  have hbA : ¬ s.heap.size ≤ b := Nat.not_le.mpr hbl
  obtain ⟨r, M1, N1, h1, h2, hI1⟩ := hB n M N (xs (nI j + (1 : Int32)).toNatClampNeg) (xs (nI j + (2 : Int32)).toNatClampNeg) (xs (nI j + (3 : Int32)).toNatClampNeg) (xs (nI j + (4 : Int32)).toNatClampNeg) hn hI
  refine lv_aload_n hx hb dL_law_766 rfl (lv_at hl 1 rfl) ?_
  refine lv_aload_n hx hb dL_law_767 rfl (lv_at hl 0 rfl) ?_
  refine lv_iload_n hx hb dL_law_768 rfl (lv_at hl 3 rfl) ?_
  refine lv_iconst (v := (1 : Int32)) hx hb dL_law_769 (by decide) ?_
  refine lv_iadd hx hb dL_law_770 ?_
  refine va_sld hx hb hX hbl hbA hw.2.2.2.1 (l_in (k := 1) hj hL (by decide) (by decide)) dL_law_771 ?_
  refine lv_aload_n hx hb dL_law_772 rfl (lv_at hl 0 rfl) ?_
  refine lv_iload_n hx hb dL_law_773 rfl (lv_at hl 3 rfl) ?_
  refine lv_iconst (v := (2 : Int32)) hx hb dL_law_774 (by decide) ?_
  refine lv_iadd hx hb dL_law_775 ?_
  refine va_sld hx hb hX hbl hbA hw.2.2.2.1 (l_in (k := 2) hj hL (by decide) (by decide)) dL_law_776 ?_
  refine lv_aload_n hx hb dL_law_777 rfl (lv_at hl 0 rfl) ?_
  refine lv_iload_n hx hb dL_law_778 rfl (lv_at hl 3 rfl) ?_
  refine lv_iconst (v := (3 : Int32)) hx hb dL_law_779 (by decide) ?_
  refine lv_iadd hx hb dL_law_780 ?_
  refine va_sld hx hb hX hbl hbA hw.2.2.2.1 (l_in (k := 3) hj hL (by decide) (by decide)) dL_law_781 ?_
  refine lv_aload_n hx hb dL_law_782 rfl (lv_at hl 0 rfl) ?_
  refine lv_iload_n hx hb dL_law_783 rfl (lv_at hl 3 rfl) ?_
  refine lv_iconst (v := (4 : Int32)) hx hb dL_law_784 (by decide) ?_
  refine lv_iadd hx hb dL_law_785 ?_
  refine va_sld hx hb hX hbl hbA hw.2.2.2.1 (l_in (k := 4) hj hL (by decide) (by decide)) dL_law_786 ?_
  refine l_cI F hw hl.1 (As := [.int (xs (nI j + (1 : Int32)).toNatClampNeg), .int (xs (nI j + (2 : Int32)).toNatClampNeg), .int (xs (nI j + (3 : Int32)).toNatClampNeg), .int (xs (nI j + (4 : Int32)).toNatClampNeg)]) (rest := []) (ztX11_peak l D cy shC adc l_kC h1) zyX11_peak zkL_74 ⟨rfl, rfl⟩ ⟨Nat.le_of_ble_eq_true rfl, Nat.le_of_ble_eq_true rfl⟩ rfl rfl (Nat.le_of_ble_eq_true rfl) dL_law_787 rfl (fun H locs hw => ?_)
  refine lv_aload_n hx hb dL_law_790 rfl (lv_at hl 2 rfl) ?_
  refine lv_aload_n hx hb dL_law_791 rfl (lv_at hl 0 rfl) ?_
  refine lv_iload_n hx hb dL_law_792 rfl (lv_at hl 3 rfl) ?_
  refine lv_iconst (v := (1 : Int32)) hx hb dL_law_793 (by decide) ?_
  refine lv_iadd hx hb dL_law_794 ?_
  refine va_sld hx hb hX hbl hbA hw.2.2.2.1 (l_in (k := 1) hj hL (by decide) (by decide)) dL_law_795 ?_
  refine lv_aload_n hx hb dL_law_796 rfl (lv_at hl 0 rfl) ?_
  refine lv_iload_n hx hb dL_law_797 rfl (lv_at hl 3 rfl) ?_
  refine lv_iconst (v := (2 : Int32)) hx hb dL_law_798 (by decide) ?_
  refine lv_iadd hx hb dL_law_799 ?_
  refine va_sld hx hb hX hbl hbA hw.2.2.2.1 (l_in (k := 2) hj hL (by decide) (by decide)) dL_law_800 ?_
  refine lv_aload_n hx hb dL_law_801 rfl (lv_at hl 0 rfl) ?_
  refine lv_iload_n hx hb dL_law_802 rfl (lv_at hl 3 rfl) ?_
  refine lv_iconst (v := (3 : Int32)) hx hb dL_law_803 (by decide) ?_
  refine lv_iadd hx hb dL_law_804 ?_
  refine va_sld hx hb hX hbl hbA hw.2.2.2.1 (l_in (k := 3) hj hL (by decide) (by decide)) dL_law_805 ?_
  refine lv_aload_n hx hb dL_law_806 rfl (lv_at hl 0 rfl) ?_
  refine lv_iload_n hx hb dL_law_807 rfl (lv_at hl 3 rfl) ?_
  refine lv_iconst (v := (4 : Int32)) hx hb dL_law_808 (by decide) ?_
  refine lv_iadd hx hb dL_law_809 ?_
  refine va_sld hx hb hX hbl hbA hw.2.2.2.1 (l_in (k := 4) hj hL (by decide) (by decide)) dL_law_810 ?_
  refine l_mI F hw hl.1 (As := [.int (xs (nI j + (1 : Int32)).toNatClampNeg), .int (xs (nI j + (2 : Int32)).toNatClampNeg), .int (xs (nI j + (3 : Int32)).toNatClampNeg), .int (xs (nI j + (4 : Int32)).toNatClampNeg)]) (rest := [.int r]) (ztX12_peak l D cy shM adm l_kM h2) zyX12_peak zkL_77 ⟨rfl, rfl⟩ ⟨Nat.le_of_ble_eq_true rfl, Nat.le_of_ble_eq_true rfl⟩ rfl rfl (Nat.le_of_ble_eq_true rfl) dL_law_811 rfl (fun H locs hw => ?_)
  refine lv_icmp_eq (tgt := 1798) hx hb dL_law_814 (by decide) (fun _ => ?_) (fun c1 => absurd rfl c1)
  exact kk _ _ _ _ hI1 hw
def B_needed (Inv : Nat → zMem → zMem → Prop) : Prop := ∀ (n : Nat) (M N : zMem) (v1 v2 v3 : Int32), n < 512 → Inv n M N → ∃ (r : Int32) (M1 N1 : zMem), zX11_needed shC 0 v1 v2 v3 M = some (r, M1) ∧ zX12_needed shM 0 v1 v2 v3 N = some (r, N1) ∧ Inv (n + 1) M1 N1
set_option maxHeartbeats 4000000 in
set_option maxRecDepth 100000 in
theorem lc_needed {p : Program} {l : Launch} {e : Env} {s : State} {m : MethodId} {below : List Frame} {meth : Method} {c : Code} {D : va_G} {cy : Nat → ClassId} {b L j n : Nat} {xs : Nat → Int32} {adc adm : Nat → Nat} {M N : zMem} {H : Heap} {locs : List Loc} {ls : Array Slot} {Q : State → Prop} {Inv : Nat → zMem → zMem → Prop} (hB : B_needed Inv) (F : zFx D cy p m c cL_law 4 s #[Value.ref b] RL) (hX : va_X b L xs s s.heap) (hbl : b < s.heap.size) (hj : j + 7 ≤ L) (hL : L ≤ 3584) (hn : n < 512) (hI : Inv n M N) (hw : lwd D cy adc adm s M N H locs) (hl : lv_has ls 4 [(0, .ref b), (1, .ref (adc 0)), (2, .ref (adm 0)), (3, .int (nI j))]) (kk : ∀ (M1 N1 : zMem) (H1 : Heap) (locs1 : List Loc), Inv (n + 1) M1 N1 → lwd D cy adc adm s M1 N1 H1 locs1 → W p l e room_1 s m #[Value.ref b] below meth c H1 locs1 lCells lSlots Q (F0 m 1798 ls [])) : W p l e room_1 s m #[Value.ref b] below meth c H locs lCells lSlots Q (F0 m 819 ls []) := by
  have hx := F.1.1
  have hb := F.1.2.1
  have hbA : ¬ s.heap.size ≤ b := Nat.not_le.mpr hbl
  obtain ⟨r, M1, N1, h1, h2, hI1⟩ := hB n M N (xs (nI j + (1 : Int32)).toNatClampNeg) (xs (nI j + (2 : Int32)).toNatClampNeg) (xs (nI j + (3 : Int32)).toNatClampNeg) hn hI
  refine lv_aload_n hx hb dL_law_819 rfl (lv_at hl 1 rfl) ?_
  refine lv_aload_n hx hb dL_law_820 rfl (lv_at hl 0 rfl) ?_
  refine lv_iload_n hx hb dL_law_821 rfl (lv_at hl 3 rfl) ?_
  refine lv_iconst (v := (1 : Int32)) hx hb dL_law_822 (by decide) ?_
  refine lv_iadd hx hb dL_law_823 ?_
  refine va_sld hx hb hX hbl hbA hw.2.2.2.1 (l_in (k := 1) hj hL (by decide) (by decide)) dL_law_824 ?_
  refine lv_aload_n hx hb dL_law_825 rfl (lv_at hl 0 rfl) ?_
  refine lv_iload_n hx hb dL_law_826 rfl (lv_at hl 3 rfl) ?_
  refine lv_iconst (v := (2 : Int32)) hx hb dL_law_827 (by decide) ?_
  refine lv_iadd hx hb dL_law_828 ?_
  refine va_sld hx hb hX hbl hbA hw.2.2.2.1 (l_in (k := 2) hj hL (by decide) (by decide)) dL_law_829 ?_
  refine lv_aload_n hx hb dL_law_830 rfl (lv_at hl 0 rfl) ?_
  refine lv_iload_n hx hb dL_law_831 rfl (lv_at hl 3 rfl) ?_
  refine lv_iconst (v := (3 : Int32)) hx hb dL_law_832 (by decide) ?_
  refine lv_iadd hx hb dL_law_833 ?_
  refine va_sld hx hb hX hbl hbA hw.2.2.2.1 (l_in (k := 3) hj hL (by decide) (by decide)) dL_law_834 ?_
  refine l_cI F hw hl.1 (As := [.int (xs (nI j + (1 : Int32)).toNatClampNeg), .int (xs (nI j + (2 : Int32)).toNatClampNeg), .int (xs (nI j + (3 : Int32)).toNatClampNeg)]) (rest := []) (ztX11_needed l D cy shC adc l_kC h1) zyX11_needed zkL_78 ⟨rfl, rfl⟩ ⟨Nat.le_of_ble_eq_true rfl, Nat.le_of_ble_eq_true rfl⟩ rfl rfl (Nat.le_of_ble_eq_true rfl) dL_law_835 rfl (fun H locs hw => ?_)
  refine lv_aload_n hx hb dL_law_838 rfl (lv_at hl 2 rfl) ?_
  refine lv_aload_n hx hb dL_law_839 rfl (lv_at hl 0 rfl) ?_
  refine lv_iload_n hx hb dL_law_840 rfl (lv_at hl 3 rfl) ?_
  refine lv_iconst (v := (1 : Int32)) hx hb dL_law_841 (by decide) ?_
  refine lv_iadd hx hb dL_law_842 ?_
  refine va_sld hx hb hX hbl hbA hw.2.2.2.1 (l_in (k := 1) hj hL (by decide) (by decide)) dL_law_843 ?_
  refine lv_aload_n hx hb dL_law_844 rfl (lv_at hl 0 rfl) ?_
  refine lv_iload_n hx hb dL_law_845 rfl (lv_at hl 3 rfl) ?_
  refine lv_iconst (v := (2 : Int32)) hx hb dL_law_846 (by decide) ?_
  refine lv_iadd hx hb dL_law_847 ?_
  refine va_sld hx hb hX hbl hbA hw.2.2.2.1 (l_in (k := 2) hj hL (by decide) (by decide)) dL_law_848 ?_
  refine lv_aload_n hx hb dL_law_849 rfl (lv_at hl 0 rfl) ?_
  refine lv_iload_n hx hb dL_law_850 rfl (lv_at hl 3 rfl) ?_
  refine lv_iconst (v := (3 : Int32)) hx hb dL_law_851 (by decide) ?_
  refine lv_iadd hx hb dL_law_852 ?_
  refine va_sld hx hb hX hbl hbA hw.2.2.2.1 (l_in (k := 3) hj hL (by decide) (by decide)) dL_law_853 ?_
  refine l_mI F hw hl.1 (As := [.int (xs (nI j + (1 : Int32)).toNatClampNeg), .int (xs (nI j + (2 : Int32)).toNatClampNeg), .int (xs (nI j + (3 : Int32)).toNatClampNeg)]) (rest := [.int r]) (ztX12_needed l D cy shM adm l_kM h2) zyX12_needed zkL_82 ⟨rfl, rfl⟩ ⟨Nat.le_of_ble_eq_true rfl, Nat.le_of_ble_eq_true rfl⟩ rfl rfl (Nat.le_of_ble_eq_true rfl) dL_law_854 rfl (fun H locs hw => ?_)
  refine lv_icmp_eq (tgt := 1798) hx hb dL_law_857 (by decide) (fun _ => ?_) (fun c1 => absurd rfl c1)
  exact kk _ _ _ _ hI1 hw
def B_most (Inv : Nat → zMem → zMem → Prop) : Prop := ∀ (n : Nat) (M N : zMem) (v1 v2 v3 v4 : Int32), n < 512 → Inv n M N → ∃ (r : Int32) (M1 N1 : zMem), zX11_most shC 0 v1 v2 v3 v4 M = some (r, M1) ∧ zX12_most shM 0 v1 v2 v3 v4 N = some (r, N1) ∧ Inv (n + 1) M1 N1
set_option maxHeartbeats 4000000 in
set_option maxRecDepth 100000 in
theorem lc_most {p : Program} {l : Launch} {e : Env} {s : State} {m : MethodId} {below : List Frame} {meth : Method} {c : Code} {D : va_G} {cy : Nat → ClassId} {b L j n : Nat} {xs : Nat → Int32} {adc adm : Nat → Nat} {M N : zMem} {H : Heap} {locs : List Loc} {ls : Array Slot} {Q : State → Prop} {Inv : Nat → zMem → zMem → Prop} (hB : B_most Inv) (F : zFx D cy p m c cL_law 4 s #[Value.ref b] RL) (hX : va_X b L xs s s.heap) (hbl : b < s.heap.size) (hj : j + 7 ≤ L) (hL : L ≤ 3584) (hn : n < 512) (hI : Inv n M N) (hw : lwd D cy adc adm s M N H locs) (hl : lv_has ls 4 [(0, .ref b), (1, .ref (adc 0)), (2, .ref (adm 0)), (3, .int (nI j))]) (kk : ∀ (M1 N1 : zMem) (H1 : Heap) (locs1 : List Loc), Inv (n + 1) M1 N1 → lwd D cy adc adm s M1 N1 H1 locs1 → W p l e room_1 s m #[Value.ref b] below meth c H1 locs1 lCells lSlots Q (F0 m 1798 ls [])) : W p l e room_1 s m #[Value.ref b] below meth c H locs lCells lSlots Q (F0 m 862 ls []) := by
  have hx := F.1.1
  have hb := F.1.2.1
  have hbA : ¬ s.heap.size ≤ b := Nat.not_le.mpr hbl
  obtain ⟨r, M1, N1, h1, h2, hI1⟩ := hB n M N (xs (nI j + (1 : Int32)).toNatClampNeg) (xs (nI j + (2 : Int32)).toNatClampNeg) (xs (nI j + (3 : Int32)).toNatClampNeg) (xs (nI j + (4 : Int32)).toNatClampNeg) hn hI
  refine lv_aload_n hx hb dL_law_862 rfl (lv_at hl 1 rfl) ?_
  refine lv_aload_n hx hb dL_law_863 rfl (lv_at hl 0 rfl) ?_
  refine lv_iload_n hx hb dL_law_864 rfl (lv_at hl 3 rfl) ?_
  refine lv_iconst (v := (1 : Int32)) hx hb dL_law_865 (by decide) ?_
  refine lv_iadd hx hb dL_law_866 ?_
  refine va_sld hx hb hX hbl hbA hw.2.2.2.1 (l_in (k := 1) hj hL (by decide) (by decide)) dL_law_867 ?_
  refine lv_aload_n hx hb dL_law_868 rfl (lv_at hl 0 rfl) ?_
  refine lv_iload_n hx hb dL_law_869 rfl (lv_at hl 3 rfl) ?_
  refine lv_iconst (v := (2 : Int32)) hx hb dL_law_870 (by decide) ?_
  refine lv_iadd hx hb dL_law_871 ?_
  refine va_sld hx hb hX hbl hbA hw.2.2.2.1 (l_in (k := 2) hj hL (by decide) (by decide)) dL_law_872 ?_
  refine lv_aload_n hx hb dL_law_873 rfl (lv_at hl 0 rfl) ?_
  refine lv_iload_n hx hb dL_law_874 rfl (lv_at hl 3 rfl) ?_
  refine lv_iconst (v := (3 : Int32)) hx hb dL_law_875 (by decide) ?_
  refine lv_iadd hx hb dL_law_876 ?_
  refine va_sld hx hb hX hbl hbA hw.2.2.2.1 (l_in (k := 3) hj hL (by decide) (by decide)) dL_law_877 ?_
  refine lv_aload_n hx hb dL_law_878 rfl (lv_at hl 0 rfl) ?_
  refine lv_iload_n hx hb dL_law_879 rfl (lv_at hl 3 rfl) ?_
  refine lv_iconst (v := (4 : Int32)) hx hb dL_law_880 (by decide) ?_
  refine lv_iadd hx hb dL_law_881 ?_
  refine va_sld hx hb hX hbl hbA hw.2.2.2.1 (l_in (k := 4) hj hL (by decide) (by decide)) dL_law_882 ?_
  refine l_cI F hw hl.1 (As := [.int (xs (nI j + (1 : Int32)).toNatClampNeg), .int (xs (nI j + (2 : Int32)).toNatClampNeg), .int (xs (nI j + (3 : Int32)).toNatClampNeg), .int (xs (nI j + (4 : Int32)).toNatClampNeg)]) (rest := []) (ztX11_most l D cy shC adc l_kC h1) zyX11_most zkL_83 ⟨rfl, rfl⟩ ⟨Nat.le_of_ble_eq_true rfl, Nat.le_of_ble_eq_true rfl⟩ rfl rfl (Nat.le_of_ble_eq_true rfl) dL_law_883 rfl (fun H locs hw => ?_)
  refine lv_aload_n hx hb dL_law_886 rfl (lv_at hl 2 rfl) ?_
  refine lv_aload_n hx hb dL_law_887 rfl (lv_at hl 0 rfl) ?_
  refine lv_iload_n hx hb dL_law_888 rfl (lv_at hl 3 rfl) ?_
  refine lv_iconst (v := (1 : Int32)) hx hb dL_law_889 (by decide) ?_
  refine lv_iadd hx hb dL_law_890 ?_
  refine va_sld hx hb hX hbl hbA hw.2.2.2.1 (l_in (k := 1) hj hL (by decide) (by decide)) dL_law_891 ?_
  refine lv_aload_n hx hb dL_law_892 rfl (lv_at hl 0 rfl) ?_
  refine lv_iload_n hx hb dL_law_893 rfl (lv_at hl 3 rfl) ?_
  refine lv_iconst (v := (2 : Int32)) hx hb dL_law_894 (by decide) ?_
  refine lv_iadd hx hb dL_law_895 ?_
  refine va_sld hx hb hX hbl hbA hw.2.2.2.1 (l_in (k := 2) hj hL (by decide) (by decide)) dL_law_896 ?_
  refine lv_aload_n hx hb dL_law_897 rfl (lv_at hl 0 rfl) ?_
  refine lv_iload_n hx hb dL_law_898 rfl (lv_at hl 3 rfl) ?_
  refine lv_iconst (v := (3 : Int32)) hx hb dL_law_899 (by decide) ?_
  refine lv_iadd hx hb dL_law_900 ?_
  refine va_sld hx hb hX hbl hbA hw.2.2.2.1 (l_in (k := 3) hj hL (by decide) (by decide)) dL_law_901 ?_
  refine lv_aload_n hx hb dL_law_902 rfl (lv_at hl 0 rfl) ?_
  refine lv_iload_n hx hb dL_law_903 rfl (lv_at hl 3 rfl) ?_
  refine lv_iconst (v := (4 : Int32)) hx hb dL_law_904 (by decide) ?_
  refine lv_iadd hx hb dL_law_905 ?_
  refine va_sld hx hb hX hbl hbA hw.2.2.2.1 (l_in (k := 4) hj hL (by decide) (by decide)) dL_law_906 ?_
  refine l_mI F hw hl.1 (As := [.int (xs (nI j + (1 : Int32)).toNatClampNeg), .int (xs (nI j + (2 : Int32)).toNatClampNeg), .int (xs (nI j + (3 : Int32)).toNatClampNeg), .int (xs (nI j + (4 : Int32)).toNatClampNeg)]) (rest := [.int r]) (ztX12_most l D cy shM adm l_kM h2) zyX12_most zkL_86 ⟨rfl, rfl⟩ ⟨Nat.le_of_ble_eq_true rfl, Nat.le_of_ble_eq_true rfl⟩ rfl rfl (Nat.le_of_ble_eq_true rfl) dL_law_907 rfl (fun H locs hw => ?_)
  refine lv_icmp_eq (tgt := 1798) hx hb dL_law_910 (by decide) (fun _ => ?_) (fun c1 => absurd rfl c1)
  exact kk _ _ _ _ hI1 hw
def B_drives (Inv : Nat → zMem → zMem → Prop) : Prop := ∀ (n : Nat) (M N : zMem) (v1 v2 v3 v4 v5 v6 : Int32), n < 512 → Inv n M N → ∃ (r : Int32) (M1 N1 : zMem), zX11_drives shC 0 v1 v2 v3 v4 v5 v6 M = some (r, M1) ∧ zX12_drives shM 0 v1 v2 v3 v4 v5 v6 N = some (r, N1) ∧ Inv (n + 1) M1 N1
set_option maxHeartbeats 4000000 in
set_option maxRecDepth 100000 in
theorem lc_drives {p : Program} {l : Launch} {e : Env} {s : State} {m : MethodId} {below : List Frame} {meth : Method} {c : Code} {D : va_G} {cy : Nat → ClassId} {b L j n : Nat} {xs : Nat → Int32} {adc adm : Nat → Nat} {M N : zMem} {H : Heap} {locs : List Loc} {ls : Array Slot} {Q : State → Prop} {Inv : Nat → zMem → zMem → Prop} (hB : B_drives Inv) (F : zFx D cy p m c cL_law 4 s #[Value.ref b] RL) (hX : va_X b L xs s s.heap) (hbl : b < s.heap.size) (hj : j + 7 ≤ L) (hL : L ≤ 3584) (hn : n < 512) (hI : Inv n M N) (hw : lwd D cy adc adm s M N H locs) (hl : lv_has ls 4 [(0, .ref b), (1, .ref (adc 0)), (2, .ref (adm 0)), (3, .int (nI j))]) (kk : ∀ (M1 N1 : zMem) (H1 : Heap) (locs1 : List Loc), Inv (n + 1) M1 N1 → lwd D cy adc adm s M1 N1 H1 locs1 → W p l e room_1 s m #[Value.ref b] below meth c H1 locs1 lCells lSlots Q (F0 m 1798 ls [])) : W p l e room_1 s m #[Value.ref b] below meth c H locs lCells lSlots Q (F0 m 915 ls []) := by
  have hx := F.1.1
  have hb := F.1.2.1
  have hbA : ¬ s.heap.size ≤ b := Nat.not_le.mpr hbl
  obtain ⟨r, M1, N1, h1, h2, hI1⟩ := hB n M N (xs (nI j + (1 : Int32)).toNatClampNeg) (xs (nI j + (2 : Int32)).toNatClampNeg) (xs (nI j + (3 : Int32)).toNatClampNeg) (xs (nI j + (4 : Int32)).toNatClampNeg) (xs (nI j + (5 : Int32)).toNatClampNeg) (xs (nI j + (6 : Int32)).toNatClampNeg) hn hI
  refine lv_aload_n hx hb dL_law_915 rfl (lv_at hl 1 rfl) ?_
  refine lv_aload_n hx hb dL_law_916 rfl (lv_at hl 0 rfl) ?_
  refine lv_iload_n hx hb dL_law_917 rfl (lv_at hl 3 rfl) ?_
  refine lv_iconst (v := (1 : Int32)) hx hb dL_law_918 (by decide) ?_
  refine lv_iadd hx hb dL_law_919 ?_
  refine va_sld hx hb hX hbl hbA hw.2.2.2.1 (l_in (k := 1) hj hL (by decide) (by decide)) dL_law_920 ?_
  refine lv_aload_n hx hb dL_law_921 rfl (lv_at hl 0 rfl) ?_
  refine lv_iload_n hx hb dL_law_922 rfl (lv_at hl 3 rfl) ?_
  refine lv_iconst (v := (2 : Int32)) hx hb dL_law_923 (by decide) ?_
  refine lv_iadd hx hb dL_law_924 ?_
  refine va_sld hx hb hX hbl hbA hw.2.2.2.1 (l_in (k := 2) hj hL (by decide) (by decide)) dL_law_925 ?_
  refine lv_aload_n hx hb dL_law_926 rfl (lv_at hl 0 rfl) ?_
  refine lv_iload_n hx hb dL_law_927 rfl (lv_at hl 3 rfl) ?_
  refine lv_iconst (v := (3 : Int32)) hx hb dL_law_928 (by decide) ?_
  refine lv_iadd hx hb dL_law_929 ?_
  refine va_sld hx hb hX hbl hbA hw.2.2.2.1 (l_in (k := 3) hj hL (by decide) (by decide)) dL_law_930 ?_
  refine lv_aload_n hx hb dL_law_931 rfl (lv_at hl 0 rfl) ?_
  refine lv_iload_n hx hb dL_law_932 rfl (lv_at hl 3 rfl) ?_
  refine lv_iconst (v := (4 : Int32)) hx hb dL_law_933 (by decide) ?_
  refine lv_iadd hx hb dL_law_934 ?_
  refine va_sld hx hb hX hbl hbA hw.2.2.2.1 (l_in (k := 4) hj hL (by decide) (by decide)) dL_law_935 ?_
  refine lv_aload_n hx hb dL_law_936 rfl (lv_at hl 0 rfl) ?_
  refine lv_iload_n hx hb dL_law_937 rfl (lv_at hl 3 rfl) ?_
  refine lv_iconst (v := (5 : Int32)) hx hb dL_law_938 (by decide) ?_
  refine lv_iadd hx hb dL_law_939 ?_
  refine va_sld hx hb hX hbl hbA hw.2.2.2.1 (l_in (k := 5) hj hL (by decide) (by decide)) dL_law_940 ?_
  refine lv_aload_n hx hb dL_law_941 rfl (lv_at hl 0 rfl) ?_
  refine lv_iload_n hx hb dL_law_942 rfl (lv_at hl 3 rfl) ?_
  refine lv_bipush (v := (6 : Int32)) hx hb dL_law_943 (by decide) ?_
  refine lv_iadd hx hb dL_law_945 ?_
  refine va_sld hx hb hX hbl hbA hw.2.2.2.1 (l_in (k := 6) hj hL (by decide) (by decide)) dL_law_946 ?_
  refine l_cI F hw hl.1 (As := [.int (xs (nI j + (1 : Int32)).toNatClampNeg), .int (xs (nI j + (2 : Int32)).toNatClampNeg), .int (xs (nI j + (3 : Int32)).toNatClampNeg), .int (xs (nI j + (4 : Int32)).toNatClampNeg), .int (xs (nI j + (5 : Int32)).toNatClampNeg), .int (xs (nI j + (6 : Int32)).toNatClampNeg)]) (rest := []) (ztX11_drives l D cy shC adc l_kC h1) zyX11_drives zkL_87 ⟨rfl, rfl⟩ ⟨Nat.le_of_ble_eq_true rfl, Nat.le_of_ble_eq_true rfl⟩ rfl rfl (Nat.le_of_ble_eq_true rfl) dL_law_947 rfl (fun H locs hw => ?_)
  refine lv_aload_n hx hb dL_law_950 rfl (lv_at hl 2 rfl) ?_
  refine lv_aload_n hx hb dL_law_951 rfl (lv_at hl 0 rfl) ?_
  refine lv_iload_n hx hb dL_law_952 rfl (lv_at hl 3 rfl) ?_
  refine lv_iconst (v := (1 : Int32)) hx hb dL_law_953 (by decide) ?_
  refine lv_iadd hx hb dL_law_954 ?_
  refine va_sld hx hb hX hbl hbA hw.2.2.2.1 (l_in (k := 1) hj hL (by decide) (by decide)) dL_law_955 ?_
  refine lv_aload_n hx hb dL_law_956 rfl (lv_at hl 0 rfl) ?_
  refine lv_iload_n hx hb dL_law_957 rfl (lv_at hl 3 rfl) ?_
  refine lv_iconst (v := (2 : Int32)) hx hb dL_law_958 (by decide) ?_
  refine lv_iadd hx hb dL_law_959 ?_
  refine va_sld hx hb hX hbl hbA hw.2.2.2.1 (l_in (k := 2) hj hL (by decide) (by decide)) dL_law_960 ?_
  refine lv_aload_n hx hb dL_law_961 rfl (lv_at hl 0 rfl) ?_
  refine lv_iload_n hx hb dL_law_962 rfl (lv_at hl 3 rfl) ?_
  refine lv_iconst (v := (3 : Int32)) hx hb dL_law_963 (by decide) ?_
  refine lv_iadd hx hb dL_law_964 ?_
  refine va_sld hx hb hX hbl hbA hw.2.2.2.1 (l_in (k := 3) hj hL (by decide) (by decide)) dL_law_965 ?_
  refine lv_aload_n hx hb dL_law_966 rfl (lv_at hl 0 rfl) ?_
  refine lv_iload_n hx hb dL_law_967 rfl (lv_at hl 3 rfl) ?_
  refine lv_iconst (v := (4 : Int32)) hx hb dL_law_968 (by decide) ?_
  refine lv_iadd hx hb dL_law_969 ?_
  refine va_sld hx hb hX hbl hbA hw.2.2.2.1 (l_in (k := 4) hj hL (by decide) (by decide)) dL_law_970 ?_
  refine lv_aload_n hx hb dL_law_971 rfl (lv_at hl 0 rfl) ?_
  refine lv_iload_n hx hb dL_law_972 rfl (lv_at hl 3 rfl) ?_
  refine lv_iconst (v := (5 : Int32)) hx hb dL_law_973 (by decide) ?_
  refine lv_iadd hx hb dL_law_974 ?_
  refine va_sld hx hb hX hbl hbA hw.2.2.2.1 (l_in (k := 5) hj hL (by decide) (by decide)) dL_law_975 ?_
  refine lv_aload_n hx hb dL_law_976 rfl (lv_at hl 0 rfl) ?_
  refine lv_iload_n hx hb dL_law_977 rfl (lv_at hl 3 rfl) ?_
  refine lv_bipush (v := (6 : Int32)) hx hb dL_law_978 (by decide) ?_
  refine lv_iadd hx hb dL_law_980 ?_
  refine va_sld hx hb hX hbl hbA hw.2.2.2.1 (l_in (k := 6) hj hL (by decide) (by decide)) dL_law_981 ?_
  refine l_mI F hw hl.1 (As := [.int (xs (nI j + (1 : Int32)).toNatClampNeg), .int (xs (nI j + (2 : Int32)).toNatClampNeg), .int (xs (nI j + (3 : Int32)).toNatClampNeg), .int (xs (nI j + (4 : Int32)).toNatClampNeg), .int (xs (nI j + (5 : Int32)).toNatClampNeg), .int (xs (nI j + (6 : Int32)).toNatClampNeg)]) (rest := [.int r]) (ztX12_drives l D cy shM adm l_kM h2) zyX12_drives zkL_91 ⟨rfl, rfl⟩ ⟨Nat.le_of_ble_eq_true rfl, Nat.le_of_ble_eq_true rfl⟩ rfl rfl (Nat.le_of_ble_eq_true rfl) dL_law_982 rfl (fun H locs hw => ?_)
  refine lv_icmp_eq (tgt := 1798) hx hb dL_law_985 (by decide) (fun _ => ?_) (fun c1 => absurd rfl c1)
  exact kk _ _ _ _ hI1 hw
def B_quickest (Inv : Nat → zMem → zMem → Prop) : Prop := ∀ (n : Nat) (M N : zMem) (v1 v2 v3 : Int32), n < 512 → Inv n M N → ∃ (r : Int32) (M1 N1 : zMem), zX11_quickest shC 0 v1 v2 v3 M = some (r, M1) ∧ zX12_quickest shM 0 v1 v2 v3 N = some (r, N1) ∧ Inv (n + 1) M1 N1
set_option maxHeartbeats 4000000 in
set_option maxRecDepth 100000 in
theorem lc_quickest {p : Program} {l : Launch} {e : Env} {s : State} {m : MethodId} {below : List Frame} {meth : Method} {c : Code} {D : va_G} {cy : Nat → ClassId} {b L j n : Nat} {xs : Nat → Int32} {adc adm : Nat → Nat} {M N : zMem} {H : Heap} {locs : List Loc} {ls : Array Slot} {Q : State → Prop} {Inv : Nat → zMem → zMem → Prop} (hB : B_quickest Inv) (F : zFx D cy p m c cL_law 4 s #[Value.ref b] RL) (hX : va_X b L xs s s.heap) (hbl : b < s.heap.size) (hj : j + 7 ≤ L) (hL : L ≤ 3584) (hn : n < 512) (hI : Inv n M N) (hw : lwd D cy adc adm s M N H locs) (hl : lv_has ls 4 [(0, .ref b), (1, .ref (adc 0)), (2, .ref (adm 0)), (3, .int (nI j))]) (kk : ∀ (M1 N1 : zMem) (H1 : Heap) (locs1 : List Loc), Inv (n + 1) M1 N1 → lwd D cy adc adm s M1 N1 H1 locs1 → W p l e room_1 s m #[Value.ref b] below meth c H1 locs1 lCells lSlots Q (F0 m 1798 ls [])) : W p l e room_1 s m #[Value.ref b] below meth c H locs lCells lSlots Q (F0 m 990 ls []) := by
  have hx := F.1.1
  have hb := F.1.2.1
  have hbA : ¬ s.heap.size ≤ b := Nat.not_le.mpr hbl
  obtain ⟨r, M1, N1, h1, h2, hI1⟩ := hB n M N (xs (nI j + (1 : Int32)).toNatClampNeg) (xs (nI j + (2 : Int32)).toNatClampNeg) (xs (nI j + (3 : Int32)).toNatClampNeg) hn hI
  refine lv_aload_n hx hb dL_law_990 rfl (lv_at hl 1 rfl) ?_
  refine lv_aload_n hx hb dL_law_991 rfl (lv_at hl 0 rfl) ?_
  refine lv_iload_n hx hb dL_law_992 rfl (lv_at hl 3 rfl) ?_
  refine lv_iconst (v := (1 : Int32)) hx hb dL_law_993 (by decide) ?_
  refine lv_iadd hx hb dL_law_994 ?_
  refine va_sld hx hb hX hbl hbA hw.2.2.2.1 (l_in (k := 1) hj hL (by decide) (by decide)) dL_law_995 ?_
  refine lv_aload_n hx hb dL_law_996 rfl (lv_at hl 0 rfl) ?_
  refine lv_iload_n hx hb dL_law_997 rfl (lv_at hl 3 rfl) ?_
  refine lv_iconst (v := (2 : Int32)) hx hb dL_law_998 (by decide) ?_
  refine lv_iadd hx hb dL_law_999 ?_
  refine va_sld hx hb hX hbl hbA hw.2.2.2.1 (l_in (k := 2) hj hL (by decide) (by decide)) dL_law_1000 ?_
  refine lv_aload_n hx hb dL_law_1001 rfl (lv_at hl 0 rfl) ?_
  refine lv_iload_n hx hb dL_law_1002 rfl (lv_at hl 3 rfl) ?_
  refine lv_iconst (v := (3 : Int32)) hx hb dL_law_1003 (by decide) ?_
  refine lv_iadd hx hb dL_law_1004 ?_
  refine va_sld hx hb hX hbl hbA hw.2.2.2.1 (l_in (k := 3) hj hL (by decide) (by decide)) dL_law_1005 ?_
  refine l_cI F hw hl.1 (As := [.int (xs (nI j + (1 : Int32)).toNatClampNeg), .int (xs (nI j + (2 : Int32)).toNatClampNeg), .int (xs (nI j + (3 : Int32)).toNatClampNeg)]) (rest := []) (ztX11_quickest l D cy shC adc l_kC h1) zyX11_quickest zkL_92 ⟨rfl, rfl⟩ ⟨Nat.le_of_ble_eq_true rfl, Nat.le_of_ble_eq_true rfl⟩ rfl rfl (Nat.le_of_ble_eq_true rfl) dL_law_1006 rfl (fun H locs hw => ?_)
  refine lv_aload_n hx hb dL_law_1009 rfl (lv_at hl 2 rfl) ?_
  refine lv_aload_n hx hb dL_law_1010 rfl (lv_at hl 0 rfl) ?_
  refine lv_iload_n hx hb dL_law_1011 rfl (lv_at hl 3 rfl) ?_
  refine lv_iconst (v := (1 : Int32)) hx hb dL_law_1012 (by decide) ?_
  refine lv_iadd hx hb dL_law_1013 ?_
  refine va_sld hx hb hX hbl hbA hw.2.2.2.1 (l_in (k := 1) hj hL (by decide) (by decide)) dL_law_1014 ?_
  refine lv_aload_n hx hb dL_law_1015 rfl (lv_at hl 0 rfl) ?_
  refine lv_iload_n hx hb dL_law_1016 rfl (lv_at hl 3 rfl) ?_
  refine lv_iconst (v := (2 : Int32)) hx hb dL_law_1017 (by decide) ?_
  refine lv_iadd hx hb dL_law_1018 ?_
  refine va_sld hx hb hX hbl hbA hw.2.2.2.1 (l_in (k := 2) hj hL (by decide) (by decide)) dL_law_1019 ?_
  refine lv_aload_n hx hb dL_law_1020 rfl (lv_at hl 0 rfl) ?_
  refine lv_iload_n hx hb dL_law_1021 rfl (lv_at hl 3 rfl) ?_
  refine lv_iconst (v := (3 : Int32)) hx hb dL_law_1022 (by decide) ?_
  refine lv_iadd hx hb dL_law_1023 ?_
  refine va_sld hx hb hX hbl hbA hw.2.2.2.1 (l_in (k := 3) hj hL (by decide) (by decide)) dL_law_1024 ?_
  refine l_mI F hw hl.1 (As := [.int (xs (nI j + (1 : Int32)).toNatClampNeg), .int (xs (nI j + (2 : Int32)).toNatClampNeg), .int (xs (nI j + (3 : Int32)).toNatClampNeg)]) (rest := [.int r]) (ztX12_quickest l D cy shM adm l_kM h2) zyX12_quickest zkL_95 ⟨rfl, rfl⟩ ⟨Nat.le_of_ble_eq_true rfl, Nat.le_of_ble_eq_true rfl⟩ rfl rfl (Nat.le_of_ble_eq_true rfl) dL_law_1025 rfl (fun H locs hw => ?_)
  refine lv_icmp_eq (tgt := 1798) hx hb dL_law_1028 (by decide) (fun _ => ?_) (fun c1 => absurd rfl c1)
  exact kk _ _ _ _ hI1 hw
def B_go (Inv : Nat → zMem → zMem → Prop) : Prop := ∀ (n : Nat) (M N : zMem) (v1 v2 v3 : Int32), n < 512 → Inv n M N → ∃ (r : Int32) (M1 N1 : zMem), zX11_go shC 0 v1 v2 v3 M = some (r, M1) ∧ zX12_go shM 0 v1 v2 v3 N = some (r, N1) ∧ Inv (n + 1) M1 N1
set_option maxHeartbeats 4000000 in
set_option maxRecDepth 100000 in
theorem lc_go {p : Program} {l : Launch} {e : Env} {s : State} {m : MethodId} {below : List Frame} {meth : Method} {c : Code} {D : va_G} {cy : Nat → ClassId} {b L j n : Nat} {xs : Nat → Int32} {adc adm : Nat → Nat} {M N : zMem} {H : Heap} {locs : List Loc} {ls : Array Slot} {Q : State → Prop} {Inv : Nat → zMem → zMem → Prop} (hB : B_go Inv) (F : zFx D cy p m c cL_law 4 s #[Value.ref b] RL) (hX : va_X b L xs s s.heap) (hbl : b < s.heap.size) (hj : j + 7 ≤ L) (hL : L ≤ 3584) (hn : n < 512) (hI : Inv n M N) (hw : lwd D cy adc adm s M N H locs) (hl : lv_has ls 4 [(0, .ref b), (1, .ref (adc 0)), (2, .ref (adm 0)), (3, .int (nI j))]) (kk : ∀ (M1 N1 : zMem) (H1 : Heap) (locs1 : List Loc), Inv (n + 1) M1 N1 → lwd D cy adc adm s M1 N1 H1 locs1 → W p l e room_1 s m #[Value.ref b] below meth c H1 locs1 lCells lSlots Q (F0 m 1798 ls [])) : W p l e room_1 s m #[Value.ref b] below meth c H locs lCells lSlots Q (F0 m 1033 ls []) := by
  have hx := F.1.1
  have hb := F.1.2.1
  have hbA : ¬ s.heap.size ≤ b := Nat.not_le.mpr hbl
  obtain ⟨r, M1, N1, h1, h2, hI1⟩ := hB n M N (xs (nI j + (1 : Int32)).toNatClampNeg) (xs (nI j + (2 : Int32)).toNatClampNeg) (xs (nI j + (3 : Int32)).toNatClampNeg) hn hI
  refine lv_aload_n hx hb dL_law_1033 rfl (lv_at hl 1 rfl) ?_
  refine lv_aload_n hx hb dL_law_1034 rfl (lv_at hl 0 rfl) ?_
  refine lv_iload_n hx hb dL_law_1035 rfl (lv_at hl 3 rfl) ?_
  refine lv_iconst (v := (1 : Int32)) hx hb dL_law_1036 (by decide) ?_
  refine lv_iadd hx hb dL_law_1037 ?_
  refine va_sld hx hb hX hbl hbA hw.2.2.2.1 (l_in (k := 1) hj hL (by decide) (by decide)) dL_law_1038 ?_
  refine lv_aload_n hx hb dL_law_1039 rfl (lv_at hl 0 rfl) ?_
  refine lv_iload_n hx hb dL_law_1040 rfl (lv_at hl 3 rfl) ?_
  refine lv_iconst (v := (2 : Int32)) hx hb dL_law_1041 (by decide) ?_
  refine lv_iadd hx hb dL_law_1042 ?_
  refine va_sld hx hb hX hbl hbA hw.2.2.2.1 (l_in (k := 2) hj hL (by decide) (by decide)) dL_law_1043 ?_
  refine lv_aload_n hx hb dL_law_1044 rfl (lv_at hl 0 rfl) ?_
  refine lv_iload_n hx hb dL_law_1045 rfl (lv_at hl 3 rfl) ?_
  refine lv_iconst (v := (3 : Int32)) hx hb dL_law_1046 (by decide) ?_
  refine lv_iadd hx hb dL_law_1047 ?_
  refine va_sld hx hb hX hbl hbA hw.2.2.2.1 (l_in (k := 3) hj hL (by decide) (by decide)) dL_law_1048 ?_
  refine l_cI F hw hl.1 (As := [.int (xs (nI j + (1 : Int32)).toNatClampNeg), .int (xs (nI j + (2 : Int32)).toNatClampNeg), .int (xs (nI j + (3 : Int32)).toNatClampNeg)]) (rest := []) (ztX11_go l D cy shC adc l_kC h1) zyX11_go zkL_96 ⟨rfl, rfl⟩ ⟨Nat.le_of_ble_eq_true rfl, Nat.le_of_ble_eq_true rfl⟩ rfl rfl (Nat.le_of_ble_eq_true rfl) dL_law_1049 rfl (fun H locs hw => ?_)
  refine lv_aload_n hx hb dL_law_1052 rfl (lv_at hl 2 rfl) ?_
  refine lv_aload_n hx hb dL_law_1053 rfl (lv_at hl 0 rfl) ?_
  refine lv_iload_n hx hb dL_law_1054 rfl (lv_at hl 3 rfl) ?_
  refine lv_iconst (v := (1 : Int32)) hx hb dL_law_1055 (by decide) ?_
  refine lv_iadd hx hb dL_law_1056 ?_
  refine va_sld hx hb hX hbl hbA hw.2.2.2.1 (l_in (k := 1) hj hL (by decide) (by decide)) dL_law_1057 ?_
  refine lv_aload_n hx hb dL_law_1058 rfl (lv_at hl 0 rfl) ?_
  refine lv_iload_n hx hb dL_law_1059 rfl (lv_at hl 3 rfl) ?_
  refine lv_iconst (v := (2 : Int32)) hx hb dL_law_1060 (by decide) ?_
  refine lv_iadd hx hb dL_law_1061 ?_
  refine va_sld hx hb hX hbl hbA hw.2.2.2.1 (l_in (k := 2) hj hL (by decide) (by decide)) dL_law_1062 ?_
  refine lv_aload_n hx hb dL_law_1063 rfl (lv_at hl 0 rfl) ?_
  refine lv_iload_n hx hb dL_law_1064 rfl (lv_at hl 3 rfl) ?_
  refine lv_iconst (v := (3 : Int32)) hx hb dL_law_1065 (by decide) ?_
  refine lv_iadd hx hb dL_law_1066 ?_
  refine va_sld hx hb hX hbl hbA hw.2.2.2.1 (l_in (k := 3) hj hL (by decide) (by decide)) dL_law_1067 ?_
  refine l_mI F hw hl.1 (As := [.int (xs (nI j + (1 : Int32)).toNatClampNeg), .int (xs (nI j + (2 : Int32)).toNatClampNeg), .int (xs (nI j + (3 : Int32)).toNatClampNeg)]) (rest := [.int r]) (ztX12_go l D cy shM adm l_kM h2) zyX12_go zkL_99 ⟨rfl, rfl⟩ ⟨Nat.le_of_ble_eq_true rfl, Nat.le_of_ble_eq_true rfl⟩ rfl rfl (Nat.le_of_ble_eq_true rfl) dL_law_1068 rfl (fun H locs hw => ?_)
  refine lv_icmp_eq (tgt := 1798) hx hb dL_law_1071 (by decide) (fun _ => ?_) (fun c1 => absurd rfl c1)
  exact kk _ _ _ _ hI1 hw
def B_halt (Inv : Nat → zMem → zMem → Prop) : Prop := ∀ (n : Nat) (M N : zMem) , n < 512 → Inv n M N → ∃ (r : Int32) (M1 N1 : zMem), zX11_halt shC 0  M = some (r, M1) ∧ zX12_halt shM 0  N = some (r, N1) ∧ Inv (n + 1) M1 N1
set_option maxHeartbeats 4000000 in
set_option maxRecDepth 100000 in
theorem lc_halt {p : Program} {l : Launch} {e : Env} {s : State} {m : MethodId} {below : List Frame} {meth : Method} {c : Code} {D : va_G} {cy : Nat → ClassId} {b L j n : Nat} {xs : Nat → Int32} {adc adm : Nat → Nat} {M N : zMem} {H : Heap} {locs : List Loc} {ls : Array Slot} {Q : State → Prop} {Inv : Nat → zMem → zMem → Prop} (hB : B_halt Inv) (F : zFx D cy p m c cL_law 4 s #[Value.ref b] RL) (hX : va_X b L xs s s.heap) (hbl : b < s.heap.size) (hj : j + 7 ≤ L) (hL : L ≤ 3584) (hn : n < 512) (hI : Inv n M N) (hw : lwd D cy adc adm s M N H locs) (hl : lv_has ls 4 [(0, .ref b), (1, .ref (adc 0)), (2, .ref (adm 0)), (3, .int (nI j))]) (kk : ∀ (M1 N1 : zMem) (H1 : Heap) (locs1 : List Loc), Inv (n + 1) M1 N1 → lwd D cy adc adm s M1 N1 H1 locs1 → W p l e room_1 s m #[Value.ref b] below meth c H1 locs1 lCells lSlots Q (F0 m 1798 ls [])) : W p l e room_1 s m #[Value.ref b] below meth c H locs lCells lSlots Q (F0 m 1076 ls []) := by
  have hx := F.1.1
  have hb := F.1.2.1
  have hbA : ¬ s.heap.size ≤ b := Nat.not_le.mpr hbl
  obtain ⟨r, M1, N1, h1, h2, hI1⟩ := hB n M N  hn hI
  refine lv_aload_n hx hb dL_law_1076 rfl (lv_at hl 1 rfl) ?_
  refine l_cI F hw hl.1 (As := []) (rest := []) (ztX11_halt l D cy shC adc l_kC h1) zyX11_halt zkL_100 ⟨rfl, rfl⟩ ⟨Nat.le_of_ble_eq_true rfl, Nat.le_of_ble_eq_true rfl⟩ rfl rfl (Nat.le_of_ble_eq_true rfl) dL_law_1077 rfl (fun H locs hw => ?_)
  refine lv_aload_n hx hb dL_law_1080 rfl (lv_at hl 2 rfl) ?_
  refine l_mI F hw hl.1 (As := []) (rest := [.int r]) (ztX12_halt l D cy shM adm l_kM h2) zyX12_halt zkL_103 ⟨rfl, rfl⟩ ⟨Nat.le_of_ble_eq_true rfl, Nat.le_of_ble_eq_true rfl⟩ rfl rfl (Nat.le_of_ble_eq_true rfl) dL_law_1081 rfl (fun H locs hw => ?_)
  refine lv_icmp_eq (tgt := 1798) hx hb dL_law_1084 (by decide) (fun _ => ?_) (fun c1 => absurd rfl c1)
  exact kk _ _ _ _ hI1 hw
def B_run (Inv : Nat → zMem → zMem → Prop) : Prop := ∀ (n : Nat) (M N : zMem) (v1 : Int32), n < 512 → Inv n M N → ∃ (r : Int32) (M1 N1 : zMem), zX11_run shC 0 v1 M = some (r, M1) ∧ zX12_run shM 0 v1 N = some (r, N1) ∧ Inv (n + 1) M1 N1
set_option maxHeartbeats 4000000 in
set_option maxRecDepth 100000 in
theorem lc_run {p : Program} {l : Launch} {e : Env} {s : State} {m : MethodId} {below : List Frame} {meth : Method} {c : Code} {D : va_G} {cy : Nat → ClassId} {b L j n : Nat} {xs : Nat → Int32} {adc adm : Nat → Nat} {M N : zMem} {H : Heap} {locs : List Loc} {ls : Array Slot} {Q : State → Prop} {Inv : Nat → zMem → zMem → Prop} (hB : B_run Inv) (F : zFx D cy p m c cL_law 4 s #[Value.ref b] RL) (hX : va_X b L xs s s.heap) (hbl : b < s.heap.size) (hj : j + 7 ≤ L) (hL : L ≤ 3584) (hn : n < 512) (hI : Inv n M N) (hw : lwd D cy adc adm s M N H locs) (hl : lv_has ls 4 [(0, .ref b), (1, .ref (adc 0)), (2, .ref (adm 0)), (3, .int (nI j))]) (kk : ∀ (M1 N1 : zMem) (H1 : Heap) (locs1 : List Loc), Inv (n + 1) M1 N1 → lwd D cy adc adm s M1 N1 H1 locs1 → W p l e room_1 s m #[Value.ref b] below meth c H1 locs1 lCells lSlots Q (F0 m 1798 ls [])) : W p l e room_1 s m #[Value.ref b] below meth c H locs lCells lSlots Q (F0 m 1089 ls []) := by
  have hx := F.1.1
  have hb := F.1.2.1
  have hbA : ¬ s.heap.size ≤ b := Nat.not_le.mpr hbl
  obtain ⟨r, M1, N1, h1, h2, hI1⟩ := hB n M N (xs (nI j + (1 : Int32)).toNatClampNeg) hn hI
  refine lv_aload_n hx hb dL_law_1089 rfl (lv_at hl 1 rfl) ?_
  refine lv_aload_n hx hb dL_law_1090 rfl (lv_at hl 0 rfl) ?_
  refine lv_iload_n hx hb dL_law_1091 rfl (lv_at hl 3 rfl) ?_
  refine lv_iconst (v := (1 : Int32)) hx hb dL_law_1092 (by decide) ?_
  refine lv_iadd hx hb dL_law_1093 ?_
  refine va_sld hx hb hX hbl hbA hw.2.2.2.1 (l_in (k := 1) hj hL (by decide) (by decide)) dL_law_1094 ?_
  refine l_cI F hw hl.1 (As := [.int (xs (nI j + (1 : Int32)).toNatClampNeg)]) (rest := []) (ztX11_run l D cy shC adc l_kC h1) zyX11_run zkL_104 ⟨rfl, rfl⟩ ⟨Nat.le_of_ble_eq_true rfl, Nat.le_of_ble_eq_true rfl⟩ rfl rfl (Nat.le_of_ble_eq_true rfl) dL_law_1095 rfl (fun H locs hw => ?_)
  refine lv_aload_n hx hb dL_law_1098 rfl (lv_at hl 2 rfl) ?_
  refine lv_aload_n hx hb dL_law_1099 rfl (lv_at hl 0 rfl) ?_
  refine lv_iload_n hx hb dL_law_1100 rfl (lv_at hl 3 rfl) ?_
  refine lv_iconst (v := (1 : Int32)) hx hb dL_law_1101 (by decide) ?_
  refine lv_iadd hx hb dL_law_1102 ?_
  refine va_sld hx hb hX hbl hbA hw.2.2.2.1 (l_in (k := 1) hj hL (by decide) (by decide)) dL_law_1103 ?_
  refine l_mI F hw hl.1 (As := [.int (xs (nI j + (1 : Int32)).toNatClampNeg)]) (rest := [.int r]) (ztX12_run l D cy shM adm l_kM h2) zyX12_run zkL_107 ⟨rfl, rfl⟩ ⟨Nat.le_of_ble_eq_true rfl, Nat.le_of_ble_eq_true rfl⟩ rfl rfl (Nat.le_of_ble_eq_true rfl) dL_law_1104 rfl (fun H locs hw => ?_)
  refine lv_icmp_eq (tgt := 1798) hx hb dL_law_1107 (by decide) (fun _ => ?_) (fun c1 => absurd rfl c1)
  exact kk _ _ _ _ hI1 hw
def B_queue (Inv : Nat → zMem → zMem → Prop) : Prop := ∀ (n : Nat) (M N : zMem) (v1 v2 v3 : Int32), n < 512 → Inv n M N → ∃ (r : Int32) (M1 N1 : zMem), zX11_queue shC 0 v1 v2 v3 M = some (r, M1) ∧ zX12_queue shM 0 v1 v2 v3 N = some (r, N1) ∧ Inv (n + 1) M1 N1
set_option maxHeartbeats 4000000 in
set_option maxRecDepth 100000 in
theorem lc_queue {p : Program} {l : Launch} {e : Env} {s : State} {m : MethodId} {below : List Frame} {meth : Method} {c : Code} {D : va_G} {cy : Nat → ClassId} {b L j n : Nat} {xs : Nat → Int32} {adc adm : Nat → Nat} {M N : zMem} {H : Heap} {locs : List Loc} {ls : Array Slot} {Q : State → Prop} {Inv : Nat → zMem → zMem → Prop} (hB : B_queue Inv) (F : zFx D cy p m c cL_law 4 s #[Value.ref b] RL) (hX : va_X b L xs s s.heap) (hbl : b < s.heap.size) (hj : j + 7 ≤ L) (hL : L ≤ 3584) (hn : n < 512) (hI : Inv n M N) (hw : lwd D cy adc adm s M N H locs) (hl : lv_has ls 4 [(0, .ref b), (1, .ref (adc 0)), (2, .ref (adm 0)), (3, .int (nI j))]) (kk : ∀ (M1 N1 : zMem) (H1 : Heap) (locs1 : List Loc), Inv (n + 1) M1 N1 → lwd D cy adc adm s M1 N1 H1 locs1 → W p l e room_1 s m #[Value.ref b] below meth c H1 locs1 lCells lSlots Q (F0 m 1798 ls [])) : W p l e room_1 s m #[Value.ref b] below meth c H locs lCells lSlots Q (F0 m 1112 ls []) := by
  have hx := F.1.1
  have hb := F.1.2.1
  have hbA : ¬ s.heap.size ≤ b := Nat.not_le.mpr hbl
  obtain ⟨r, M1, N1, h1, h2, hI1⟩ := hB n M N (xs (nI j + (1 : Int32)).toNatClampNeg) (xs (nI j + (2 : Int32)).toNatClampNeg) (xs (nI j + (3 : Int32)).toNatClampNeg) hn hI
  refine lv_aload_n hx hb dL_law_1112 rfl (lv_at hl 1 rfl) ?_
  refine lv_aload_n hx hb dL_law_1113 rfl (lv_at hl 0 rfl) ?_
  refine lv_iload_n hx hb dL_law_1114 rfl (lv_at hl 3 rfl) ?_
  refine lv_iconst (v := (1 : Int32)) hx hb dL_law_1115 (by decide) ?_
  refine lv_iadd hx hb dL_law_1116 ?_
  refine va_sld hx hb hX hbl hbA hw.2.2.2.1 (l_in (k := 1) hj hL (by decide) (by decide)) dL_law_1117 ?_
  refine lv_aload_n hx hb dL_law_1118 rfl (lv_at hl 0 rfl) ?_
  refine lv_iload_n hx hb dL_law_1119 rfl (lv_at hl 3 rfl) ?_
  refine lv_iconst (v := (2 : Int32)) hx hb dL_law_1120 (by decide) ?_
  refine lv_iadd hx hb dL_law_1121 ?_
  refine va_sld hx hb hX hbl hbA hw.2.2.2.1 (l_in (k := 2) hj hL (by decide) (by decide)) dL_law_1122 ?_
  refine lv_aload_n hx hb dL_law_1123 rfl (lv_at hl 0 rfl) ?_
  refine lv_iload_n hx hb dL_law_1124 rfl (lv_at hl 3 rfl) ?_
  refine lv_iconst (v := (3 : Int32)) hx hb dL_law_1125 (by decide) ?_
  refine lv_iadd hx hb dL_law_1126 ?_
  refine va_sld hx hb hX hbl hbA hw.2.2.2.1 (l_in (k := 3) hj hL (by decide) (by decide)) dL_law_1127 ?_
  refine l_cI F hw hl.1 (As := [.int (xs (nI j + (1 : Int32)).toNatClampNeg), .int (xs (nI j + (2 : Int32)).toNatClampNeg), .int (xs (nI j + (3 : Int32)).toNatClampNeg)]) (rest := []) (ztX11_queue l D cy shC adc l_kC h1) zyX11_queue zkL_108 ⟨rfl, rfl⟩ ⟨Nat.le_of_ble_eq_true rfl, Nat.le_of_ble_eq_true rfl⟩ rfl rfl (Nat.le_of_ble_eq_true rfl) dL_law_1128 rfl (fun H locs hw => ?_)
  refine lv_aload_n hx hb dL_law_1131 rfl (lv_at hl 2 rfl) ?_
  refine lv_aload_n hx hb dL_law_1132 rfl (lv_at hl 0 rfl) ?_
  refine lv_iload_n hx hb dL_law_1133 rfl (lv_at hl 3 rfl) ?_
  refine lv_iconst (v := (1 : Int32)) hx hb dL_law_1134 (by decide) ?_
  refine lv_iadd hx hb dL_law_1135 ?_
  refine va_sld hx hb hX hbl hbA hw.2.2.2.1 (l_in (k := 1) hj hL (by decide) (by decide)) dL_law_1136 ?_
  refine lv_aload_n hx hb dL_law_1137 rfl (lv_at hl 0 rfl) ?_
  refine lv_iload_n hx hb dL_law_1138 rfl (lv_at hl 3 rfl) ?_
  refine lv_iconst (v := (2 : Int32)) hx hb dL_law_1139 (by decide) ?_
  refine lv_iadd hx hb dL_law_1140 ?_
  refine va_sld hx hb hX hbl hbA hw.2.2.2.1 (l_in (k := 2) hj hL (by decide) (by decide)) dL_law_1141 ?_
  refine lv_aload_n hx hb dL_law_1142 rfl (lv_at hl 0 rfl) ?_
  refine lv_iload_n hx hb dL_law_1143 rfl (lv_at hl 3 rfl) ?_
  refine lv_iconst (v := (3 : Int32)) hx hb dL_law_1144 (by decide) ?_
  refine lv_iadd hx hb dL_law_1145 ?_
  refine va_sld hx hb hX hbl hbA hw.2.2.2.1 (l_in (k := 3) hj hL (by decide) (by decide)) dL_law_1146 ?_
  refine l_mI F hw hl.1 (As := [.int (xs (nI j + (1 : Int32)).toNatClampNeg), .int (xs (nI j + (2 : Int32)).toNatClampNeg), .int (xs (nI j + (3 : Int32)).toNatClampNeg)]) (rest := [.int r]) (ztX12_queue l D cy shM adm l_kM h2) zyX12_queue zkL_111 ⟨rfl, rfl⟩ ⟨Nat.le_of_ble_eq_true rfl, Nat.le_of_ble_eq_true rfl⟩ rfl rfl (Nat.le_of_ble_eq_true rfl) dL_law_1147 rfl (fun H locs hw => ?_)
  refine lv_icmp_eq (tgt := 1798) hx hb dL_law_1150 (by decide) (fun _ => ?_) (fun c1 => absurd rfl c1)
  exact kk _ _ _ _ hI1 hw
def B_watch (Inv : Nat → zMem → zMem → Prop) : Prop := ∀ (n : Nat) (M N : zMem) (v1 v2 : Int32), n < 512 → Inv n M N → ∃ (r : Int32) (M1 N1 : zMem), zX11_watch shC 0 v1 v2 M = some (r, M1) ∧ zX12_watch shM 0 v1 v2 N = some (r, N1) ∧ Inv (n + 1) M1 N1
set_option maxHeartbeats 4000000 in
set_option maxRecDepth 100000 in
theorem lc_watch {p : Program} {l : Launch} {e : Env} {s : State} {m : MethodId} {below : List Frame} {meth : Method} {c : Code} {D : va_G} {cy : Nat → ClassId} {b L j n : Nat} {xs : Nat → Int32} {adc adm : Nat → Nat} {M N : zMem} {H : Heap} {locs : List Loc} {ls : Array Slot} {Q : State → Prop} {Inv : Nat → zMem → zMem → Prop} (hB : B_watch Inv) (F : zFx D cy p m c cL_law 4 s #[Value.ref b] RL) (hX : va_X b L xs s s.heap) (hbl : b < s.heap.size) (hj : j + 7 ≤ L) (hL : L ≤ 3584) (hn : n < 512) (hI : Inv n M N) (hw : lwd D cy adc adm s M N H locs) (hl : lv_has ls 4 [(0, .ref b), (1, .ref (adc 0)), (2, .ref (adm 0)), (3, .int (nI j))]) (kk : ∀ (M1 N1 : zMem) (H1 : Heap) (locs1 : List Loc), Inv (n + 1) M1 N1 → lwd D cy adc adm s M1 N1 H1 locs1 → W p l e room_1 s m #[Value.ref b] below meth c H1 locs1 lCells lSlots Q (F0 m 1798 ls [])) : W p l e room_1 s m #[Value.ref b] below meth c H locs lCells lSlots Q (F0 m 1155 ls []) := by
  have hx := F.1.1
  have hb := F.1.2.1
  have hbA : ¬ s.heap.size ≤ b := Nat.not_le.mpr hbl
  obtain ⟨r, M1, N1, h1, h2, hI1⟩ := hB n M N (xs (nI j + (1 : Int32)).toNatClampNeg) (xs (nI j + (2 : Int32)).toNatClampNeg) hn hI
  refine lv_aload_n hx hb dL_law_1155 rfl (lv_at hl 1 rfl) ?_
  refine lv_aload_n hx hb dL_law_1156 rfl (lv_at hl 0 rfl) ?_
  refine lv_iload_n hx hb dL_law_1157 rfl (lv_at hl 3 rfl) ?_
  refine lv_iconst (v := (1 : Int32)) hx hb dL_law_1158 (by decide) ?_
  refine lv_iadd hx hb dL_law_1159 ?_
  refine va_sld hx hb hX hbl hbA hw.2.2.2.1 (l_in (k := 1) hj hL (by decide) (by decide)) dL_law_1160 ?_
  refine lv_aload_n hx hb dL_law_1161 rfl (lv_at hl 0 rfl) ?_
  refine lv_iload_n hx hb dL_law_1162 rfl (lv_at hl 3 rfl) ?_
  refine lv_iconst (v := (2 : Int32)) hx hb dL_law_1163 (by decide) ?_
  refine lv_iadd hx hb dL_law_1164 ?_
  refine va_sld hx hb hX hbl hbA hw.2.2.2.1 (l_in (k := 2) hj hL (by decide) (by decide)) dL_law_1165 ?_
  refine l_cI F hw hl.1 (As := [.int (xs (nI j + (1 : Int32)).toNatClampNeg), .int (xs (nI j + (2 : Int32)).toNatClampNeg)]) (rest := []) (ztX11_watch l D cy shC adc l_kC h1) zyX11_watch zkL_112 ⟨rfl, rfl⟩ ⟨Nat.le_of_ble_eq_true rfl, Nat.le_of_ble_eq_true rfl⟩ rfl rfl (Nat.le_of_ble_eq_true rfl) dL_law_1166 rfl (fun H locs hw => ?_)
  refine lv_aload_n hx hb dL_law_1169 rfl (lv_at hl 2 rfl) ?_
  refine lv_aload_n hx hb dL_law_1170 rfl (lv_at hl 0 rfl) ?_
  refine lv_iload_n hx hb dL_law_1171 rfl (lv_at hl 3 rfl) ?_
  refine lv_iconst (v := (1 : Int32)) hx hb dL_law_1172 (by decide) ?_
  refine lv_iadd hx hb dL_law_1173 ?_
  refine va_sld hx hb hX hbl hbA hw.2.2.2.1 (l_in (k := 1) hj hL (by decide) (by decide)) dL_law_1174 ?_
  refine lv_aload_n hx hb dL_law_1175 rfl (lv_at hl 0 rfl) ?_
  refine lv_iload_n hx hb dL_law_1176 rfl (lv_at hl 3 rfl) ?_
  refine lv_iconst (v := (2 : Int32)) hx hb dL_law_1177 (by decide) ?_
  refine lv_iadd hx hb dL_law_1178 ?_
  refine va_sld hx hb hX hbl hbA hw.2.2.2.1 (l_in (k := 2) hj hL (by decide) (by decide)) dL_law_1179 ?_
  refine l_mI F hw hl.1 (As := [.int (xs (nI j + (1 : Int32)).toNatClampNeg), .int (xs (nI j + (2 : Int32)).toNatClampNeg)]) (rest := [.int r]) (ztX12_watch l D cy shM adm l_kM h2) zyX12_watch zkL_115 ⟨rfl, rfl⟩ ⟨Nat.le_of_ble_eq_true rfl, Nat.le_of_ble_eq_true rfl⟩ rfl rfl (Nat.le_of_ble_eq_true rfl) dL_law_1180 rfl (fun H locs hw => ?_)
  refine lv_icmp_eq (tgt := 1798) hx hb dL_law_1183 (by decide) (fun _ => ?_) (fun c1 => absurd rfl c1)
  exact kk _ _ _ _ hI1 hw
def B_load (Inv : Nat → zMem → zMem → Prop) : Prop := ∀ (n : Nat) (M N : zMem) (v1 v2 : Int32), n < 512 → Inv n M N → ∃ (r : Int32) (M1 N1 : zMem), zX11_load shC 0 v1 v2 M = some (r, M1) ∧ zX12_load shM 0 v1 v2 N = some (r, N1) ∧ Inv (n + 1) M1 N1
set_option maxHeartbeats 4000000 in
set_option maxRecDepth 100000 in
theorem lc_load {p : Program} {l : Launch} {e : Env} {s : State} {m : MethodId} {below : List Frame} {meth : Method} {c : Code} {D : va_G} {cy : Nat → ClassId} {b L j n : Nat} {xs : Nat → Int32} {adc adm : Nat → Nat} {M N : zMem} {H : Heap} {locs : List Loc} {ls : Array Slot} {Q : State → Prop} {Inv : Nat → zMem → zMem → Prop} (hB : B_load Inv) (F : zFx D cy p m c cL_law 4 s #[Value.ref b] RL) (hX : va_X b L xs s s.heap) (hbl : b < s.heap.size) (hj : j + 7 ≤ L) (hL : L ≤ 3584) (hn : n < 512) (hI : Inv n M N) (hw : lwd D cy adc adm s M N H locs) (hl : lv_has ls 4 [(0, .ref b), (1, .ref (adc 0)), (2, .ref (adm 0)), (3, .int (nI j))]) (kk : ∀ (M1 N1 : zMem) (H1 : Heap) (locs1 : List Loc), Inv (n + 1) M1 N1 → lwd D cy adc adm s M1 N1 H1 locs1 → W p l e room_1 s m #[Value.ref b] below meth c H1 locs1 lCells lSlots Q (F0 m 1798 ls [])) : W p l e room_1 s m #[Value.ref b] below meth c H locs lCells lSlots Q (F0 m 1188 ls []) := by
  have hx := F.1.1
  have hb := F.1.2.1
  have hbA : ¬ s.heap.size ≤ b := Nat.not_le.mpr hbl
  obtain ⟨r, M1, N1, h1, h2, hI1⟩ := hB n M N (xs (nI j + (1 : Int32)).toNatClampNeg) (xs (nI j + (2 : Int32)).toNatClampNeg) hn hI
  refine lv_aload_n hx hb dL_law_1188 rfl (lv_at hl 1 rfl) ?_
  refine lv_aload_n hx hb dL_law_1189 rfl (lv_at hl 0 rfl) ?_
  refine lv_iload_n hx hb dL_law_1190 rfl (lv_at hl 3 rfl) ?_
  refine lv_iconst (v := (1 : Int32)) hx hb dL_law_1191 (by decide) ?_
  refine lv_iadd hx hb dL_law_1192 ?_
  refine va_sld hx hb hX hbl hbA hw.2.2.2.1 (l_in (k := 1) hj hL (by decide) (by decide)) dL_law_1193 ?_
  refine lv_aload_n hx hb dL_law_1194 rfl (lv_at hl 0 rfl) ?_
  refine lv_iload_n hx hb dL_law_1195 rfl (lv_at hl 3 rfl) ?_
  refine lv_iconst (v := (2 : Int32)) hx hb dL_law_1196 (by decide) ?_
  refine lv_iadd hx hb dL_law_1197 ?_
  refine va_sld hx hb hX hbl hbA hw.2.2.2.1 (l_in (k := 2) hj hL (by decide) (by decide)) dL_law_1198 ?_
  refine l_cI F hw hl.1 (As := [.int (xs (nI j + (1 : Int32)).toNatClampNeg), .int (xs (nI j + (2 : Int32)).toNatClampNeg)]) (rest := []) (ztX11_load l D cy shC adc l_kC h1) zyX11_load zkL_116 ⟨rfl, rfl⟩ ⟨Nat.le_of_ble_eq_true rfl, Nat.le_of_ble_eq_true rfl⟩ rfl rfl (Nat.le_of_ble_eq_true rfl) dL_law_1199 rfl (fun H locs hw => ?_)
  refine lv_aload_n hx hb dL_law_1202 rfl (lv_at hl 2 rfl) ?_
  refine lv_aload_n hx hb dL_law_1203 rfl (lv_at hl 0 rfl) ?_
  refine lv_iload_n hx hb dL_law_1204 rfl (lv_at hl 3 rfl) ?_
  refine lv_iconst (v := (1 : Int32)) hx hb dL_law_1205 (by decide) ?_
  refine lv_iadd hx hb dL_law_1206 ?_
  refine va_sld hx hb hX hbl hbA hw.2.2.2.1 (l_in (k := 1) hj hL (by decide) (by decide)) dL_law_1207 ?_
  refine lv_aload_n hx hb dL_law_1208 rfl (lv_at hl 0 rfl) ?_
  refine lv_iload_n hx hb dL_law_1209 rfl (lv_at hl 3 rfl) ?_
  refine lv_iconst (v := (2 : Int32)) hx hb dL_law_1210 (by decide) ?_
  refine lv_iadd hx hb dL_law_1211 ?_
  refine va_sld hx hb hX hbl hbA hw.2.2.2.1 (l_in (k := 2) hj hL (by decide) (by decide)) dL_law_1212 ?_
  refine l_mI F hw hl.1 (As := [.int (xs (nI j + (1 : Int32)).toNatClampNeg), .int (xs (nI j + (2 : Int32)).toNatClampNeg)]) (rest := [.int r]) (ztX12_load l D cy shM adm l_kM h2) zyX12_load zkL_119 ⟨rfl, rfl⟩ ⟨Nat.le_of_ble_eq_true rfl, Nat.le_of_ble_eq_true rfl⟩ rfl rfl (Nat.le_of_ble_eq_true rfl) dL_law_1213 rfl (fun H locs hw => ?_)
  refine lv_icmp_eq (tgt := 1798) hx hb dL_law_1216 (by decide) (fun _ => ?_) (fun c1 => absurd rfl c1)
  exact kk _ _ _ _ hI1 hw
def B_trueUp (Inv : Nat → zMem → zMem → Prop) : Prop := ∀ (n : Nat) (M N : zMem) , n < 512 → Inv n M N → ∃ (r : Int32) (M1 N1 : zMem), zX11_trueUp shC 0  M = some (r, M1) ∧ zX12_trueUp shM 0  N = some (r, N1) ∧ Inv (n + 1) M1 N1
set_option maxHeartbeats 4000000 in
set_option maxRecDepth 100000 in
theorem lc_trueUp {p : Program} {l : Launch} {e : Env} {s : State} {m : MethodId} {below : List Frame} {meth : Method} {c : Code} {D : va_G} {cy : Nat → ClassId} {b L j n : Nat} {xs : Nat → Int32} {adc adm : Nat → Nat} {M N : zMem} {H : Heap} {locs : List Loc} {ls : Array Slot} {Q : State → Prop} {Inv : Nat → zMem → zMem → Prop} (hB : B_trueUp Inv) (F : zFx D cy p m c cL_law 4 s #[Value.ref b] RL) (hX : va_X b L xs s s.heap) (hbl : b < s.heap.size) (hj : j + 7 ≤ L) (hL : L ≤ 3584) (hn : n < 512) (hI : Inv n M N) (hw : lwd D cy adc adm s M N H locs) (hl : lv_has ls 4 [(0, .ref b), (1, .ref (adc 0)), (2, .ref (adm 0)), (3, .int (nI j))]) (kk : ∀ (M1 N1 : zMem) (H1 : Heap) (locs1 : List Loc), Inv (n + 1) M1 N1 → lwd D cy adc adm s M1 N1 H1 locs1 → W p l e room_1 s m #[Value.ref b] below meth c H1 locs1 lCells lSlots Q (F0 m 1798 ls [])) : W p l e room_1 s m #[Value.ref b] below meth c H locs lCells lSlots Q (F0 m 1221 ls []) := by
  have hx := F.1.1
  have hb := F.1.2.1
  have hbA : ¬ s.heap.size ≤ b := Nat.not_le.mpr hbl
  obtain ⟨r, M1, N1, h1, h2, hI1⟩ := hB n M N  hn hI
  refine lv_aload_n hx hb dL_law_1221 rfl (lv_at hl 1 rfl) ?_
  refine l_cI F hw hl.1 (As := []) (rest := []) (ztX11_trueUp l D cy shC adc l_kC h1) zyX11_trueUp zkL_120 ⟨rfl, rfl⟩ ⟨Nat.le_of_ble_eq_true rfl, Nat.le_of_ble_eq_true rfl⟩ rfl rfl (Nat.le_of_ble_eq_true rfl) dL_law_1222 rfl (fun H locs hw => ?_)
  refine lv_aload_n hx hb dL_law_1225 rfl (lv_at hl 2 rfl) ?_
  refine l_mI F hw hl.1 (As := []) (rest := [.int r]) (ztX12_trueUp l D cy shM adm l_kM h2) zyX12_trueUp zkL_123 ⟨rfl, rfl⟩ ⟨Nat.le_of_ble_eq_true rfl, Nat.le_of_ble_eq_true rfl⟩ rfl rfl (Nat.le_of_ble_eq_true rfl) dL_law_1226 rfl (fun H locs hw => ?_)
  refine lv_icmp_eq (tgt := 1798) hx hb dL_law_1229 (by decide) (fun _ => ?_) (fun c1 => absurd rfl c1)
  exact kk _ _ _ _ hI1 hw
def B_undo (Inv : Nat → zMem → zMem → Prop) : Prop := ∀ (n : Nat) (M N : zMem) , n < 512 → Inv n M N → ∃ (r : Int32) (M1 N1 : zMem), zX11_undo shC 0  M = some (r, M1) ∧ zX12_undo shM 0  N = some (r, N1) ∧ Inv (n + 1) M1 N1
set_option maxHeartbeats 4000000 in
set_option maxRecDepth 100000 in
theorem lc_undo {p : Program} {l : Launch} {e : Env} {s : State} {m : MethodId} {below : List Frame} {meth : Method} {c : Code} {D : va_G} {cy : Nat → ClassId} {b L j n : Nat} {xs : Nat → Int32} {adc adm : Nat → Nat} {M N : zMem} {H : Heap} {locs : List Loc} {ls : Array Slot} {Q : State → Prop} {Inv : Nat → zMem → zMem → Prop} (hB : B_undo Inv) (F : zFx D cy p m c cL_law 4 s #[Value.ref b] RL) (hX : va_X b L xs s s.heap) (hbl : b < s.heap.size) (hj : j + 7 ≤ L) (hL : L ≤ 3584) (hn : n < 512) (hI : Inv n M N) (hw : lwd D cy adc adm s M N H locs) (hl : lv_has ls 4 [(0, .ref b), (1, .ref (adc 0)), (2, .ref (adm 0)), (3, .int (nI j))]) (kk : ∀ (M1 N1 : zMem) (H1 : Heap) (locs1 : List Loc), Inv (n + 1) M1 N1 → lwd D cy adc adm s M1 N1 H1 locs1 → W p l e room_1 s m #[Value.ref b] below meth c H1 locs1 lCells lSlots Q (F0 m 1798 ls [])) : W p l e room_1 s m #[Value.ref b] below meth c H locs lCells lSlots Q (F0 m 1234 ls []) := by
  have hx := F.1.1
  have hb := F.1.2.1
  have hbA : ¬ s.heap.size ≤ b := Nat.not_le.mpr hbl
  obtain ⟨r, M1, N1, h1, h2, hI1⟩ := hB n M N  hn hI
  refine lv_aload_n hx hb dL_law_1234 rfl (lv_at hl 1 rfl) ?_
  refine l_cI F hw hl.1 (As := []) (rest := []) (ztX11_undo l D cy shC adc l_kC h1) zyX11_undo zkL_124 ⟨rfl, rfl⟩ ⟨Nat.le_of_ble_eq_true rfl, Nat.le_of_ble_eq_true rfl⟩ rfl rfl (Nat.le_of_ble_eq_true rfl) dL_law_1235 rfl (fun H locs hw => ?_)
  refine lv_aload_n hx hb dL_law_1238 rfl (lv_at hl 2 rfl) ?_
  refine l_mI F hw hl.1 (As := []) (rest := [.int r]) (ztX12_undo l D cy shM adm l_kM h2) zyX12_undo zkL_127 ⟨rfl, rfl⟩ ⟨Nat.le_of_ble_eq_true rfl, Nat.le_of_ble_eq_true rfl⟩ rfl rfl (Nat.le_of_ble_eq_true rfl) dL_law_1239 rfl (fun H locs hw => ?_)
  refine lv_icmp_eq (tgt := 1798) hx hb dL_law_1242 (by decide) (fun _ => ?_) (fun c1 => absurd rfl c1)
  exact kk _ _ _ _ hI1 hw
def B_axis (Inv : Nat → zMem → zMem → Prop) : Prop := ∀ (n : Nat) (M N : zMem) (v1 v2 : Int32), n < 512 → Inv n M N → ∃ (r : Int32) (M1 N1 : zMem), zX11_axis shC 0 v1 v2 M = some r ∧ zX12_axis shM 0 v1 v2 N = some r ∧ Inv (n + 1) M N
set_option maxHeartbeats 4000000 in
set_option maxRecDepth 100000 in
theorem lc_axis {p : Program} {l : Launch} {e : Env} {s : State} {m : MethodId} {below : List Frame} {meth : Method} {c : Code} {D : va_G} {cy : Nat → ClassId} {b L j n : Nat} {xs : Nat → Int32} {adc adm : Nat → Nat} {M N : zMem} {H : Heap} {locs : List Loc} {ls : Array Slot} {Q : State → Prop} {Inv : Nat → zMem → zMem → Prop} (hB : B_axis Inv) (F : zFx D cy p m c cL_law 4 s #[Value.ref b] RL) (hX : va_X b L xs s s.heap) (hbl : b < s.heap.size) (hj : j + 7 ≤ L) (hL : L ≤ 3584) (hn : n < 512) (hI : Inv n M N) (hw : lwd D cy adc adm s M N H locs) (hl : lv_has ls 4 [(0, .ref b), (1, .ref (adc 0)), (2, .ref (adm 0)), (3, .int (nI j))]) (kk : ∀ (M1 N1 : zMem) (H1 : Heap) (locs1 : List Loc), Inv (n + 1) M1 N1 → lwd D cy adc adm s M1 N1 H1 locs1 → W p l e room_1 s m #[Value.ref b] below meth c H1 locs1 lCells lSlots Q (F0 m 1798 ls [])) : W p l e room_1 s m #[Value.ref b] below meth c H locs lCells lSlots Q (F0 m 1247 ls []) := by
  have hx := F.1.1
  have hb := F.1.2.1
  have hbA : ¬ s.heap.size ≤ b := Nat.not_le.mpr hbl
  obtain ⟨r, M1, N1, h1, h2, hI1⟩ := hB n M N (xs (nI j + (1 : Int32)).toNatClampNeg) (xs (nI j + (2 : Int32)).toNatClampNeg) hn hI
  refine lv_aload_n hx hb dL_law_1247 rfl (lv_at hl 1 rfl) ?_
  refine lv_aload_n hx hb dL_law_1248 rfl (lv_at hl 0 rfl) ?_
  refine lv_iload_n hx hb dL_law_1249 rfl (lv_at hl 3 rfl) ?_
  refine lv_iconst (v := (1 : Int32)) hx hb dL_law_1250 (by decide) ?_
  refine lv_iadd hx hb dL_law_1251 ?_
  refine va_sld hx hb hX hbl hbA hw.2.2.2.1 (l_in (k := 1) hj hL (by decide) (by decide)) dL_law_1252 ?_
  refine lv_aload_n hx hb dL_law_1253 rfl (lv_at hl 0 rfl) ?_
  refine lv_iload_n hx hb dL_law_1254 rfl (lv_at hl 3 rfl) ?_
  refine lv_iconst (v := (2 : Int32)) hx hb dL_law_1255 (by decide) ?_
  refine lv_iadd hx hb dL_law_1256 ?_
  refine va_sld hx hb hX hbl hbA hw.2.2.2.1 (l_in (k := 2) hj hL (by decide) (by decide)) dL_law_1257 ?_
  refine l_cI F hw hl.1 (As := [.int (xs (nI j + (1 : Int32)).toNatClampNeg), .int (xs (nI j + (2 : Int32)).toNatClampNeg)]) (rest := []) (ztX11_axis l D cy shC adc l_kC h1) zyX11_axis zkL_128 ⟨rfl, rfl⟩ ⟨Nat.le_of_ble_eq_true rfl, Nat.le_of_ble_eq_true rfl⟩ rfl rfl (Nat.le_of_ble_eq_true rfl) dL_law_1258 rfl (fun H locs hw => ?_)
  refine lv_aload_n hx hb dL_law_1261 rfl (lv_at hl 2 rfl) ?_
  refine lv_aload_n hx hb dL_law_1262 rfl (lv_at hl 0 rfl) ?_
  refine lv_iload_n hx hb dL_law_1263 rfl (lv_at hl 3 rfl) ?_
  refine lv_iconst (v := (1 : Int32)) hx hb dL_law_1264 (by decide) ?_
  refine lv_iadd hx hb dL_law_1265 ?_
  refine va_sld hx hb hX hbl hbA hw.2.2.2.1 (l_in (k := 1) hj hL (by decide) (by decide)) dL_law_1266 ?_
  refine lv_aload_n hx hb dL_law_1267 rfl (lv_at hl 0 rfl) ?_
  refine lv_iload_n hx hb dL_law_1268 rfl (lv_at hl 3 rfl) ?_
  refine lv_iconst (v := (2 : Int32)) hx hb dL_law_1269 (by decide) ?_
  refine lv_iadd hx hb dL_law_1270 ?_
  refine va_sld hx hb hX hbl hbA hw.2.2.2.1 (l_in (k := 2) hj hL (by decide) (by decide)) dL_law_1271 ?_
  refine l_mI F hw hl.1 (As := [.int (xs (nI j + (1 : Int32)).toNatClampNeg), .int (xs (nI j + (2 : Int32)).toNatClampNeg)]) (rest := [.int r]) (ztX12_axis l D cy shM adm l_kM h2) zyX12_axis zkL_131 ⟨rfl, rfl⟩ ⟨Nat.le_of_ble_eq_true rfl, Nat.le_of_ble_eq_true rfl⟩ rfl rfl (Nat.le_of_ble_eq_true rfl) dL_law_1272 rfl (fun H locs hw => ?_)
  refine lv_icmp_eq (tgt := 1798) hx hb dL_law_1275 (by decide) (fun _ => ?_) (fun c1 => absurd rfl c1)
  exact kk _ _ _ _ hI1 hw
def B_now (Inv : Nat → zMem → zMem → Prop) : Prop := ∀ (n : Nat) (M N : zMem) (v1 v2 : Int32), n < 512 → Inv n M N → ∃ (r : Int32) (M1 N1 : zMem), zX11_now shC 0 v1 v2 M = some r ∧ zX12_now shM 0 v1 v2 N = some r ∧ Inv (n + 1) M N
set_option maxHeartbeats 4000000 in
set_option maxRecDepth 100000 in
theorem lc_now {p : Program} {l : Launch} {e : Env} {s : State} {m : MethodId} {below : List Frame} {meth : Method} {c : Code} {D : va_G} {cy : Nat → ClassId} {b L j n : Nat} {xs : Nat → Int32} {adc adm : Nat → Nat} {M N : zMem} {H : Heap} {locs : List Loc} {ls : Array Slot} {Q : State → Prop} {Inv : Nat → zMem → zMem → Prop} (hB : B_now Inv) (F : zFx D cy p m c cL_law 4 s #[Value.ref b] RL) (hX : va_X b L xs s s.heap) (hbl : b < s.heap.size) (hj : j + 7 ≤ L) (hL : L ≤ 3584) (hn : n < 512) (hI : Inv n M N) (hw : lwd D cy adc adm s M N H locs) (hl : lv_has ls 4 [(0, .ref b), (1, .ref (adc 0)), (2, .ref (adm 0)), (3, .int (nI j))]) (kk : ∀ (M1 N1 : zMem) (H1 : Heap) (locs1 : List Loc), Inv (n + 1) M1 N1 → lwd D cy adc adm s M1 N1 H1 locs1 → W p l e room_1 s m #[Value.ref b] below meth c H1 locs1 lCells lSlots Q (F0 m 1798 ls [])) : W p l e room_1 s m #[Value.ref b] below meth c H locs lCells lSlots Q (F0 m 1280 ls []) := by
  have hx := F.1.1
  have hb := F.1.2.1
  have hbA : ¬ s.heap.size ≤ b := Nat.not_le.mpr hbl
  obtain ⟨r, M1, N1, h1, h2, hI1⟩ := hB n M N (xs (nI j + (1 : Int32)).toNatClampNeg) (xs (nI j + (2 : Int32)).toNatClampNeg) hn hI
  refine lv_aload_n hx hb dL_law_1280 rfl (lv_at hl 1 rfl) ?_
  refine lv_aload_n hx hb dL_law_1281 rfl (lv_at hl 0 rfl) ?_
  refine lv_iload_n hx hb dL_law_1282 rfl (lv_at hl 3 rfl) ?_
  refine lv_iconst (v := (1 : Int32)) hx hb dL_law_1283 (by decide) ?_
  refine lv_iadd hx hb dL_law_1284 ?_
  refine va_sld hx hb hX hbl hbA hw.2.2.2.1 (l_in (k := 1) hj hL (by decide) (by decide)) dL_law_1285 ?_
  refine lv_aload_n hx hb dL_law_1286 rfl (lv_at hl 0 rfl) ?_
  refine lv_iload_n hx hb dL_law_1287 rfl (lv_at hl 3 rfl) ?_
  refine lv_iconst (v := (2 : Int32)) hx hb dL_law_1288 (by decide) ?_
  refine lv_iadd hx hb dL_law_1289 ?_
  refine va_sld hx hb hX hbl hbA hw.2.2.2.1 (l_in (k := 2) hj hL (by decide) (by decide)) dL_law_1290 ?_
  refine l_cI F hw hl.1 (As := [.int (xs (nI j + (1 : Int32)).toNatClampNeg), .int (xs (nI j + (2 : Int32)).toNatClampNeg)]) (rest := []) (ztX11_now l D cy shC adc l_kC h1) zyX11_now zkL_132 ⟨rfl, rfl⟩ ⟨Nat.le_of_ble_eq_true rfl, Nat.le_of_ble_eq_true rfl⟩ rfl rfl (Nat.le_of_ble_eq_true rfl) dL_law_1291 rfl (fun H locs hw => ?_)
  refine lv_aload_n hx hb dL_law_1294 rfl (lv_at hl 2 rfl) ?_
  refine lv_aload_n hx hb dL_law_1295 rfl (lv_at hl 0 rfl) ?_
  refine lv_iload_n hx hb dL_law_1296 rfl (lv_at hl 3 rfl) ?_
  refine lv_iconst (v := (1 : Int32)) hx hb dL_law_1297 (by decide) ?_
  refine lv_iadd hx hb dL_law_1298 ?_
  refine va_sld hx hb hX hbl hbA hw.2.2.2.1 (l_in (k := 1) hj hL (by decide) (by decide)) dL_law_1299 ?_
  refine lv_aload_n hx hb dL_law_1300 rfl (lv_at hl 0 rfl) ?_
  refine lv_iload_n hx hb dL_law_1301 rfl (lv_at hl 3 rfl) ?_
  refine lv_iconst (v := (2 : Int32)) hx hb dL_law_1302 (by decide) ?_
  refine lv_iadd hx hb dL_law_1303 ?_
  refine va_sld hx hb hX hbl hbA hw.2.2.2.1 (l_in (k := 2) hj hL (by decide) (by decide)) dL_law_1304 ?_
  refine l_mI F hw hl.1 (As := [.int (xs (nI j + (1 : Int32)).toNatClampNeg), .int (xs (nI j + (2 : Int32)).toNatClampNeg)]) (rest := [.int r]) (ztX12_now l D cy shM adm l_kM h2) zyX12_now zkL_135 ⟨rfl, rfl⟩ ⟨Nat.le_of_ble_eq_true rfl, Nat.le_of_ble_eq_true rfl⟩ rfl rfl (Nat.le_of_ble_eq_true rfl) dL_law_1305 rfl (fun H locs hw => ?_)
  refine lv_icmp_eq (tgt := 1798) hx hb dL_law_1308 (by decide) (fun _ => ?_) (fun c1 => absurd rfl c1)
  exact kk _ _ _ _ hI1 hw
def B_bands (Inv : Nat → zMem → zMem → Prop) : Prop := ∀ (n : Nat) (M N : zMem) (v1 v2 : Int32), n < 512 → Inv n M N → ∃ (r : Int32) (M1 N1 : zMem), zX11_bands shC 0 v1 v2 M = some r ∧ zX12_bands shM 0 v1 v2 N = some r ∧ Inv (n + 1) M N
set_option maxHeartbeats 4000000 in
set_option maxRecDepth 100000 in
theorem lc_bands {p : Program} {l : Launch} {e : Env} {s : State} {m : MethodId} {below : List Frame} {meth : Method} {c : Code} {D : va_G} {cy : Nat → ClassId} {b L j n : Nat} {xs : Nat → Int32} {adc adm : Nat → Nat} {M N : zMem} {H : Heap} {locs : List Loc} {ls : Array Slot} {Q : State → Prop} {Inv : Nat → zMem → zMem → Prop} (hB : B_bands Inv) (F : zFx D cy p m c cL_law 4 s #[Value.ref b] RL) (hX : va_X b L xs s s.heap) (hbl : b < s.heap.size) (hj : j + 7 ≤ L) (hL : L ≤ 3584) (hn : n < 512) (hI : Inv n M N) (hw : lwd D cy adc adm s M N H locs) (hl : lv_has ls 4 [(0, .ref b), (1, .ref (adc 0)), (2, .ref (adm 0)), (3, .int (nI j))]) (kk : ∀ (M1 N1 : zMem) (H1 : Heap) (locs1 : List Loc), Inv (n + 1) M1 N1 → lwd D cy adc adm s M1 N1 H1 locs1 → W p l e room_1 s m #[Value.ref b] below meth c H1 locs1 lCells lSlots Q (F0 m 1798 ls [])) : W p l e room_1 s m #[Value.ref b] below meth c H locs lCells lSlots Q (F0 m 1313 ls []) := by
  have hx := F.1.1
  have hb := F.1.2.1
  have hbA : ¬ s.heap.size ≤ b := Nat.not_le.mpr hbl
  obtain ⟨r, M1, N1, h1, h2, hI1⟩ := hB n M N (xs (nI j + (1 : Int32)).toNatClampNeg) (xs (nI j + (2 : Int32)).toNatClampNeg) hn hI
  refine lv_aload_n hx hb dL_law_1313 rfl (lv_at hl 1 rfl) ?_
  refine lv_aload_n hx hb dL_law_1314 rfl (lv_at hl 0 rfl) ?_
  refine lv_iload_n hx hb dL_law_1315 rfl (lv_at hl 3 rfl) ?_
  refine lv_iconst (v := (1 : Int32)) hx hb dL_law_1316 (by decide) ?_
  refine lv_iadd hx hb dL_law_1317 ?_
  refine va_sld hx hb hX hbl hbA hw.2.2.2.1 (l_in (k := 1) hj hL (by decide) (by decide)) dL_law_1318 ?_
  refine lv_aload_n hx hb dL_law_1319 rfl (lv_at hl 0 rfl) ?_
  refine lv_iload_n hx hb dL_law_1320 rfl (lv_at hl 3 rfl) ?_
  refine lv_iconst (v := (2 : Int32)) hx hb dL_law_1321 (by decide) ?_
  refine lv_iadd hx hb dL_law_1322 ?_
  refine va_sld hx hb hX hbl hbA hw.2.2.2.1 (l_in (k := 2) hj hL (by decide) (by decide)) dL_law_1323 ?_
  refine l_cI F hw hl.1 (As := [.int (xs (nI j + (1 : Int32)).toNatClampNeg), .int (xs (nI j + (2 : Int32)).toNatClampNeg)]) (rest := []) (ztX11_bands l D cy shC adc l_kC h1) zyX11_bands zkL_136 ⟨rfl, rfl⟩ ⟨Nat.le_of_ble_eq_true rfl, Nat.le_of_ble_eq_true rfl⟩ rfl rfl (Nat.le_of_ble_eq_true rfl) dL_law_1324 rfl (fun H locs hw => ?_)
  refine lv_aload_n hx hb dL_law_1327 rfl (lv_at hl 2 rfl) ?_
  refine lv_aload_n hx hb dL_law_1328 rfl (lv_at hl 0 rfl) ?_
  refine lv_iload_n hx hb dL_law_1329 rfl (lv_at hl 3 rfl) ?_
  refine lv_iconst (v := (1 : Int32)) hx hb dL_law_1330 (by decide) ?_
  refine lv_iadd hx hb dL_law_1331 ?_
  refine va_sld hx hb hX hbl hbA hw.2.2.2.1 (l_in (k := 1) hj hL (by decide) (by decide)) dL_law_1332 ?_
  refine lv_aload_n hx hb dL_law_1333 rfl (lv_at hl 0 rfl) ?_
  refine lv_iload_n hx hb dL_law_1334 rfl (lv_at hl 3 rfl) ?_
  refine lv_iconst (v := (2 : Int32)) hx hb dL_law_1335 (by decide) ?_
  refine lv_iadd hx hb dL_law_1336 ?_
  refine va_sld hx hb hX hbl hbA hw.2.2.2.1 (l_in (k := 2) hj hL (by decide) (by decide)) dL_law_1337 ?_
  refine l_mI F hw hl.1 (As := [.int (xs (nI j + (1 : Int32)).toNatClampNeg), .int (xs (nI j + (2 : Int32)).toNatClampNeg)]) (rest := [.int r]) (ztX12_bands l D cy shM adm l_kM h2) zyX12_bands zkL_139 ⟨rfl, rfl⟩ ⟨Nat.le_of_ble_eq_true rfl, Nat.le_of_ble_eq_true rfl⟩ rfl rfl (Nat.le_of_ble_eq_true rfl) dL_law_1338 rfl (fun H locs hw => ?_)
  refine lv_icmp_eq (tgt := 1798) hx hb dL_law_1341 (by decide) (fun _ => ?_) (fun c1 => absurd rfl c1)
  exact kk _ _ _ _ hI1 hw
def B_stallIn (Inv : Nat → zMem → zMem → Prop) : Prop := ∀ (n : Nat) (M N : zMem) (v1 : Int32), n < 512 → Inv n M N → ∃ (r : Int32) (M1 N1 : zMem), zX11_stallIn shC 0 v1 M = some (r, M1) ∧ zX12_stallIn shM 0 v1 N = some (r, N1) ∧ Inv (n + 1) M1 N1
set_option maxHeartbeats 4000000 in
set_option maxRecDepth 100000 in
theorem lc_stallIn {p : Program} {l : Launch} {e : Env} {s : State} {m : MethodId} {below : List Frame} {meth : Method} {c : Code} {D : va_G} {cy : Nat → ClassId} {b L j n : Nat} {xs : Nat → Int32} {adc adm : Nat → Nat} {M N : zMem} {H : Heap} {locs : List Loc} {ls : Array Slot} {Q : State → Prop} {Inv : Nat → zMem → zMem → Prop} (hB : B_stallIn Inv) (F : zFx D cy p m c cL_law 4 s #[Value.ref b] RL) (hX : va_X b L xs s s.heap) (hbl : b < s.heap.size) (hj : j + 7 ≤ L) (hL : L ≤ 3584) (hn : n < 512) (hI : Inv n M N) (hw : lwd D cy adc adm s M N H locs) (hl : lv_has ls 4 [(0, .ref b), (1, .ref (adc 0)), (2, .ref (adm 0)), (3, .int (nI j))]) (kk : ∀ (M1 N1 : zMem) (H1 : Heap) (locs1 : List Loc), Inv (n + 1) M1 N1 → lwd D cy adc adm s M1 N1 H1 locs1 → W p l e room_1 s m #[Value.ref b] below meth c H1 locs1 lCells lSlots Q (F0 m 1798 ls [])) : W p l e room_1 s m #[Value.ref b] below meth c H locs lCells lSlots Q (F0 m 1346 ls []) := by
  have hx := F.1.1
  have hb := F.1.2.1
  have hbA : ¬ s.heap.size ≤ b := Nat.not_le.mpr hbl
  obtain ⟨r, M1, N1, h1, h2, hI1⟩ := hB n M N (xs (nI j + (1 : Int32)).toNatClampNeg) hn hI
  refine lv_aload_n hx hb dL_law_1346 rfl (lv_at hl 1 rfl) ?_
  refine lv_aload_n hx hb dL_law_1347 rfl (lv_at hl 0 rfl) ?_
  refine lv_iload_n hx hb dL_law_1348 rfl (lv_at hl 3 rfl) ?_
  refine lv_iconst (v := (1 : Int32)) hx hb dL_law_1349 (by decide) ?_
  refine lv_iadd hx hb dL_law_1350 ?_
  refine va_sld hx hb hX hbl hbA hw.2.2.2.1 (l_in (k := 1) hj hL (by decide) (by decide)) dL_law_1351 ?_
  refine l_cI F hw hl.1 (As := [.int (xs (nI j + (1 : Int32)).toNatClampNeg)]) (rest := []) (ztX11_stallIn l D cy shC adc l_kC h1) zyX11_stallIn zkL_140 ⟨rfl, rfl⟩ ⟨Nat.le_of_ble_eq_true rfl, Nat.le_of_ble_eq_true rfl⟩ rfl rfl (Nat.le_of_ble_eq_true rfl) dL_law_1352 rfl (fun H locs hw => ?_)
  refine lv_aload_n hx hb dL_law_1355 rfl (lv_at hl 2 rfl) ?_
  refine lv_aload_n hx hb dL_law_1356 rfl (lv_at hl 0 rfl) ?_
  refine lv_iload_n hx hb dL_law_1357 rfl (lv_at hl 3 rfl) ?_
  refine lv_iconst (v := (1 : Int32)) hx hb dL_law_1358 (by decide) ?_
  refine lv_iadd hx hb dL_law_1359 ?_
  refine va_sld hx hb hX hbl hbA hw.2.2.2.1 (l_in (k := 1) hj hL (by decide) (by decide)) dL_law_1360 ?_
  refine l_mI F hw hl.1 (As := [.int (xs (nI j + (1 : Int32)).toNatClampNeg)]) (rest := [.int r]) (ztX12_stallIn l D cy shM adm l_kM h2) zyX12_stallIn zkL_143 ⟨rfl, rfl⟩ ⟨Nat.le_of_ble_eq_true rfl, Nat.le_of_ble_eq_true rfl⟩ rfl rfl (Nat.le_of_ble_eq_true rfl) dL_law_1361 rfl (fun H locs hw => ?_)
  refine lv_icmp_eq (tgt := 1798) hx hb dL_law_1364 (by decide) (fun _ => ?_) (fun c1 => absurd rfl c1)
  exact kk _ _ _ _ hI1 hw
def B_calmIn (Inv : Nat → zMem → zMem → Prop) : Prop := ∀ (n : Nat) (M N : zMem) , n < 512 → Inv n M N → ∃ (r : Int32) (M1 N1 : zMem), zX11_calmIn shC 0  M = some (r, M1) ∧ zX12_calmIn shM 0  N = some (r, N1) ∧ Inv (n + 1) M1 N1
set_option maxHeartbeats 4000000 in
set_option maxRecDepth 100000 in
theorem lc_calmIn {p : Program} {l : Launch} {e : Env} {s : State} {m : MethodId} {below : List Frame} {meth : Method} {c : Code} {D : va_G} {cy : Nat → ClassId} {b L j n : Nat} {xs : Nat → Int32} {adc adm : Nat → Nat} {M N : zMem} {H : Heap} {locs : List Loc} {ls : Array Slot} {Q : State → Prop} {Inv : Nat → zMem → zMem → Prop} (hB : B_calmIn Inv) (F : zFx D cy p m c cL_law 4 s #[Value.ref b] RL) (hX : va_X b L xs s s.heap) (hbl : b < s.heap.size) (hj : j + 7 ≤ L) (hL : L ≤ 3584) (hn : n < 512) (hI : Inv n M N) (hw : lwd D cy adc adm s M N H locs) (hl : lv_has ls 4 [(0, .ref b), (1, .ref (adc 0)), (2, .ref (adm 0)), (3, .int (nI j))]) (kk : ∀ (M1 N1 : zMem) (H1 : Heap) (locs1 : List Loc), Inv (n + 1) M1 N1 → lwd D cy adc adm s M1 N1 H1 locs1 → W p l e room_1 s m #[Value.ref b] below meth c H1 locs1 lCells lSlots Q (F0 m 1798 ls [])) : W p l e room_1 s m #[Value.ref b] below meth c H locs lCells lSlots Q (F0 m 1369 ls []) := by
  have hx := F.1.1
  have hb := F.1.2.1
  have hbA : ¬ s.heap.size ≤ b := Nat.not_le.mpr hbl
  obtain ⟨r, M1, N1, h1, h2, hI1⟩ := hB n M N  hn hI
  refine lv_aload_n hx hb dL_law_1369 rfl (lv_at hl 1 rfl) ?_
  refine l_cI F hw hl.1 (As := []) (rest := []) (ztX11_calmIn l D cy shC adc l_kC h1) zyX11_calmIn zkL_144 ⟨rfl, rfl⟩ ⟨Nat.le_of_ble_eq_true rfl, Nat.le_of_ble_eq_true rfl⟩ rfl rfl (Nat.le_of_ble_eq_true rfl) dL_law_1370 rfl (fun H locs hw => ?_)
  refine lv_aload_n hx hb dL_law_1373 rfl (lv_at hl 2 rfl) ?_
  refine l_mI F hw hl.1 (As := []) (rest := [.int r]) (ztX12_calmIn l D cy shM adm l_kM h2) zyX12_calmIn zkL_147 ⟨rfl, rfl⟩ ⟨Nat.le_of_ble_eq_true rfl, Nat.le_of_ble_eq_true rfl⟩ rfl rfl (Nat.le_of_ble_eq_true rfl) dL_law_1374 rfl (fun H locs hw => ?_)
  refine lv_icmp_eq (tgt := 1798) hx hb dL_law_1377 (by decide) (fun _ => ?_) (fun c1 => absurd rfl c1)
  exact kk _ _ _ _ hI1 hw
def B_carries (Inv : Nat → zMem → zMem → Prop) : Prop := ∀ (n : Nat) (M N : zMem) (v1 v2 : Int32), n < 512 → Inv n M N → ∃ (r : Int32) (M1 N1 : zMem), zX11_carries shC 0 v1 v2 M = some (r, M1) ∧ zX12_carries shM 0 v1 v2 N = some (r, N1) ∧ Inv (n + 1) M1 N1
set_option maxHeartbeats 4000000 in
set_option maxRecDepth 100000 in
theorem lc_carries {p : Program} {l : Launch} {e : Env} {s : State} {m : MethodId} {below : List Frame} {meth : Method} {c : Code} {D : va_G} {cy : Nat → ClassId} {b L j n : Nat} {xs : Nat → Int32} {adc adm : Nat → Nat} {M N : zMem} {H : Heap} {locs : List Loc} {ls : Array Slot} {Q : State → Prop} {Inv : Nat → zMem → zMem → Prop} (hB : B_carries Inv) (F : zFx D cy p m c cL_law 4 s #[Value.ref b] RL) (hX : va_X b L xs s s.heap) (hbl : b < s.heap.size) (hj : j + 7 ≤ L) (hL : L ≤ 3584) (hn : n < 512) (hI : Inv n M N) (hw : lwd D cy adc adm s M N H locs) (hl : lv_has ls 4 [(0, .ref b), (1, .ref (adc 0)), (2, .ref (adm 0)), (3, .int (nI j))]) (kk : ∀ (M1 N1 : zMem) (H1 : Heap) (locs1 : List Loc), Inv (n + 1) M1 N1 → lwd D cy adc adm s M1 N1 H1 locs1 → W p l e room_1 s m #[Value.ref b] below meth c H1 locs1 lCells lSlots Q (F0 m 1798 ls [])) : W p l e room_1 s m #[Value.ref b] below meth c H locs lCells lSlots Q (F0 m 1382 ls []) := by
  have hx := F.1.1
  have hb := F.1.2.1
  have hbA : ¬ s.heap.size ≤ b := Nat.not_le.mpr hbl
  obtain ⟨r, M1, N1, h1, h2, hI1⟩ := hB n M N (xs (nI j + (1 : Int32)).toNatClampNeg) (xs (nI j + (2 : Int32)).toNatClampNeg) hn hI
  refine lv_aload_n hx hb dL_law_1382 rfl (lv_at hl 1 rfl) ?_
  refine lv_aload_n hx hb dL_law_1383 rfl (lv_at hl 0 rfl) ?_
  refine lv_iload_n hx hb dL_law_1384 rfl (lv_at hl 3 rfl) ?_
  refine lv_iconst (v := (1 : Int32)) hx hb dL_law_1385 (by decide) ?_
  refine lv_iadd hx hb dL_law_1386 ?_
  refine va_sld hx hb hX hbl hbA hw.2.2.2.1 (l_in (k := 1) hj hL (by decide) (by decide)) dL_law_1387 ?_
  refine lv_aload_n hx hb dL_law_1388 rfl (lv_at hl 0 rfl) ?_
  refine lv_iload_n hx hb dL_law_1389 rfl (lv_at hl 3 rfl) ?_
  refine lv_iconst (v := (2 : Int32)) hx hb dL_law_1390 (by decide) ?_
  refine lv_iadd hx hb dL_law_1391 ?_
  refine va_sld hx hb hX hbl hbA hw.2.2.2.1 (l_in (k := 2) hj hL (by decide) (by decide)) dL_law_1392 ?_
  refine l_cI F hw hl.1 (As := [.int (xs (nI j + (1 : Int32)).toNatClampNeg), .int (xs (nI j + (2 : Int32)).toNatClampNeg)]) (rest := []) (ztX11_carries l D cy shC adc l_kC h1) zyX11_carries zkL_148 ⟨rfl, rfl⟩ ⟨Nat.le_of_ble_eq_true rfl, Nat.le_of_ble_eq_true rfl⟩ rfl rfl (Nat.le_of_ble_eq_true rfl) dL_law_1393 rfl (fun H locs hw => ?_)
  refine lv_aload_n hx hb dL_law_1396 rfl (lv_at hl 2 rfl) ?_
  refine lv_aload_n hx hb dL_law_1397 rfl (lv_at hl 0 rfl) ?_
  refine lv_iload_n hx hb dL_law_1398 rfl (lv_at hl 3 rfl) ?_
  refine lv_iconst (v := (1 : Int32)) hx hb dL_law_1399 (by decide) ?_
  refine lv_iadd hx hb dL_law_1400 ?_
  refine va_sld hx hb hX hbl hbA hw.2.2.2.1 (l_in (k := 1) hj hL (by decide) (by decide)) dL_law_1401 ?_
  refine lv_aload_n hx hb dL_law_1402 rfl (lv_at hl 0 rfl) ?_
  refine lv_iload_n hx hb dL_law_1403 rfl (lv_at hl 3 rfl) ?_
  refine lv_iconst (v := (2 : Int32)) hx hb dL_law_1404 (by decide) ?_
  refine lv_iadd hx hb dL_law_1405 ?_
  refine va_sld hx hb hX hbl hbA hw.2.2.2.1 (l_in (k := 2) hj hL (by decide) (by decide)) dL_law_1406 ?_
  refine l_mI F hw hl.1 (As := [.int (xs (nI j + (1 : Int32)).toNatClampNeg), .int (xs (nI j + (2 : Int32)).toNatClampNeg)]) (rest := [.int r]) (ztX12_carries l D cy shM adm l_kM h2) zyX12_carries zkL_151 ⟨rfl, rfl⟩ ⟨Nat.le_of_ble_eq_true rfl, Nat.le_of_ble_eq_true rfl⟩ rfl rfl (Nat.le_of_ble_eq_true rfl) dL_law_1407 rfl (fun H locs hw => ?_)
  refine lv_icmp_eq (tgt := 1798) hx hb dL_law_1410 (by decide) (fun _ => ?_) (fun c1 => absurd rfl c1)
  exact kk _ _ _ _ hI1 hw
def B_strain (Inv : Nat → zMem → zMem → Prop) : Prop := ∀ (n : Nat) (M N : zMem) (v1 v2 : Int32), n < 512 → Inv n M N → ∃ (r : Int32) (M1 N1 : zMem), zX11_strain shC 0 v1 v2 M = some (r, M1) ∧ zX12_strain shM 0 v1 v2 N = some (r, N1) ∧ Inv (n + 1) M1 N1
set_option maxHeartbeats 4000000 in
set_option maxRecDepth 100000 in
theorem lc_strain {p : Program} {l : Launch} {e : Env} {s : State} {m : MethodId} {below : List Frame} {meth : Method} {c : Code} {D : va_G} {cy : Nat → ClassId} {b L j n : Nat} {xs : Nat → Int32} {adc adm : Nat → Nat} {M N : zMem} {H : Heap} {locs : List Loc} {ls : Array Slot} {Q : State → Prop} {Inv : Nat → zMem → zMem → Prop} (hB : B_strain Inv) (F : zFx D cy p m c cL_law 4 s #[Value.ref b] RL) (hX : va_X b L xs s s.heap) (hbl : b < s.heap.size) (hj : j + 7 ≤ L) (hL : L ≤ 3584) (hn : n < 512) (hI : Inv n M N) (hw : lwd D cy adc adm s M N H locs) (hl : lv_has ls 4 [(0, .ref b), (1, .ref (adc 0)), (2, .ref (adm 0)), (3, .int (nI j))]) (kk : ∀ (M1 N1 : zMem) (H1 : Heap) (locs1 : List Loc), Inv (n + 1) M1 N1 → lwd D cy adc adm s M1 N1 H1 locs1 → W p l e room_1 s m #[Value.ref b] below meth c H1 locs1 lCells lSlots Q (F0 m 1798 ls [])) : W p l e room_1 s m #[Value.ref b] below meth c H locs lCells lSlots Q (F0 m 1415 ls []) := by
  have hx := F.1.1
  have hb := F.1.2.1
  have hbA : ¬ s.heap.size ≤ b := Nat.not_le.mpr hbl
  obtain ⟨r, M1, N1, h1, h2, hI1⟩ := hB n M N (xs (nI j + (1 : Int32)).toNatClampNeg) (xs (nI j + (2 : Int32)).toNatClampNeg) hn hI
  refine lv_aload_n hx hb dL_law_1415 rfl (lv_at hl 1 rfl) ?_
  refine lv_aload_n hx hb dL_law_1416 rfl (lv_at hl 0 rfl) ?_
  refine lv_iload_n hx hb dL_law_1417 rfl (lv_at hl 3 rfl) ?_
  refine lv_iconst (v := (1 : Int32)) hx hb dL_law_1418 (by decide) ?_
  refine lv_iadd hx hb dL_law_1419 ?_
  refine va_sld hx hb hX hbl hbA hw.2.2.2.1 (l_in (k := 1) hj hL (by decide) (by decide)) dL_law_1420 ?_
  refine lv_aload_n hx hb dL_law_1421 rfl (lv_at hl 0 rfl) ?_
  refine lv_iload_n hx hb dL_law_1422 rfl (lv_at hl 3 rfl) ?_
  refine lv_iconst (v := (2 : Int32)) hx hb dL_law_1423 (by decide) ?_
  refine lv_iadd hx hb dL_law_1424 ?_
  refine va_sld hx hb hX hbl hbA hw.2.2.2.1 (l_in (k := 2) hj hL (by decide) (by decide)) dL_law_1425 ?_
  refine l_cI F hw hl.1 (As := [.int (xs (nI j + (1 : Int32)).toNatClampNeg), .int (xs (nI j + (2 : Int32)).toNatClampNeg)]) (rest := []) (ztX11_strain l D cy shC adc l_kC h1) zyX11_strain zkL_152 ⟨rfl, rfl⟩ ⟨Nat.le_of_ble_eq_true rfl, Nat.le_of_ble_eq_true rfl⟩ rfl rfl (Nat.le_of_ble_eq_true rfl) dL_law_1426 rfl (fun H locs hw => ?_)
  refine lv_aload_n hx hb dL_law_1429 rfl (lv_at hl 2 rfl) ?_
  refine lv_aload_n hx hb dL_law_1430 rfl (lv_at hl 0 rfl) ?_
  refine lv_iload_n hx hb dL_law_1431 rfl (lv_at hl 3 rfl) ?_
  refine lv_iconst (v := (1 : Int32)) hx hb dL_law_1432 (by decide) ?_
  refine lv_iadd hx hb dL_law_1433 ?_
  refine va_sld hx hb hX hbl hbA hw.2.2.2.1 (l_in (k := 1) hj hL (by decide) (by decide)) dL_law_1434 ?_
  refine lv_aload_n hx hb dL_law_1435 rfl (lv_at hl 0 rfl) ?_
  refine lv_iload_n hx hb dL_law_1436 rfl (lv_at hl 3 rfl) ?_
  refine lv_iconst (v := (2 : Int32)) hx hb dL_law_1437 (by decide) ?_
  refine lv_iadd hx hb dL_law_1438 ?_
  refine va_sld hx hb hX hbl hbA hw.2.2.2.1 (l_in (k := 2) hj hL (by decide) (by decide)) dL_law_1439 ?_
  refine l_mI F hw hl.1 (As := [.int (xs (nI j + (1 : Int32)).toNatClampNeg), .int (xs (nI j + (2 : Int32)).toNatClampNeg)]) (rest := [.int r]) (ztX12_strain l D cy shM adm l_kM h2) zyX12_strain zkL_155 ⟨rfl, rfl⟩ ⟨Nat.le_of_ble_eq_true rfl, Nat.le_of_ble_eq_true rfl⟩ rfl rfl (Nat.le_of_ble_eq_true rfl) dL_law_1440 rfl (fun H locs hw => ?_)
  refine lv_icmp_eq (tgt := 1798) hx hb dL_law_1443 (by decide) (fun _ => ?_) (fun c1 => absurd rfl c1)
  exact kk _ _ _ _ hI1 hw
def B_swings (Inv : Nat → zMem → zMem → Prop) : Prop := ∀ (n : Nat) (M N : zMem) (v1 v2 v3 : Int32), n < 512 → Inv n M N → ∃ (r : Int32) (M1 N1 : zMem), zX11_swings shC 0 v1 v2 v3 M = some (r, M1) ∧ zX12_swings shM 0 v1 v2 v3 N = some r ∧ Inv (n + 1) M1 N
set_option maxHeartbeats 4000000 in
set_option maxRecDepth 100000 in
theorem lc_swings {p : Program} {l : Launch} {e : Env} {s : State} {m : MethodId} {below : List Frame} {meth : Method} {c : Code} {D : va_G} {cy : Nat → ClassId} {b L j n : Nat} {xs : Nat → Int32} {adc adm : Nat → Nat} {M N : zMem} {H : Heap} {locs : List Loc} {ls : Array Slot} {Q : State → Prop} {Inv : Nat → zMem → zMem → Prop} (hB : B_swings Inv) (F : zFx D cy p m c cL_law 4 s #[Value.ref b] RL) (hX : va_X b L xs s s.heap) (hbl : b < s.heap.size) (hj : j + 7 ≤ L) (hL : L ≤ 3584) (hn : n < 512) (hI : Inv n M N) (hw : lwd D cy adc adm s M N H locs) (hl : lv_has ls 4 [(0, .ref b), (1, .ref (adc 0)), (2, .ref (adm 0)), (3, .int (nI j))]) (kk : ∀ (M1 N1 : zMem) (H1 : Heap) (locs1 : List Loc), Inv (n + 1) M1 N1 → lwd D cy adc adm s M1 N1 H1 locs1 → W p l e room_1 s m #[Value.ref b] below meth c H1 locs1 lCells lSlots Q (F0 m 1798 ls [])) : W p l e room_1 s m #[Value.ref b] below meth c H locs lCells lSlots Q (F0 m 1448 ls []) := by
  have hx := F.1.1
  have hb := F.1.2.1
  have hbA : ¬ s.heap.size ≤ b := Nat.not_le.mpr hbl
  obtain ⟨r, M1, N1, h1, h2, hI1⟩ := hB n M N (xs (nI j + (1 : Int32)).toNatClampNeg) (xs (nI j + (2 : Int32)).toNatClampNeg) (xs (nI j + (3 : Int32)).toNatClampNeg) hn hI
  refine lv_aload_n hx hb dL_law_1448 rfl (lv_at hl 1 rfl) ?_
  refine lv_aload_n hx hb dL_law_1449 rfl (lv_at hl 0 rfl) ?_
  refine lv_iload_n hx hb dL_law_1450 rfl (lv_at hl 3 rfl) ?_
  refine lv_iconst (v := (1 : Int32)) hx hb dL_law_1451 (by decide) ?_
  refine lv_iadd hx hb dL_law_1452 ?_
  refine va_sld hx hb hX hbl hbA hw.2.2.2.1 (l_in (k := 1) hj hL (by decide) (by decide)) dL_law_1453 ?_
  refine lv_aload_n hx hb dL_law_1454 rfl (lv_at hl 0 rfl) ?_
  refine lv_iload_n hx hb dL_law_1455 rfl (lv_at hl 3 rfl) ?_
  refine lv_iconst (v := (2 : Int32)) hx hb dL_law_1456 (by decide) ?_
  refine lv_iadd hx hb dL_law_1457 ?_
  refine va_sld hx hb hX hbl hbA hw.2.2.2.1 (l_in (k := 2) hj hL (by decide) (by decide)) dL_law_1458 ?_
  refine lv_aload_n hx hb dL_law_1459 rfl (lv_at hl 0 rfl) ?_
  refine lv_iload_n hx hb dL_law_1460 rfl (lv_at hl 3 rfl) ?_
  refine lv_iconst (v := (3 : Int32)) hx hb dL_law_1461 (by decide) ?_
  refine lv_iadd hx hb dL_law_1462 ?_
  refine va_sld hx hb hX hbl hbA hw.2.2.2.1 (l_in (k := 3) hj hL (by decide) (by decide)) dL_law_1463 ?_
  refine l_cI F hw hl.1 (As := [.int (xs (nI j + (1 : Int32)).toNatClampNeg), .int (xs (nI j + (2 : Int32)).toNatClampNeg), .int (xs (nI j + (3 : Int32)).toNatClampNeg)]) (rest := []) (ztX11_swings l D cy shC adc l_kC h1) zyX11_swings zkL_156 ⟨rfl, rfl⟩ ⟨Nat.le_of_ble_eq_true rfl, Nat.le_of_ble_eq_true rfl⟩ rfl rfl (Nat.le_of_ble_eq_true rfl) dL_law_1464 rfl (fun H locs hw => ?_)
  refine lv_aload_n hx hb dL_law_1467 rfl (lv_at hl 2 rfl) ?_
  refine lv_aload_n hx hb dL_law_1468 rfl (lv_at hl 0 rfl) ?_
  refine lv_iload_n hx hb dL_law_1469 rfl (lv_at hl 3 rfl) ?_
  refine lv_iconst (v := (1 : Int32)) hx hb dL_law_1470 (by decide) ?_
  refine lv_iadd hx hb dL_law_1471 ?_
  refine va_sld hx hb hX hbl hbA hw.2.2.2.1 (l_in (k := 1) hj hL (by decide) (by decide)) dL_law_1472 ?_
  refine lv_aload_n hx hb dL_law_1473 rfl (lv_at hl 0 rfl) ?_
  refine lv_iload_n hx hb dL_law_1474 rfl (lv_at hl 3 rfl) ?_
  refine lv_iconst (v := (2 : Int32)) hx hb dL_law_1475 (by decide) ?_
  refine lv_iadd hx hb dL_law_1476 ?_
  refine va_sld hx hb hX hbl hbA hw.2.2.2.1 (l_in (k := 2) hj hL (by decide) (by decide)) dL_law_1477 ?_
  refine lv_aload_n hx hb dL_law_1478 rfl (lv_at hl 0 rfl) ?_
  refine lv_iload_n hx hb dL_law_1479 rfl (lv_at hl 3 rfl) ?_
  refine lv_iconst (v := (3 : Int32)) hx hb dL_law_1480 (by decide) ?_
  refine lv_iadd hx hb dL_law_1481 ?_
  refine va_sld hx hb hX hbl hbA hw.2.2.2.1 (l_in (k := 3) hj hL (by decide) (by decide)) dL_law_1482 ?_
  refine l_mI F hw hl.1 (As := [.int (xs (nI j + (1 : Int32)).toNatClampNeg), .int (xs (nI j + (2 : Int32)).toNatClampNeg), .int (xs (nI j + (3 : Int32)).toNatClampNeg)]) (rest := [.int r]) (ztX12_swings l D cy shM adm l_kM h2) zyX12_swings zkL_159 ⟨rfl, rfl⟩ ⟨Nat.le_of_ble_eq_true rfl, Nat.le_of_ble_eq_true rfl⟩ rfl rfl (Nat.le_of_ble_eq_true rfl) dL_law_1483 rfl (fun H locs hw => ?_)
  refine lv_icmp_eq (tgt := 1798) hx hb dL_law_1486 (by decide) (fun _ => ?_) (fun c1 => absurd rfl c1)
  exact kk _ _ _ _ hI1 hw
def B_settles (Inv : Nat → zMem → zMem → Prop) : Prop := ∀ (n : Nat) (M N : zMem) (v1 v2 : Int32), n < 512 → Inv n M N → ∃ (r : Int32) (M1 N1 : zMem), zX11_settles shC 0 v1 v2 M = some (r, M1) ∧ zX12_settles shM 0 v1 v2 N = some r ∧ Inv (n + 1) M1 N
set_option maxHeartbeats 4000000 in
set_option maxRecDepth 100000 in
theorem lc_settles {p : Program} {l : Launch} {e : Env} {s : State} {m : MethodId} {below : List Frame} {meth : Method} {c : Code} {D : va_G} {cy : Nat → ClassId} {b L j n : Nat} {xs : Nat → Int32} {adc adm : Nat → Nat} {M N : zMem} {H : Heap} {locs : List Loc} {ls : Array Slot} {Q : State → Prop} {Inv : Nat → zMem → zMem → Prop} (hB : B_settles Inv) (F : zFx D cy p m c cL_law 4 s #[Value.ref b] RL) (hX : va_X b L xs s s.heap) (hbl : b < s.heap.size) (hj : j + 7 ≤ L) (hL : L ≤ 3584) (hn : n < 512) (hI : Inv n M N) (hw : lwd D cy adc adm s M N H locs) (hl : lv_has ls 4 [(0, .ref b), (1, .ref (adc 0)), (2, .ref (adm 0)), (3, .int (nI j))]) (kk : ∀ (M1 N1 : zMem) (H1 : Heap) (locs1 : List Loc), Inv (n + 1) M1 N1 → lwd D cy adc adm s M1 N1 H1 locs1 → W p l e room_1 s m #[Value.ref b] below meth c H1 locs1 lCells lSlots Q (F0 m 1798 ls [])) : W p l e room_1 s m #[Value.ref b] below meth c H locs lCells lSlots Q (F0 m 1491 ls []) := by
  have hx := F.1.1
  have hb := F.1.2.1
  have hbA : ¬ s.heap.size ≤ b := Nat.not_le.mpr hbl
  obtain ⟨r, M1, N1, h1, h2, hI1⟩ := hB n M N (xs (nI j + (1 : Int32)).toNatClampNeg) (xs (nI j + (2 : Int32)).toNatClampNeg) hn hI
  refine lv_aload_n hx hb dL_law_1491 rfl (lv_at hl 1 rfl) ?_
  refine lv_aload_n hx hb dL_law_1492 rfl (lv_at hl 0 rfl) ?_
  refine lv_iload_n hx hb dL_law_1493 rfl (lv_at hl 3 rfl) ?_
  refine lv_iconst (v := (1 : Int32)) hx hb dL_law_1494 (by decide) ?_
  refine lv_iadd hx hb dL_law_1495 ?_
  refine va_sld hx hb hX hbl hbA hw.2.2.2.1 (l_in (k := 1) hj hL (by decide) (by decide)) dL_law_1496 ?_
  refine lv_aload_n hx hb dL_law_1497 rfl (lv_at hl 0 rfl) ?_
  refine lv_iload_n hx hb dL_law_1498 rfl (lv_at hl 3 rfl) ?_
  refine lv_iconst (v := (2 : Int32)) hx hb dL_law_1499 (by decide) ?_
  refine lv_iadd hx hb dL_law_1500 ?_
  refine va_sld hx hb hX hbl hbA hw.2.2.2.1 (l_in (k := 2) hj hL (by decide) (by decide)) dL_law_1501 ?_
  refine l_cI F hw hl.1 (As := [.int (xs (nI j + (1 : Int32)).toNatClampNeg), .int (xs (nI j + (2 : Int32)).toNatClampNeg)]) (rest := []) (ztX11_settles l D cy shC adc l_kC h1) zyX11_settles zkL_160 ⟨rfl, rfl⟩ ⟨Nat.le_of_ble_eq_true rfl, Nat.le_of_ble_eq_true rfl⟩ rfl rfl (Nat.le_of_ble_eq_true rfl) dL_law_1502 rfl (fun H locs hw => ?_)
  refine lv_aload_n hx hb dL_law_1505 rfl (lv_at hl 2 rfl) ?_
  refine lv_aload_n hx hb dL_law_1506 rfl (lv_at hl 0 rfl) ?_
  refine lv_iload_n hx hb dL_law_1507 rfl (lv_at hl 3 rfl) ?_
  refine lv_iconst (v := (1 : Int32)) hx hb dL_law_1508 (by decide) ?_
  refine lv_iadd hx hb dL_law_1509 ?_
  refine va_sld hx hb hX hbl hbA hw.2.2.2.1 (l_in (k := 1) hj hL (by decide) (by decide)) dL_law_1510 ?_
  refine lv_aload_n hx hb dL_law_1511 rfl (lv_at hl 0 rfl) ?_
  refine lv_iload_n hx hb dL_law_1512 rfl (lv_at hl 3 rfl) ?_
  refine lv_iconst (v := (2 : Int32)) hx hb dL_law_1513 (by decide) ?_
  refine lv_iadd hx hb dL_law_1514 ?_
  refine va_sld hx hb hX hbl hbA hw.2.2.2.1 (l_in (k := 2) hj hL (by decide) (by decide)) dL_law_1515 ?_
  refine l_mI F hw hl.1 (As := [.int (xs (nI j + (1 : Int32)).toNatClampNeg), .int (xs (nI j + (2 : Int32)).toNatClampNeg)]) (rest := [.int r]) (ztX12_settles l D cy shM adm l_kM h2) zyX12_settles zkL_163 ⟨rfl, rfl⟩ ⟨Nat.le_of_ble_eq_true rfl, Nat.le_of_ble_eq_true rfl⟩ rfl rfl (Nat.le_of_ble_eq_true rfl) dL_law_1516 rfl (fun H locs hw => ?_)
  refine lv_icmp_eq (tgt := 1798) hx hb dL_law_1519 (by decide) (fun _ => ?_) (fun c1 => absurd rfl c1)
  exact kk _ _ _ _ hI1 hw
def B_shake (Inv : Nat → zMem → zMem → Prop) : Prop := ∀ (n : Nat) (M N : zMem) (v1 v2 v3 : Int32), n < 512 → Inv n M N → ∃ (r : Int32) (M1 N1 : zMem), zX11_shake shC 0 v1 v2 v3 M = some (r, M1) ∧ zX12_shake shM 0 v1 v2 v3 N = some r ∧ Inv (n + 1) M1 N
set_option maxHeartbeats 4000000 in
set_option maxRecDepth 100000 in
theorem lc_shake {p : Program} {l : Launch} {e : Env} {s : State} {m : MethodId} {below : List Frame} {meth : Method} {c : Code} {D : va_G} {cy : Nat → ClassId} {b L j n : Nat} {xs : Nat → Int32} {adc adm : Nat → Nat} {M N : zMem} {H : Heap} {locs : List Loc} {ls : Array Slot} {Q : State → Prop} {Inv : Nat → zMem → zMem → Prop} (hB : B_shake Inv) (F : zFx D cy p m c cL_law 4 s #[Value.ref b] RL) (hX : va_X b L xs s s.heap) (hbl : b < s.heap.size) (hj : j + 7 ≤ L) (hL : L ≤ 3584) (hn : n < 512) (hI : Inv n M N) (hw : lwd D cy adc adm s M N H locs) (hl : lv_has ls 4 [(0, .ref b), (1, .ref (adc 0)), (2, .ref (adm 0)), (3, .int (nI j))]) (kk : ∀ (M1 N1 : zMem) (H1 : Heap) (locs1 : List Loc), Inv (n + 1) M1 N1 → lwd D cy adc adm s M1 N1 H1 locs1 → W p l e room_1 s m #[Value.ref b] below meth c H1 locs1 lCells lSlots Q (F0 m 1798 ls [])) : W p l e room_1 s m #[Value.ref b] below meth c H locs lCells lSlots Q (F0 m 1524 ls []) := by
  have hx := F.1.1
  have hb := F.1.2.1
  have hbA : ¬ s.heap.size ≤ b := Nat.not_le.mpr hbl
  obtain ⟨r, M1, N1, h1, h2, hI1⟩ := hB n M N (xs (nI j + (1 : Int32)).toNatClampNeg) (xs (nI j + (2 : Int32)).toNatClampNeg) (xs (nI j + (3 : Int32)).toNatClampNeg) hn hI
  refine lv_aload_n hx hb dL_law_1524 rfl (lv_at hl 1 rfl) ?_
  refine lv_aload_n hx hb dL_law_1525 rfl (lv_at hl 0 rfl) ?_
  refine lv_iload_n hx hb dL_law_1526 rfl (lv_at hl 3 rfl) ?_
  refine lv_iconst (v := (1 : Int32)) hx hb dL_law_1527 (by decide) ?_
  refine lv_iadd hx hb dL_law_1528 ?_
  refine va_sld hx hb hX hbl hbA hw.2.2.2.1 (l_in (k := 1) hj hL (by decide) (by decide)) dL_law_1529 ?_
  refine lv_aload_n hx hb dL_law_1530 rfl (lv_at hl 0 rfl) ?_
  refine lv_iload_n hx hb dL_law_1531 rfl (lv_at hl 3 rfl) ?_
  refine lv_iconst (v := (2 : Int32)) hx hb dL_law_1532 (by decide) ?_
  refine lv_iadd hx hb dL_law_1533 ?_
  refine va_sld hx hb hX hbl hbA hw.2.2.2.1 (l_in (k := 2) hj hL (by decide) (by decide)) dL_law_1534 ?_
  refine lv_aload_n hx hb dL_law_1535 rfl (lv_at hl 0 rfl) ?_
  refine lv_iload_n hx hb dL_law_1536 rfl (lv_at hl 3 rfl) ?_
  refine lv_iconst (v := (3 : Int32)) hx hb dL_law_1537 (by decide) ?_
  refine lv_iadd hx hb dL_law_1538 ?_
  refine va_sld hx hb hX hbl hbA hw.2.2.2.1 (l_in (k := 3) hj hL (by decide) (by decide)) dL_law_1539 ?_
  refine l_cI F hw hl.1 (As := [.int (xs (nI j + (1 : Int32)).toNatClampNeg), .int (xs (nI j + (2 : Int32)).toNatClampNeg), .int (xs (nI j + (3 : Int32)).toNatClampNeg)]) (rest := []) (ztX11_shake l D cy shC adc l_kC h1) zyX11_shake zkL_164 ⟨rfl, rfl⟩ ⟨Nat.le_of_ble_eq_true rfl, Nat.le_of_ble_eq_true rfl⟩ rfl rfl (Nat.le_of_ble_eq_true rfl) dL_law_1540 rfl (fun H locs hw => ?_)
  refine lv_aload_n hx hb dL_law_1543 rfl (lv_at hl 2 rfl) ?_
  refine lv_aload_n hx hb dL_law_1544 rfl (lv_at hl 0 rfl) ?_
  refine lv_iload_n hx hb dL_law_1545 rfl (lv_at hl 3 rfl) ?_
  refine lv_iconst (v := (1 : Int32)) hx hb dL_law_1546 (by decide) ?_
  refine lv_iadd hx hb dL_law_1547 ?_
  refine va_sld hx hb hX hbl hbA hw.2.2.2.1 (l_in (k := 1) hj hL (by decide) (by decide)) dL_law_1548 ?_
  refine lv_aload_n hx hb dL_law_1549 rfl (lv_at hl 0 rfl) ?_
  refine lv_iload_n hx hb dL_law_1550 rfl (lv_at hl 3 rfl) ?_
  refine lv_iconst (v := (2 : Int32)) hx hb dL_law_1551 (by decide) ?_
  refine lv_iadd hx hb dL_law_1552 ?_
  refine va_sld hx hb hX hbl hbA hw.2.2.2.1 (l_in (k := 2) hj hL (by decide) (by decide)) dL_law_1553 ?_
  refine lv_aload_n hx hb dL_law_1554 rfl (lv_at hl 0 rfl) ?_
  refine lv_iload_n hx hb dL_law_1555 rfl (lv_at hl 3 rfl) ?_
  refine lv_iconst (v := (3 : Int32)) hx hb dL_law_1556 (by decide) ?_
  refine lv_iadd hx hb dL_law_1557 ?_
  refine va_sld hx hb hX hbl hbA hw.2.2.2.1 (l_in (k := 3) hj hL (by decide) (by decide)) dL_law_1558 ?_
  refine l_mI F hw hl.1 (As := [.int (xs (nI j + (1 : Int32)).toNatClampNeg), .int (xs (nI j + (2 : Int32)).toNatClampNeg), .int (xs (nI j + (3 : Int32)).toNatClampNeg)]) (rest := [.int r]) (ztX12_shake l D cy shM adm l_kM h2) zyX12_shake zkL_167 ⟨rfl, rfl⟩ ⟨Nat.le_of_ble_eq_true rfl, Nat.le_of_ble_eq_true rfl⟩ rfl rfl (Nat.le_of_ble_eq_true rfl) dL_law_1559 rfl (fun H locs hw => ?_)
  refine lv_icmp_eq (tgt := 1798) hx hb dL_law_1562 (by decide) (fun _ => ?_) (fun c1 => absurd rfl c1)
  exact kk _ _ _ _ hI1 hw
def B_worst (Inv : Nat → zMem → zMem → Prop) : Prop := ∀ (n : Nat) (M N : zMem) (v1 v2 : Int32), n < 512 → Inv n M N → ∃ (r : Int32) (M1 N1 : zMem), zX11_worst shC 0 v1 v2 M = some (r, M1) ∧ zX12_worst shM 0 v1 v2 N = some r ∧ Inv (n + 1) M1 N
set_option maxHeartbeats 4000000 in
set_option maxRecDepth 100000 in
theorem lc_worst {p : Program} {l : Launch} {e : Env} {s : State} {m : MethodId} {below : List Frame} {meth : Method} {c : Code} {D : va_G} {cy : Nat → ClassId} {b L j n : Nat} {xs : Nat → Int32} {adc adm : Nat → Nat} {M N : zMem} {H : Heap} {locs : List Loc} {ls : Array Slot} {Q : State → Prop} {Inv : Nat → zMem → zMem → Prop} (hB : B_worst Inv) (F : zFx D cy p m c cL_law 4 s #[Value.ref b] RL) (hX : va_X b L xs s s.heap) (hbl : b < s.heap.size) (hj : j + 7 ≤ L) (hL : L ≤ 3584) (hn : n < 512) (hI : Inv n M N) (hw : lwd D cy adc adm s M N H locs) (hl : lv_has ls 4 [(0, .ref b), (1, .ref (adc 0)), (2, .ref (adm 0)), (3, .int (nI j))]) (kk : ∀ (M1 N1 : zMem) (H1 : Heap) (locs1 : List Loc), Inv (n + 1) M1 N1 → lwd D cy adc adm s M1 N1 H1 locs1 → W p l e room_1 s m #[Value.ref b] below meth c H1 locs1 lCells lSlots Q (F0 m 1798 ls [])) : W p l e room_1 s m #[Value.ref b] below meth c H locs lCells lSlots Q (F0 m 1567 ls []) := by
  have hx := F.1.1
  have hb := F.1.2.1
  have hbA : ¬ s.heap.size ≤ b := Nat.not_le.mpr hbl
  obtain ⟨r, M1, N1, h1, h2, hI1⟩ := hB n M N (xs (nI j + (1 : Int32)).toNatClampNeg) (xs (nI j + (2 : Int32)).toNatClampNeg) hn hI
  refine lv_aload_n hx hb dL_law_1567 rfl (lv_at hl 1 rfl) ?_
  refine lv_aload_n hx hb dL_law_1568 rfl (lv_at hl 0 rfl) ?_
  refine lv_iload_n hx hb dL_law_1569 rfl (lv_at hl 3 rfl) ?_
  refine lv_iconst (v := (1 : Int32)) hx hb dL_law_1570 (by decide) ?_
  refine lv_iadd hx hb dL_law_1571 ?_
  refine va_sld hx hb hX hbl hbA hw.2.2.2.1 (l_in (k := 1) hj hL (by decide) (by decide)) dL_law_1572 ?_
  refine lv_aload_n hx hb dL_law_1573 rfl (lv_at hl 0 rfl) ?_
  refine lv_iload_n hx hb dL_law_1574 rfl (lv_at hl 3 rfl) ?_
  refine lv_iconst (v := (2 : Int32)) hx hb dL_law_1575 (by decide) ?_
  refine lv_iadd hx hb dL_law_1576 ?_
  refine va_sld hx hb hX hbl hbA hw.2.2.2.1 (l_in (k := 2) hj hL (by decide) (by decide)) dL_law_1577 ?_
  refine l_cI F hw hl.1 (As := [.int (xs (nI j + (1 : Int32)).toNatClampNeg), .int (xs (nI j + (2 : Int32)).toNatClampNeg)]) (rest := []) (ztX11_worst l D cy shC adc l_kC h1) zyX11_worst zkL_168 ⟨rfl, rfl⟩ ⟨Nat.le_of_ble_eq_true rfl, Nat.le_of_ble_eq_true rfl⟩ rfl rfl (Nat.le_of_ble_eq_true rfl) dL_law_1578 rfl (fun H locs hw => ?_)
  refine lv_aload_n hx hb dL_law_1581 rfl (lv_at hl 2 rfl) ?_
  refine lv_aload_n hx hb dL_law_1582 rfl (lv_at hl 0 rfl) ?_
  refine lv_iload_n hx hb dL_law_1583 rfl (lv_at hl 3 rfl) ?_
  refine lv_iconst (v := (1 : Int32)) hx hb dL_law_1584 (by decide) ?_
  refine lv_iadd hx hb dL_law_1585 ?_
  refine va_sld hx hb hX hbl hbA hw.2.2.2.1 (l_in (k := 1) hj hL (by decide) (by decide)) dL_law_1586 ?_
  refine lv_aload_n hx hb dL_law_1587 rfl (lv_at hl 0 rfl) ?_
  refine lv_iload_n hx hb dL_law_1588 rfl (lv_at hl 3 rfl) ?_
  refine lv_iconst (v := (2 : Int32)) hx hb dL_law_1589 (by decide) ?_
  refine lv_iadd hx hb dL_law_1590 ?_
  refine va_sld hx hb hX hbl hbA hw.2.2.2.1 (l_in (k := 2) hj hL (by decide) (by decide)) dL_law_1591 ?_
  refine l_mI F hw hl.1 (As := [.int (xs (nI j + (1 : Int32)).toNatClampNeg), .int (xs (nI j + (2 : Int32)).toNatClampNeg)]) (rest := [.int r]) (ztX12_worst l D cy shM adm l_kM h2) zyX12_worst zkL_171 ⟨rfl, rfl⟩ ⟨Nat.le_of_ble_eq_true rfl, Nat.le_of_ble_eq_true rfl⟩ rfl rfl (Nat.le_of_ble_eq_true rfl) dL_law_1592 rfl (fun H locs hw => ?_)
  refine lv_icmp_eq (tgt := 1798) hx hb dL_law_1595 (by decide) (fun _ => ?_) (fun c1 => absurd rfl c1)
  exact kk _ _ _ _ hI1 hw
def B_unsafe (Inv : Nat → zMem → zMem → Prop) : Prop := ∀ (n : Nat) (M N : zMem) (v1 v2 : Int32), n < 512 → Inv n M N → ∃ (r : Int32) (M1 N1 : zMem), zX11_unsafe shC 0 v1 v2 M = some (r, M1) ∧ zX12_unsafe shM 0 v1 v2 N = some r ∧ Inv (n + 1) M1 N
set_option maxHeartbeats 4000000 in
set_option maxRecDepth 100000 in
theorem lc_unsafe {p : Program} {l : Launch} {e : Env} {s : State} {m : MethodId} {below : List Frame} {meth : Method} {c : Code} {D : va_G} {cy : Nat → ClassId} {b L j n : Nat} {xs : Nat → Int32} {adc adm : Nat → Nat} {M N : zMem} {H : Heap} {locs : List Loc} {ls : Array Slot} {Q : State → Prop} {Inv : Nat → zMem → zMem → Prop} (hB : B_unsafe Inv) (F : zFx D cy p m c cL_law 4 s #[Value.ref b] RL) (hX : va_X b L xs s s.heap) (hbl : b < s.heap.size) (hj : j + 7 ≤ L) (hL : L ≤ 3584) (hn : n < 512) (hI : Inv n M N) (hw : lwd D cy adc adm s M N H locs) (hl : lv_has ls 4 [(0, .ref b), (1, .ref (adc 0)), (2, .ref (adm 0)), (3, .int (nI j))]) (kk : ∀ (M1 N1 : zMem) (H1 : Heap) (locs1 : List Loc), Inv (n + 1) M1 N1 → lwd D cy adc adm s M1 N1 H1 locs1 → W p l e room_1 s m #[Value.ref b] below meth c H1 locs1 lCells lSlots Q (F0 m 1798 ls [])) : W p l e room_1 s m #[Value.ref b] below meth c H locs lCells lSlots Q (F0 m 1600 ls []) := by
  have hx := F.1.1
  have hb := F.1.2.1
  have hbA : ¬ s.heap.size ≤ b := Nat.not_le.mpr hbl
  obtain ⟨r, M1, N1, h1, h2, hI1⟩ := hB n M N (xs (nI j + (1 : Int32)).toNatClampNeg) (xs (nI j + (2 : Int32)).toNatClampNeg) hn hI
  refine lv_aload_n hx hb dL_law_1600 rfl (lv_at hl 1 rfl) ?_
  refine lv_aload_n hx hb dL_law_1601 rfl (lv_at hl 0 rfl) ?_
  refine lv_iload_n hx hb dL_law_1602 rfl (lv_at hl 3 rfl) ?_
  refine lv_iconst (v := (1 : Int32)) hx hb dL_law_1603 (by decide) ?_
  refine lv_iadd hx hb dL_law_1604 ?_
  refine va_sld hx hb hX hbl hbA hw.2.2.2.1 (l_in (k := 1) hj hL (by decide) (by decide)) dL_law_1605 ?_
  refine lv_aload_n hx hb dL_law_1606 rfl (lv_at hl 0 rfl) ?_
  refine lv_iload_n hx hb dL_law_1607 rfl (lv_at hl 3 rfl) ?_
  refine lv_iconst (v := (2 : Int32)) hx hb dL_law_1608 (by decide) ?_
  refine lv_iadd hx hb dL_law_1609 ?_
  refine va_sld hx hb hX hbl hbA hw.2.2.2.1 (l_in (k := 2) hj hL (by decide) (by decide)) dL_law_1610 ?_
  refine l_cI F hw hl.1 (As := [.int (xs (nI j + (1 : Int32)).toNatClampNeg), .int (xs (nI j + (2 : Int32)).toNatClampNeg)]) (rest := []) (ztX11_unsafe l D cy shC adc l_kC h1) zyX11_unsafe zkL_172 ⟨rfl, rfl⟩ ⟨Nat.le_of_ble_eq_true rfl, Nat.le_of_ble_eq_true rfl⟩ rfl rfl (Nat.le_of_ble_eq_true rfl) dL_law_1611 rfl (fun H locs hw => ?_)
  refine lv_aload_n hx hb dL_law_1614 rfl (lv_at hl 2 rfl) ?_
  refine lv_aload_n hx hb dL_law_1615 rfl (lv_at hl 0 rfl) ?_
  refine lv_iload_n hx hb dL_law_1616 rfl (lv_at hl 3 rfl) ?_
  refine lv_iconst (v := (1 : Int32)) hx hb dL_law_1617 (by decide) ?_
  refine lv_iadd hx hb dL_law_1618 ?_
  refine va_sld hx hb hX hbl hbA hw.2.2.2.1 (l_in (k := 1) hj hL (by decide) (by decide)) dL_law_1619 ?_
  refine lv_aload_n hx hb dL_law_1620 rfl (lv_at hl 0 rfl) ?_
  refine lv_iload_n hx hb dL_law_1621 rfl (lv_at hl 3 rfl) ?_
  refine lv_iconst (v := (2 : Int32)) hx hb dL_law_1622 (by decide) ?_
  refine lv_iadd hx hb dL_law_1623 ?_
  refine va_sld hx hb hX hbl hbA hw.2.2.2.1 (l_in (k := 2) hj hL (by decide) (by decide)) dL_law_1624 ?_
  refine l_mI F hw hl.1 (As := [.int (xs (nI j + (1 : Int32)).toNatClampNeg), .int (xs (nI j + (2 : Int32)).toNatClampNeg)]) (rest := [.int r]) (ztX12_unsafe l D cy shM adm l_kM h2) zyX12_unsafe zkL_175 ⟨rfl, rfl⟩ ⟨Nat.le_of_ble_eq_true rfl, Nat.le_of_ble_eq_true rfl⟩ rfl rfl (Nat.le_of_ble_eq_true rfl) dL_law_1625 rfl (fun H locs hw => ?_)
  refine lv_icmp_eq (tgt := 1798) hx hb dL_law_1628 (by decide) (fun _ => ?_) (fun c1 => absurd rfl c1)
  exact kk _ _ _ _ hI1 hw
def B_coil (Inv : Nat → zMem → zMem → Prop) : Prop := ∀ (n : Nat) (M N : zMem) (v1 v2 v3 : Int32), n < 512 → Inv n M N → ∃ (r : Int32) (M1 N1 : zMem), zX11_coil shC 0 v1 v2 v3 M = some (r, M1) ∧ zX12_coil shM 0 v1 v2 v3 N = some r ∧ Inv (n + 1) M1 N
set_option maxHeartbeats 4000000 in
set_option maxRecDepth 100000 in
theorem lc_coil {p : Program} {l : Launch} {e : Env} {s : State} {m : MethodId} {below : List Frame} {meth : Method} {c : Code} {D : va_G} {cy : Nat → ClassId} {b L j n : Nat} {xs : Nat → Int32} {adc adm : Nat → Nat} {M N : zMem} {H : Heap} {locs : List Loc} {ls : Array Slot} {Q : State → Prop} {Inv : Nat → zMem → zMem → Prop} (hB : B_coil Inv) (F : zFx D cy p m c cL_law 4 s #[Value.ref b] RL) (hX : va_X b L xs s s.heap) (hbl : b < s.heap.size) (hj : j + 7 ≤ L) (hL : L ≤ 3584) (hn : n < 512) (hI : Inv n M N) (hw : lwd D cy adc adm s M N H locs) (hl : lv_has ls 4 [(0, .ref b), (1, .ref (adc 0)), (2, .ref (adm 0)), (3, .int (nI j))]) (kk : ∀ (M1 N1 : zMem) (H1 : Heap) (locs1 : List Loc), Inv (n + 1) M1 N1 → lwd D cy adc adm s M1 N1 H1 locs1 → W p l e room_1 s m #[Value.ref b] below meth c H1 locs1 lCells lSlots Q (F0 m 1798 ls [])) : W p l e room_1 s m #[Value.ref b] below meth c H locs lCells lSlots Q (F0 m 1633 ls []) := by
  have hx := F.1.1
  have hb := F.1.2.1
  have hbA : ¬ s.heap.size ≤ b := Nat.not_le.mpr hbl
  obtain ⟨r, M1, N1, h1, h2, hI1⟩ := hB n M N (xs (nI j + (1 : Int32)).toNatClampNeg) (xs (nI j + (2 : Int32)).toNatClampNeg) (xs (nI j + (3 : Int32)).toNatClampNeg) hn hI
  refine lv_aload_n hx hb dL_law_1633 rfl (lv_at hl 1 rfl) ?_
  refine lv_aload_n hx hb dL_law_1634 rfl (lv_at hl 0 rfl) ?_
  refine lv_iload_n hx hb dL_law_1635 rfl (lv_at hl 3 rfl) ?_
  refine lv_iconst (v := (1 : Int32)) hx hb dL_law_1636 (by decide) ?_
  refine lv_iadd hx hb dL_law_1637 ?_
  refine va_sld hx hb hX hbl hbA hw.2.2.2.1 (l_in (k := 1) hj hL (by decide) (by decide)) dL_law_1638 ?_
  refine lv_aload_n hx hb dL_law_1639 rfl (lv_at hl 0 rfl) ?_
  refine lv_iload_n hx hb dL_law_1640 rfl (lv_at hl 3 rfl) ?_
  refine lv_iconst (v := (2 : Int32)) hx hb dL_law_1641 (by decide) ?_
  refine lv_iadd hx hb dL_law_1642 ?_
  refine va_sld hx hb hX hbl hbA hw.2.2.2.1 (l_in (k := 2) hj hL (by decide) (by decide)) dL_law_1643 ?_
  refine lv_aload_n hx hb dL_law_1644 rfl (lv_at hl 0 rfl) ?_
  refine lv_iload_n hx hb dL_law_1645 rfl (lv_at hl 3 rfl) ?_
  refine lv_iconst (v := (3 : Int32)) hx hb dL_law_1646 (by decide) ?_
  refine lv_iadd hx hb dL_law_1647 ?_
  refine va_sld hx hb hX hbl hbA hw.2.2.2.1 (l_in (k := 3) hj hL (by decide) (by decide)) dL_law_1648 ?_
  refine l_cI F hw hl.1 (As := [.int (xs (nI j + (1 : Int32)).toNatClampNeg), .int (xs (nI j + (2 : Int32)).toNatClampNeg), .int (xs (nI j + (3 : Int32)).toNatClampNeg)]) (rest := []) (ztX11_coil l D cy shC adc l_kC h1) zyX11_coil zkL_176 ⟨rfl, rfl⟩ ⟨Nat.le_of_ble_eq_true rfl, Nat.le_of_ble_eq_true rfl⟩ rfl rfl (Nat.le_of_ble_eq_true rfl) dL_law_1649 rfl (fun H locs hw => ?_)
  refine lv_aload_n hx hb dL_law_1652 rfl (lv_at hl 2 rfl) ?_
  refine lv_aload_n hx hb dL_law_1653 rfl (lv_at hl 0 rfl) ?_
  refine lv_iload_n hx hb dL_law_1654 rfl (lv_at hl 3 rfl) ?_
  refine lv_iconst (v := (1 : Int32)) hx hb dL_law_1655 (by decide) ?_
  refine lv_iadd hx hb dL_law_1656 ?_
  refine va_sld hx hb hX hbl hbA hw.2.2.2.1 (l_in (k := 1) hj hL (by decide) (by decide)) dL_law_1657 ?_
  refine lv_aload_n hx hb dL_law_1658 rfl (lv_at hl 0 rfl) ?_
  refine lv_iload_n hx hb dL_law_1659 rfl (lv_at hl 3 rfl) ?_
  refine lv_iconst (v := (2 : Int32)) hx hb dL_law_1660 (by decide) ?_
  refine lv_iadd hx hb dL_law_1661 ?_
  refine va_sld hx hb hX hbl hbA hw.2.2.2.1 (l_in (k := 2) hj hL (by decide) (by decide)) dL_law_1662 ?_
  refine lv_aload_n hx hb dL_law_1663 rfl (lv_at hl 0 rfl) ?_
  refine lv_iload_n hx hb dL_law_1664 rfl (lv_at hl 3 rfl) ?_
  refine lv_iconst (v := (3 : Int32)) hx hb dL_law_1665 (by decide) ?_
  refine lv_iadd hx hb dL_law_1666 ?_
  refine va_sld hx hb hX hbl hbA hw.2.2.2.1 (l_in (k := 3) hj hL (by decide) (by decide)) dL_law_1667 ?_
  refine l_mI F hw hl.1 (As := [.int (xs (nI j + (1 : Int32)).toNatClampNeg), .int (xs (nI j + (2 : Int32)).toNatClampNeg), .int (xs (nI j + (3 : Int32)).toNatClampNeg)]) (rest := [.int r]) (ztX12_coil l D cy shM adm l_kM h2) zyX12_coil zkL_179 ⟨rfl, rfl⟩ ⟨Nat.le_of_ble_eq_true rfl, Nat.le_of_ble_eq_true rfl⟩ rfl rfl (Nat.le_of_ble_eq_true rfl) dL_law_1668 rfl (fun H locs hw => ?_)
  refine lv_icmp_eq (tgt := 1798) hx hb dL_law_1671 (by decide) (fun _ => ?_) (fun c1 => absurd rfl c1)
  exact kk _ _ _ _ hI1 hw
def B_follows (Inv : Nat → zMem → zMem → Prop) : Prop := ∀ (n : Nat) (M N : zMem) (v1 v2 v3 : Int32), n < 512 → Inv n M N → ∃ (r : Int32) (M1 N1 : zMem), zX11_follows shC 0 v1 v2 v3 M = some (r, M1) ∧ zX12_follows shM 0 v1 v2 v3 N = some (r, N1) ∧ Inv (n + 1) M1 N1
set_option maxHeartbeats 4000000 in
set_option maxRecDepth 100000 in
theorem lc_follows {p : Program} {l : Launch} {e : Env} {s : State} {m : MethodId} {below : List Frame} {meth : Method} {c : Code} {D : va_G} {cy : Nat → ClassId} {b L j n : Nat} {xs : Nat → Int32} {adc adm : Nat → Nat} {M N : zMem} {H : Heap} {locs : List Loc} {ls : Array Slot} {Q : State → Prop} {Inv : Nat → zMem → zMem → Prop} (hB : B_follows Inv) (F : zFx D cy p m c cL_law 4 s #[Value.ref b] RL) (hX : va_X b L xs s s.heap) (hbl : b < s.heap.size) (hj : j + 7 ≤ L) (hL : L ≤ 3584) (hn : n < 512) (hI : Inv n M N) (hw : lwd D cy adc adm s M N H locs) (hl : lv_has ls 4 [(0, .ref b), (1, .ref (adc 0)), (2, .ref (adm 0)), (3, .int (nI j))]) (kk : ∀ (M1 N1 : zMem) (H1 : Heap) (locs1 : List Loc), Inv (n + 1) M1 N1 → lwd D cy adc adm s M1 N1 H1 locs1 → W p l e room_1 s m #[Value.ref b] below meth c H1 locs1 lCells lSlots Q (F0 m 1798 ls [])) : W p l e room_1 s m #[Value.ref b] below meth c H locs lCells lSlots Q (F0 m 1676 ls []) := by
  have hx := F.1.1
  have hb := F.1.2.1
  have hbA : ¬ s.heap.size ≤ b := Nat.not_le.mpr hbl
  obtain ⟨r, M1, N1, h1, h2, hI1⟩ := hB n M N (xs (nI j + (1 : Int32)).toNatClampNeg) (xs (nI j + (2 : Int32)).toNatClampNeg) (xs (nI j + (3 : Int32)).toNatClampNeg) hn hI
  refine lv_aload_n hx hb dL_law_1676 rfl (lv_at hl 1 rfl) ?_
  refine lv_aload_n hx hb dL_law_1677 rfl (lv_at hl 0 rfl) ?_
  refine lv_iload_n hx hb dL_law_1678 rfl (lv_at hl 3 rfl) ?_
  refine lv_iconst (v := (1 : Int32)) hx hb dL_law_1679 (by decide) ?_
  refine lv_iadd hx hb dL_law_1680 ?_
  refine va_sld hx hb hX hbl hbA hw.2.2.2.1 (l_in (k := 1) hj hL (by decide) (by decide)) dL_law_1681 ?_
  refine lv_aload_n hx hb dL_law_1682 rfl (lv_at hl 0 rfl) ?_
  refine lv_iload_n hx hb dL_law_1683 rfl (lv_at hl 3 rfl) ?_
  refine lv_iconst (v := (2 : Int32)) hx hb dL_law_1684 (by decide) ?_
  refine lv_iadd hx hb dL_law_1685 ?_
  refine va_sld hx hb hX hbl hbA hw.2.2.2.1 (l_in (k := 2) hj hL (by decide) (by decide)) dL_law_1686 ?_
  refine lv_aload_n hx hb dL_law_1687 rfl (lv_at hl 0 rfl) ?_
  refine lv_iload_n hx hb dL_law_1688 rfl (lv_at hl 3 rfl) ?_
  refine lv_iconst (v := (3 : Int32)) hx hb dL_law_1689 (by decide) ?_
  refine lv_iadd hx hb dL_law_1690 ?_
  refine va_sld hx hb hX hbl hbA hw.2.2.2.1 (l_in (k := 3) hj hL (by decide) (by decide)) dL_law_1691 ?_
  refine l_cI F hw hl.1 (As := [.int (xs (nI j + (1 : Int32)).toNatClampNeg), .int (xs (nI j + (2 : Int32)).toNatClampNeg), .int (xs (nI j + (3 : Int32)).toNatClampNeg)]) (rest := []) (ztX11_follows l D cy shC adc l_kC h1) zyX11_follows zkL_180 ⟨rfl, rfl⟩ ⟨Nat.le_of_ble_eq_true rfl, Nat.le_of_ble_eq_true rfl⟩ rfl rfl (Nat.le_of_ble_eq_true rfl) dL_law_1692 rfl (fun H locs hw => ?_)
  refine lv_aload_n hx hb dL_law_1695 rfl (lv_at hl 2 rfl) ?_
  refine lv_aload_n hx hb dL_law_1696 rfl (lv_at hl 0 rfl) ?_
  refine lv_iload_n hx hb dL_law_1697 rfl (lv_at hl 3 rfl) ?_
  refine lv_iconst (v := (1 : Int32)) hx hb dL_law_1698 (by decide) ?_
  refine lv_iadd hx hb dL_law_1699 ?_
  refine va_sld hx hb hX hbl hbA hw.2.2.2.1 (l_in (k := 1) hj hL (by decide) (by decide)) dL_law_1700 ?_
  refine lv_aload_n hx hb dL_law_1701 rfl (lv_at hl 0 rfl) ?_
  refine lv_iload_n hx hb dL_law_1702 rfl (lv_at hl 3 rfl) ?_
  refine lv_iconst (v := (2 : Int32)) hx hb dL_law_1703 (by decide) ?_
  refine lv_iadd hx hb dL_law_1704 ?_
  refine va_sld hx hb hX hbl hbA hw.2.2.2.1 (l_in (k := 2) hj hL (by decide) (by decide)) dL_law_1705 ?_
  refine lv_aload_n hx hb dL_law_1706 rfl (lv_at hl 0 rfl) ?_
  refine lv_iload_n hx hb dL_law_1707 rfl (lv_at hl 3 rfl) ?_
  refine lv_iconst (v := (3 : Int32)) hx hb dL_law_1708 (by decide) ?_
  refine lv_iadd hx hb dL_law_1709 ?_
  refine va_sld hx hb hX hbl hbA hw.2.2.2.1 (l_in (k := 3) hj hL (by decide) (by decide)) dL_law_1710 ?_
  refine l_mI F hw hl.1 (As := [.int (xs (nI j + (1 : Int32)).toNatClampNeg), .int (xs (nI j + (2 : Int32)).toNatClampNeg), .int (xs (nI j + (3 : Int32)).toNatClampNeg)]) (rest := [.int r]) (ztX12_follows l D cy shM adm l_kM h2) zyX12_follows zkL_183 ⟨rfl, rfl⟩ ⟨Nat.le_of_ble_eq_true rfl, Nat.le_of_ble_eq_true rfl⟩ rfl rfl (Nat.le_of_ble_eq_true rfl) dL_law_1711 rfl (fun H locs hw => ?_)
  refine lv_icmp_eq (tgt := 1798) hx hb dL_law_1714 (by decide) (fun _ => ?_) (fun c1 => absurd rfl c1)
  exact kk _ _ _ _ hI1 hw
def B_ripple (Inv : Nat → zMem → zMem → Prop) : Prop := ∀ (n : Nat) (M N : zMem) (v1 v2 : Int32), n < 512 → Inv n M N → ∃ (r : Int32) (M1 N1 : zMem), zX11_ripple shC 0 v1 v2 M = some (r, M1) ∧ zX12_ripple shM 0 v1 v2 N = some r ∧ Inv (n + 1) M1 N
set_option maxHeartbeats 4000000 in
set_option maxRecDepth 100000 in
theorem lc_ripple {p : Program} {l : Launch} {e : Env} {s : State} {m : MethodId} {below : List Frame} {meth : Method} {c : Code} {D : va_G} {cy : Nat → ClassId} {b L j n : Nat} {xs : Nat → Int32} {adc adm : Nat → Nat} {M N : zMem} {H : Heap} {locs : List Loc} {ls : Array Slot} {Q : State → Prop} {Inv : Nat → zMem → zMem → Prop} (hB : B_ripple Inv) (F : zFx D cy p m c cL_law 4 s #[Value.ref b] RL) (hX : va_X b L xs s s.heap) (hbl : b < s.heap.size) (hj : j + 7 ≤ L) (hL : L ≤ 3584) (hn : n < 512) (hI : Inv n M N) (hw : lwd D cy adc adm s M N H locs) (hl : lv_has ls 4 [(0, .ref b), (1, .ref (adc 0)), (2, .ref (adm 0)), (3, .int (nI j))]) (kk : ∀ (M1 N1 : zMem) (H1 : Heap) (locs1 : List Loc), Inv (n + 1) M1 N1 → lwd D cy adc adm s M1 N1 H1 locs1 → W p l e room_1 s m #[Value.ref b] below meth c H1 locs1 lCells lSlots Q (F0 m 1798 ls [])) : W p l e room_1 s m #[Value.ref b] below meth c H locs lCells lSlots Q (F0 m 1719 ls []) := by
  have hx := F.1.1
  have hb := F.1.2.1
  have hbA : ¬ s.heap.size ≤ b := Nat.not_le.mpr hbl
  obtain ⟨r, M1, N1, h1, h2, hI1⟩ := hB n M N (xs (nI j + (1 : Int32)).toNatClampNeg) (xs (nI j + (2 : Int32)).toNatClampNeg) hn hI
  refine lv_aload_n hx hb dL_law_1719 rfl (lv_at hl 1 rfl) ?_
  refine lv_aload_n hx hb dL_law_1720 rfl (lv_at hl 0 rfl) ?_
  refine lv_iload_n hx hb dL_law_1721 rfl (lv_at hl 3 rfl) ?_
  refine lv_iconst (v := (1 : Int32)) hx hb dL_law_1722 (by decide) ?_
  refine lv_iadd hx hb dL_law_1723 ?_
  refine va_sld hx hb hX hbl hbA hw.2.2.2.1 (l_in (k := 1) hj hL (by decide) (by decide)) dL_law_1724 ?_
  refine lv_aload_n hx hb dL_law_1725 rfl (lv_at hl 0 rfl) ?_
  refine lv_iload_n hx hb dL_law_1726 rfl (lv_at hl 3 rfl) ?_
  refine lv_iconst (v := (2 : Int32)) hx hb dL_law_1727 (by decide) ?_
  refine lv_iadd hx hb dL_law_1728 ?_
  refine va_sld hx hb hX hbl hbA hw.2.2.2.1 (l_in (k := 2) hj hL (by decide) (by decide)) dL_law_1729 ?_
  refine l_cI F hw hl.1 (As := [.int (xs (nI j + (1 : Int32)).toNatClampNeg), .int (xs (nI j + (2 : Int32)).toNatClampNeg)]) (rest := []) (ztX11_ripple l D cy shC adc l_kC h1) zyX11_ripple zkL_184 ⟨rfl, rfl⟩ ⟨Nat.le_of_ble_eq_true rfl, Nat.le_of_ble_eq_true rfl⟩ rfl rfl (Nat.le_of_ble_eq_true rfl) dL_law_1730 rfl (fun H locs hw => ?_)
  refine lv_aload_n hx hb dL_law_1733 rfl (lv_at hl 2 rfl) ?_
  refine lv_aload_n hx hb dL_law_1734 rfl (lv_at hl 0 rfl) ?_
  refine lv_iload_n hx hb dL_law_1735 rfl (lv_at hl 3 rfl) ?_
  refine lv_iconst (v := (1 : Int32)) hx hb dL_law_1736 (by decide) ?_
  refine lv_iadd hx hb dL_law_1737 ?_
  refine va_sld hx hb hX hbl hbA hw.2.2.2.1 (l_in (k := 1) hj hL (by decide) (by decide)) dL_law_1738 ?_
  refine lv_aload_n hx hb dL_law_1739 rfl (lv_at hl 0 rfl) ?_
  refine lv_iload_n hx hb dL_law_1740 rfl (lv_at hl 3 rfl) ?_
  refine lv_iconst (v := (2 : Int32)) hx hb dL_law_1741 (by decide) ?_
  refine lv_iadd hx hb dL_law_1742 ?_
  refine va_sld hx hb hX hbl hbA hw.2.2.2.1 (l_in (k := 2) hj hL (by decide) (by decide)) dL_law_1743 ?_
  refine l_mI F hw hl.1 (As := [.int (xs (nI j + (1 : Int32)).toNatClampNeg), .int (xs (nI j + (2 : Int32)).toNatClampNeg)]) (rest := [.int r]) (ztX12_ripple l D cy shM adm l_kM h2) zyX12_ripple zkL_187 ⟨rfl, rfl⟩ ⟨Nat.le_of_ble_eq_true rfl, Nat.le_of_ble_eq_true rfl⟩ rfl rfl (Nat.le_of_ble_eq_true rfl) dL_law_1744 rfl (fun H locs hw => ?_)
  refine lv_icmp_eq (tgt := 1798) hx hb dL_law_1747 (by decide) (fun _ => ?_) (fun c1 => absurd rfl c1)
  exact kk _ _ _ _ hI1 hw
def B_mode (Inv : Nat → zMem → zMem → Prop) : Prop := ∀ (n : Nat) (M N : zMem) (v1 : Int32), n < 512 → Inv n M N → ∃ (r : Int32) (M1 N1 : zMem), zX11_mode shC 0 v1 M = some (r, M1) ∧ zX12_mode shM 0 v1 N = some (r, N1) ∧ Inv (n + 1) M1 N1
set_option maxHeartbeats 4000000 in
set_option maxRecDepth 100000 in
theorem lc_mode {p : Program} {l : Launch} {e : Env} {s : State} {m : MethodId} {below : List Frame} {meth : Method} {c : Code} {D : va_G} {cy : Nat → ClassId} {b L j n : Nat} {xs : Nat → Int32} {adc adm : Nat → Nat} {M N : zMem} {H : Heap} {locs : List Loc} {ls : Array Slot} {Q : State → Prop} {Inv : Nat → zMem → zMem → Prop} (hB : B_mode Inv) (F : zFx D cy p m c cL_law 4 s #[Value.ref b] RL) (hX : va_X b L xs s s.heap) (hbl : b < s.heap.size) (hj : j + 7 ≤ L) (hL : L ≤ 3584) (hn : n < 512) (hI : Inv n M N) (hw : lwd D cy adc adm s M N H locs) (hl : lv_has ls 4 [(0, .ref b), (1, .ref (adc 0)), (2, .ref (adm 0)), (3, .int (nI j))]) (kk : ∀ (M1 N1 : zMem) (H1 : Heap) (locs1 : List Loc), Inv (n + 1) M1 N1 → lwd D cy adc adm s M1 N1 H1 locs1 → W p l e room_1 s m #[Value.ref b] below meth c H1 locs1 lCells lSlots Q (F0 m 1798 ls [])) : W p l e room_1 s m #[Value.ref b] below meth c H locs lCells lSlots Q (F0 m 1752 ls []) := by
  have hx := F.1.1
  have hb := F.1.2.1
  have hbA : ¬ s.heap.size ≤ b := Nat.not_le.mpr hbl
  obtain ⟨r, M1, N1, h1, h2, hI1⟩ := hB n M N (xs (nI j + (1 : Int32)).toNatClampNeg) hn hI
  refine lv_aload_n hx hb dL_law_1752 rfl (lv_at hl 1 rfl) ?_
  refine lv_aload_n hx hb dL_law_1753 rfl (lv_at hl 0 rfl) ?_
  refine lv_iload_n hx hb dL_law_1754 rfl (lv_at hl 3 rfl) ?_
  refine lv_iconst (v := (1 : Int32)) hx hb dL_law_1755 (by decide) ?_
  refine lv_iadd hx hb dL_law_1756 ?_
  refine va_sld hx hb hX hbl hbA hw.2.2.2.1 (l_in (k := 1) hj hL (by decide) (by decide)) dL_law_1757 ?_
  refine l_cI F hw hl.1 (As := [.int (xs (nI j + (1 : Int32)).toNatClampNeg)]) (rest := []) (ztX11_mode l D cy shC adc l_kC h1) zyX11_mode zkL_188 ⟨rfl, rfl⟩ ⟨Nat.le_of_ble_eq_true rfl, Nat.le_of_ble_eq_true rfl⟩ rfl rfl (Nat.le_of_ble_eq_true rfl) dL_law_1758 rfl (fun H locs hw => ?_)
  refine lv_aload_n hx hb dL_law_1761 rfl (lv_at hl 2 rfl) ?_
  refine lv_aload_n hx hb dL_law_1762 rfl (lv_at hl 0 rfl) ?_
  refine lv_iload_n hx hb dL_law_1763 rfl (lv_at hl 3 rfl) ?_
  refine lv_iconst (v := (1 : Int32)) hx hb dL_law_1764 (by decide) ?_
  refine lv_iadd hx hb dL_law_1765 ?_
  refine va_sld hx hb hX hbl hbA hw.2.2.2.1 (l_in (k := 1) hj hL (by decide) (by decide)) dL_law_1766 ?_
  refine l_mI F hw hl.1 (As := [.int (xs (nI j + (1 : Int32)).toNatClampNeg)]) (rest := [.int r]) (ztX12_mode l D cy shM adm l_kM h2) zyX12_mode zkL_191 ⟨rfl, rfl⟩ ⟨Nat.le_of_ble_eq_true rfl, Nat.le_of_ble_eq_true rfl⟩ rfl rfl (Nat.le_of_ble_eq_true rfl) dL_law_1767 rfl (fun H locs hw => ?_)
  refine lv_icmp_eq (tgt := 1798) hx hb dL_law_1770 (by decide) (fun _ => ?_) (fun c1 => absurd rfl c1)
  exact kk _ _ _ _ hI1 hw
def B_about (Inv : Nat → zMem → zMem → Prop) : Prop := ∀ (n : Nat) (M N : zMem) (v1 : Int32), n < 512 → Inv n M N → ∃ (r : Int32) (M1 N1 : zMem), zX11_about shC 0 v1 M = some r ∧ zX12_about shM 0 v1 N = some r ∧ Inv (n + 1) M N
set_option maxHeartbeats 4000000 in
set_option maxRecDepth 100000 in
theorem lc_about {p : Program} {l : Launch} {e : Env} {s : State} {m : MethodId} {below : List Frame} {meth : Method} {c : Code} {D : va_G} {cy : Nat → ClassId} {b L j n : Nat} {xs : Nat → Int32} {adc adm : Nat → Nat} {M N : zMem} {H : Heap} {locs : List Loc} {ls : Array Slot} {Q : State → Prop} {Inv : Nat → zMem → zMem → Prop} (hB : B_about Inv) (F : zFx D cy p m c cL_law 4 s #[Value.ref b] RL) (hX : va_X b L xs s s.heap) (hbl : b < s.heap.size) (hj : j + 7 ≤ L) (hL : L ≤ 3584) (hn : n < 512) (hI : Inv n M N) (hw : lwd D cy adc adm s M N H locs) (hl : lv_has ls 4 [(0, .ref b), (1, .ref (adc 0)), (2, .ref (adm 0)), (3, .int (nI j))]) (kk : ∀ (M1 N1 : zMem) (H1 : Heap) (locs1 : List Loc), Inv (n + 1) M1 N1 → lwd D cy adc adm s M1 N1 H1 locs1 → W p l e room_1 s m #[Value.ref b] below meth c H1 locs1 lCells lSlots Q (F0 m 1798 ls [])) : W p l e room_1 s m #[Value.ref b] below meth c H locs lCells lSlots Q (F0 m 1775 ls []) := by
  have hx := F.1.1
  have hb := F.1.2.1
  have hbA : ¬ s.heap.size ≤ b := Nat.not_le.mpr hbl
  obtain ⟨r, M1, N1, h1, h2, hI1⟩ := hB n M N (xs (nI j + (1 : Int32)).toNatClampNeg) hn hI
  refine lv_aload_n hx hb dL_law_1775 rfl (lv_at hl 1 rfl) ?_
  refine lv_aload_n hx hb dL_law_1776 rfl (lv_at hl 0 rfl) ?_
  refine lv_iload_n hx hb dL_law_1777 rfl (lv_at hl 3 rfl) ?_
  refine lv_iconst (v := (1 : Int32)) hx hb dL_law_1778 (by decide) ?_
  refine lv_iadd hx hb dL_law_1779 ?_
  refine va_sld hx hb hX hbl hbA hw.2.2.2.1 (l_in (k := 1) hj hL (by decide) (by decide)) dL_law_1780 ?_
  refine l_cI F hw hl.1 (As := [.int (xs (nI j + (1 : Int32)).toNatClampNeg)]) (rest := []) (ztX11_about l D cy shC adc l_kC h1) zyX11_about zkL_192 ⟨rfl, rfl⟩ ⟨Nat.le_of_ble_eq_true rfl, Nat.le_of_ble_eq_true rfl⟩ rfl rfl (Nat.le_of_ble_eq_true rfl) dL_law_1781 rfl (fun H locs hw => ?_)
  refine lv_aload_n hx hb dL_law_1784 rfl (lv_at hl 2 rfl) ?_
  refine lv_aload_n hx hb dL_law_1785 rfl (lv_at hl 0 rfl) ?_
  refine lv_iload_n hx hb dL_law_1786 rfl (lv_at hl 3 rfl) ?_
  refine lv_iconst (v := (1 : Int32)) hx hb dL_law_1787 (by decide) ?_
  refine lv_iadd hx hb dL_law_1788 ?_
  refine va_sld hx hb hX hbl hbA hw.2.2.2.1 (l_in (k := 1) hj hL (by decide) (by decide)) dL_law_1789 ?_
  refine l_mI F hw hl.1 (As := [.int (xs (nI j + (1 : Int32)).toNatClampNeg)]) (rest := [.int r]) (ztX12_about l D cy shM adm l_kM h2) zyX12_about zkL_195 ⟨rfl, rfl⟩ ⟨Nat.le_of_ble_eq_true rfl, Nat.le_of_ble_eq_true rfl⟩ rfl rfl (Nat.le_of_ble_eq_true rfl) dL_law_1790 rfl (fun H locs hw => ?_)
  refine lv_icmp_eq (tgt := 1798) hx hb dL_law_1793 (by decide) (fun _ => ?_) (fun c1 => absurd rfl c1)
  exact kk _ _ _ _ hI1 hw
def BOK (Inv : Nat → zMem → zMem → Prop) : Prop := B_feed Inv ∧ B_end Inv ∧ B_bench Inv ∧ B_fault Inv ∧ B_table Inv ∧ B_current Inv ∧ B_field Inv ∧ B_mend Inv ∧ B_tuned Inv ∧ B_ramp Inv ∧ B_rampAt Inv ∧ B_path Inv ∧ B_pathAt Inv ∧ B_stamp Inv ∧ B_peak Inv ∧ B_needed Inv ∧ B_most Inv ∧ B_drives Inv ∧ B_quickest Inv ∧ B_go Inv ∧ B_halt Inv ∧ B_run Inv ∧ B_queue Inv ∧ B_watch Inv ∧ B_load Inv ∧ B_trueUp Inv ∧ B_undo Inv ∧ B_axis Inv ∧ B_now Inv ∧ B_bands Inv ∧ B_stallIn Inv ∧ B_calmIn Inv ∧ B_carries Inv ∧ B_strain Inv ∧ B_swings Inv ∧ B_settles Inv ∧ B_shake Inv ∧ B_worst Inv ∧ B_unsafe Inv ∧ B_coil Inv ∧ B_follows Inv ∧ B_ripple Inv ∧ B_mode Inv ∧ B_about Inv
set_option maxHeartbeats 8000000 in
set_option maxRecDepth 100000 in
theorem law_case {p : Program} {l : Launch} {e : Env} {s : State} {m : MethodId} {below : List Frame} {meth : Method} {c : Code} {D : va_G} {cy : Nat → ClassId} {b L j n : Nat} {xs : Nat → Int32} {adc adm : Nat → Nat} {ka : zKa} {M N : zMem} {H : Heap} {locs : List Loc} {ls : Array Slot} {Q : State → Prop} {Inv : Nat → zMem → zMem → Prop} (hB : BOK Inv) (hB0 : ∀ n M N, Inv n M N → Inv (n + 1) M N) (F : zFx D cy p m c cL_law 4 s #[Value.ref b] RL) (hX : va_X b L xs s s.heap) (hbl : b < s.heap.size) (hS : lStr ka s) (hj : j + 7 ≤ L) (hL : L ≤ 3584) (hn : n < 512) (hI : Inv n M N) (hw : lwd D cy adc adm s M N H locs) (hl : lv_has ls 4 [(0, .ref b), (1, .ref (adc 0)), (2, .ref (adm 0)), (3, .int (nI j))]) (kk : ∀ (M1 N1 : zMem) (H1 : Heap) (locs1 : List Loc), Inv (n + 1) M1 N1 → lwd D cy adc adm s M1 N1 H1 locs1 → W p l e room_1 s m #[Value.ref b] below meth c H1 locs1 lCells lSlots Q (F0 m 1798 ls [])) (x : Int32) : W p l e room_1 s m #[Value.ref b] below meth c H locs lCells lSlots Q (F0 m 33 ls [.int x]) := by
  have hx := F.1.1
  have hb := F.1.2.1
  obtain ⟨b0, b1, b2, b3, b4, b5, b6, b7, b8, b9, b10, b11, b12, b13, b14, b15, b16, b17, b18, b19, b20, b21, b22, b23, b24, b25, b26, b27, b28, b29, b30, b31, b32, b33, b34, b35, b36, b37, b38, b39, b40, b41, b42, b43⟩ := hB
  by_cases c0 : x = (0 : Int32)
  · refine lv_tableIn (tgt := 224) (off := 191) hx hb dL_law_33 (by rw [c0]; decide) (by rw [c0]; decide) (by rw [c0]; decide) (by decide) ?_
    exact lc_feed b0 F hX hbl hj hL hn hI hw hl kk
  by_cases c1 : x = (1 : Int32)
  · refine lv_tableIn (tgt := 287) (off := 254) hx hb dL_law_33 (by rw [c1]; decide) (by rw [c1]; decide) (by rw [c1]; decide) (by decide) ?_
    exact lc_end b1 F hX hbl hj hL hn hI hw hl kk
  by_cases c2 : x = (2 : Int32)
  · refine lv_tableIn (tgt := 310) (off := 277) hx hb dL_law_33 (by rw [c2]; decide) (by rw [c2]; decide) (by rw [c2]; decide) (by decide) ?_
    exact lc_bench b2 F hX hbl hS hj hL hn hI hw hl kk
  by_cases c3 : x = (3 : Int32)
  · refine lv_tableIn (tgt := 323) (off := 290) hx hb dL_law_33 (by rw [c3]; decide) (by rw [c3]; decide) (by rw [c3]; decide) (by decide) ?_
    exact lc_fault b3 F hX hbl hj hL hn hI hw hl kk
  by_cases c4 : x = (4 : Int32)
  · refine lv_tableIn (tgt := 346) (off := 313) hx hb dL_law_33 (by rw [c4]; decide) (by rw [c4]; decide) (by rw [c4]; decide) (by decide) ?_
    exact lc_table b4 F hX hbl hj hL hn hI hw hl kk
  by_cases c5 : x = (5 : Int32)
  · refine lv_tableIn (tgt := 379) (off := 346) hx hb dL_law_33 (by rw [c5]; decide) (by rw [c5]; decide) (by rw [c5]; decide) (by decide) ?_
    exact lc_current b5 F hX hbl hj hL hn hI hw hl kk
  by_cases c6 : x = (6 : Int32)
  · refine lv_tableIn (tgt := 412) (off := 379) hx hb dL_law_33 (by rw [c6]; decide) (by rw [c6]; decide) (by rw [c6]; decide) (by decide) ?_
    exact lc_field b6 F hX hbl hj hL hn hI hw hl kk
  by_cases c7 : x = (7 : Int32)
  · refine lv_tableIn (tgt := 435) (off := 402) hx hb dL_law_33 (by rw [c7]; decide) (by rw [c7]; decide) (by rw [c7]; decide) (by decide) ?_
    exact lc_mend b7 F hX hbl hj hL hn hI hw hl kk
  by_cases c8 : x = (8 : Int32)
  · refine lv_tableIn (tgt := 458) (off := 425) hx hb dL_law_33 (by rw [c8]; decide) (by rw [c8]; decide) (by rw [c8]; decide) (by decide) ?_
    exact lc_tuned b8 F hX hbl hj hL hn hI hw hl kk
  by_cases c9 : x = (9 : Int32)
  · refine lv_tableIn (tgt := 481) (off := 448) hx hb dL_law_33 (by rw [c9]; decide) (by rw [c9]; decide) (by rw [c9]; decide) (by decide) ?_
    exact lc_ramp b9 F hX hbl hj hL hn hI hw hl kk
  by_cases c10 : x = (10 : Int32)
  · refine lv_tableIn (tgt := 534) (off := 501) hx hb dL_law_33 (by rw [c10]; decide) (by rw [c10]; decide) (by rw [c10]; decide) (by decide) ?_
    exact lc_rampAt b10 F hX hbl hj hL hn hI hw hl kk
  by_cases c11 : x = (11 : Int32)
  · refine lv_tableIn (tgt := 587) (off := 554) hx hb dL_law_33 (by rw [c11]; decide) (by rw [c11]; decide) (by rw [c11]; decide) (by decide) ?_
    exact lc_path b11 F hX hbl hj hL hn hI hw hl kk
  by_cases c12 : x = (12 : Int32)
  · refine lv_tableIn (tgt := 640) (off := 607) hx hb dL_law_33 (by rw [c12]; decide) (by rw [c12]; decide) (by rw [c12]; decide) (by decide) ?_
    exact lc_pathAt b12 F hX hbl hj hL hn hI hw hl kk
  by_cases c13 : x = (13 : Int32)
  · refine lv_tableIn (tgt := 703) (off := 670) hx hb dL_law_33 (by rw [c13]; decide) (by rw [c13]; decide) (by rw [c13]; decide) (by decide) ?_
    exact lc_stamp b13 F hX hbl hj hL hn hI hw hl kk
  by_cases c14 : x = (14 : Int32)
  · refine lv_tableIn (tgt := 766) (off := 733) hx hb dL_law_33 (by rw [c14]; decide) (by rw [c14]; decide) (by rw [c14]; decide) (by decide) ?_
    exact lc_peak b14 F hX hbl hj hL hn hI hw hl kk
  by_cases c15 : x = (15 : Int32)
  · refine lv_tableIn (tgt := 819) (off := 786) hx hb dL_law_33 (by rw [c15]; decide) (by rw [c15]; decide) (by rw [c15]; decide) (by decide) ?_
    exact lc_needed b15 F hX hbl hj hL hn hI hw hl kk
  by_cases c16 : x = (16 : Int32)
  · refine lv_tableIn (tgt := 862) (off := 829) hx hb dL_law_33 (by rw [c16]; decide) (by rw [c16]; decide) (by rw [c16]; decide) (by decide) ?_
    exact lc_most b16 F hX hbl hj hL hn hI hw hl kk
  by_cases c17 : x = (17 : Int32)
  · refine lv_tableIn (tgt := 915) (off := 882) hx hb dL_law_33 (by rw [c17]; decide) (by rw [c17]; decide) (by rw [c17]; decide) (by decide) ?_
    exact lc_drives b17 F hX hbl hj hL hn hI hw hl kk
  by_cases c18 : x = (18 : Int32)
  · refine lv_tableIn (tgt := 990) (off := 957) hx hb dL_law_33 (by rw [c18]; decide) (by rw [c18]; decide) (by rw [c18]; decide) (by decide) ?_
    exact lc_quickest b18 F hX hbl hj hL hn hI hw hl kk
  by_cases c19 : x = (19 : Int32)
  · refine lv_tableIn (tgt := 1033) (off := 1000) hx hb dL_law_33 (by rw [c19]; decide) (by rw [c19]; decide) (by rw [c19]; decide) (by decide) ?_
    exact lc_go b19 F hX hbl hj hL hn hI hw hl kk
  by_cases c20 : x = (20 : Int32)
  · refine lv_tableIn (tgt := 1076) (off := 1043) hx hb dL_law_33 (by rw [c20]; decide) (by rw [c20]; decide) (by rw [c20]; decide) (by decide) ?_
    exact lc_halt b20 F hX hbl hj hL hn hI hw hl kk
  by_cases c21 : x = (21 : Int32)
  · refine lv_tableIn (tgt := 1089) (off := 1056) hx hb dL_law_33 (by rw [c21]; decide) (by rw [c21]; decide) (by rw [c21]; decide) (by decide) ?_
    exact lc_run b21 F hX hbl hj hL hn hI hw hl kk
  by_cases c22 : x = (22 : Int32)
  · refine lv_tableIn (tgt := 1112) (off := 1079) hx hb dL_law_33 (by rw [c22]; decide) (by rw [c22]; decide) (by rw [c22]; decide) (by decide) ?_
    exact lc_queue b22 F hX hbl hj hL hn hI hw hl kk
  by_cases c23 : x = (23 : Int32)
  · refine lv_tableIn (tgt := 1155) (off := 1122) hx hb dL_law_33 (by rw [c23]; decide) (by rw [c23]; decide) (by rw [c23]; decide) (by decide) ?_
    exact lc_watch b23 F hX hbl hj hL hn hI hw hl kk
  by_cases c24 : x = (24 : Int32)
  · refine lv_tableIn (tgt := 1188) (off := 1155) hx hb dL_law_33 (by rw [c24]; decide) (by rw [c24]; decide) (by rw [c24]; decide) (by decide) ?_
    exact lc_load b24 F hX hbl hj hL hn hI hw hl kk
  by_cases c25 : x = (25 : Int32)
  · refine lv_tableIn (tgt := 1221) (off := 1188) hx hb dL_law_33 (by rw [c25]; decide) (by rw [c25]; decide) (by rw [c25]; decide) (by decide) ?_
    exact lc_trueUp b25 F hX hbl hj hL hn hI hw hl kk
  by_cases c26 : x = (26 : Int32)
  · refine lv_tableIn (tgt := 1234) (off := 1201) hx hb dL_law_33 (by rw [c26]; decide) (by rw [c26]; decide) (by rw [c26]; decide) (by decide) ?_
    exact lc_undo b26 F hX hbl hj hL hn hI hw hl kk
  by_cases c27 : x = (27 : Int32)
  · refine lv_tableIn (tgt := 1247) (off := 1214) hx hb dL_law_33 (by rw [c27]; decide) (by rw [c27]; decide) (by rw [c27]; decide) (by decide) ?_
    exact lc_axis b27 F hX hbl hj hL hn hI hw hl kk
  by_cases c28 : x = (28 : Int32)
  · refine lv_tableIn (tgt := 1280) (off := 1247) hx hb dL_law_33 (by rw [c28]; decide) (by rw [c28]; decide) (by rw [c28]; decide) (by decide) ?_
    exact lc_now b28 F hX hbl hj hL hn hI hw hl kk
  by_cases c29 : x = (29 : Int32)
  · refine lv_tableIn (tgt := 1313) (off := 1280) hx hb dL_law_33 (by rw [c29]; decide) (by rw [c29]; decide) (by rw [c29]; decide) (by decide) ?_
    exact lc_bands b29 F hX hbl hj hL hn hI hw hl kk
  by_cases c30 : x = (30 : Int32)
  · refine lv_tableIn (tgt := 1346) (off := 1313) hx hb dL_law_33 (by rw [c30]; decide) (by rw [c30]; decide) (by rw [c30]; decide) (by decide) ?_
    exact lc_stallIn b30 F hX hbl hj hL hn hI hw hl kk
  by_cases c31 : x = (31 : Int32)
  · refine lv_tableIn (tgt := 1369) (off := 1336) hx hb dL_law_33 (by rw [c31]; decide) (by rw [c31]; decide) (by rw [c31]; decide) (by decide) ?_
    exact lc_calmIn b31 F hX hbl hj hL hn hI hw hl kk
  by_cases c32 : x = (32 : Int32)
  · refine lv_tableIn (tgt := 1382) (off := 1349) hx hb dL_law_33 (by rw [c32]; decide) (by rw [c32]; decide) (by rw [c32]; decide) (by decide) ?_
    exact lc_carries b32 F hX hbl hj hL hn hI hw hl kk
  by_cases c33 : x = (33 : Int32)
  · refine lv_tableIn (tgt := 1415) (off := 1382) hx hb dL_law_33 (by rw [c33]; decide) (by rw [c33]; decide) (by rw [c33]; decide) (by decide) ?_
    exact lc_strain b33 F hX hbl hj hL hn hI hw hl kk
  by_cases c34 : x = (34 : Int32)
  · refine lv_tableIn (tgt := 1448) (off := 1415) hx hb dL_law_33 (by rw [c34]; decide) (by rw [c34]; decide) (by rw [c34]; decide) (by decide) ?_
    exact lc_swings b34 F hX hbl hj hL hn hI hw hl kk
  by_cases c35 : x = (35 : Int32)
  · refine lv_tableIn (tgt := 1491) (off := 1458) hx hb dL_law_33 (by rw [c35]; decide) (by rw [c35]; decide) (by rw [c35]; decide) (by decide) ?_
    exact lc_settles b35 F hX hbl hj hL hn hI hw hl kk
  by_cases c36 : x = (36 : Int32)
  · refine lv_tableIn (tgt := 1524) (off := 1491) hx hb dL_law_33 (by rw [c36]; decide) (by rw [c36]; decide) (by rw [c36]; decide) (by decide) ?_
    exact lc_shake b36 F hX hbl hj hL hn hI hw hl kk
  by_cases c37 : x = (37 : Int32)
  · refine lv_tableIn (tgt := 1567) (off := 1534) hx hb dL_law_33 (by rw [c37]; decide) (by rw [c37]; decide) (by rw [c37]; decide) (by decide) ?_
    exact lc_worst b37 F hX hbl hj hL hn hI hw hl kk
  by_cases c38 : x = (38 : Int32)
  · refine lv_tableIn (tgt := 1600) (off := 1567) hx hb dL_law_33 (by rw [c38]; decide) (by rw [c38]; decide) (by rw [c38]; decide) (by decide) ?_
    exact lc_unsafe b38 F hX hbl hj hL hn hI hw hl kk
  by_cases c39 : x = (39 : Int32)
  · refine lv_tableIn (tgt := 1633) (off := 1600) hx hb dL_law_33 (by rw [c39]; decide) (by rw [c39]; decide) (by rw [c39]; decide) (by decide) ?_
    exact lc_coil b39 F hX hbl hj hL hn hI hw hl kk
  by_cases c40 : x = (40 : Int32)
  · refine lv_tableIn (tgt := 1676) (off := 1643) hx hb dL_law_33 (by rw [c40]; decide) (by rw [c40]; decide) (by rw [c40]; decide) (by decide) ?_
    exact lc_follows b40 F hX hbl hj hL hn hI hw hl kk
  by_cases c41 : x = (41 : Int32)
  · refine lv_tableIn (tgt := 1719) (off := 1686) hx hb dL_law_33 (by rw [c41]; decide) (by rw [c41]; decide) (by rw [c41]; decide) (by decide) ?_
    exact lc_ripple b41 F hX hbl hj hL hn hI hw hl kk
  by_cases c42 : x = (42 : Int32)
  · refine lv_tableIn (tgt := 1752) (off := 1719) hx hb dL_law_33 (by rw [c42]; decide) (by rw [c42]; decide) (by rw [c42]; decide) (by decide) ?_
    exact lc_mode b42 F hX hbl hj hL hn hI hw hl kk
  by_cases c43 : x = (43 : Int32)
  · refine lv_tableIn (tgt := 1775) (off := 1742) hx hb dL_law_33 (by rw [c43]; decide) (by rw [c43]; decide) (by rw [c43]; decide) (by decide) ?_
    exact lc_about b43 F hX hbl hj hL hn hI hw hl kk
  have n0 := zne c0 (a := 0) (by decide)
  have n1 := zne c1 (a := 1) (by decide)
  have n2 := zne c2 (a := 2) (by decide)
  have n3 := zne c3 (a := 3) (by decide)
  have n4 := zne c4 (a := 4) (by decide)
  have n5 := zne c5 (a := 5) (by decide)
  have n6 := zne c6 (a := 6) (by decide)
  have n7 := zne c7 (a := 7) (by decide)
  have n8 := zne c8 (a := 8) (by decide)
  have n9 := zne c9 (a := 9) (by decide)
  have n10 := zne c10 (a := 10) (by decide)
  have n11 := zne c11 (a := 11) (by decide)
  have n12 := zne c12 (a := 12) (by decide)
  have n13 := zne c13 (a := 13) (by decide)
  have n14 := zne c14 (a := 14) (by decide)
  have n15 := zne c15 (a := 15) (by decide)
  have n16 := zne c16 (a := 16) (by decide)
  have n17 := zne c17 (a := 17) (by decide)
  have n18 := zne c18 (a := 18) (by decide)
  have n19 := zne c19 (a := 19) (by decide)
  have n20 := zne c20 (a := 20) (by decide)
  have n21 := zne c21 (a := 21) (by decide)
  have n22 := zne c22 (a := 22) (by decide)
  have n23 := zne c23 (a := 23) (by decide)
  have n24 := zne c24 (a := 24) (by decide)
  have n25 := zne c25 (a := 25) (by decide)
  have n26 := zne c26 (a := 26) (by decide)
  have n27 := zne c27 (a := 27) (by decide)
  have n28 := zne c28 (a := 28) (by decide)
  have n29 := zne c29 (a := 29) (by decide)
  have n30 := zne c30 (a := 30) (by decide)
  have n31 := zne c31 (a := 31) (by decide)
  have n32 := zne c32 (a := 32) (by decide)
  have n33 := zne c33 (a := 33) (by decide)
  have n34 := zne c34 (a := 34) (by decide)
  have n35 := zne c35 (a := 35) (by decide)
  have n36 := zne c36 (a := 36) (by decide)
  have n37 := zne c37 (a := 37) (by decide)
  have n38 := zne c38 (a := 38) (by decide)
  have n39 := zne c39 (a := 39) (by decide)
  have n40 := zne c40 (a := 40) (by decide)
  have n41 := zne c41 (a := 41) (by decide)
  have n42 := zne c42 (a := 42) (by decide)
  have n43 := zne c43 (a := 43) (by decide)
  refine lv_tableOut (tgt := 1798) hx hb dL_law_33 (by omega) (by decide) ?_
  exact kk _ _ _ _ (hB0 _ _ _ hI) hw
