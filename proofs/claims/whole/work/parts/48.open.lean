def R_law : String := "MicroStepsLaw"
def lw_P (b : Addr) (xs : List Int32) (args : Array Value) (s : State) : Prop := args = #[.ref b] ∧ s.IntsAt b xs ∧ xs.length ≤ 3584 ∧ (Jvm.Cond.and given_1 narrow_1).before args s = true
def lw_Q (_ : Array Value) (s : State) (o : Outcome) (t : State) : Prop := o = .returned (some (.int 1)) ∧ Framed s o t [] 600000 7302249
def lw_Z (below : List Frame) (a : Array Value) (s : State) : State → Prop := fun t => ∃ o, t.status = .running ∧ Ended t below o ∧ lw_Q a s o t
/-- the law's own end, with 1 on the stack, nothing written that was there before, its room as the claim has it -/
theorem lw_ret {p : Program} {l : Launch} {e : Env} {s : State} {m : MethodId} {below : List Frame} {meth : Method} {c : Code} {b : Nat} (hx : p.tables.exec = Jvm.exec) (hb : c.code = code) (hr : meth.sig.returnType = ret) (hlocks : meth.locks = false) {pc : Nat} {H : Heap} {ls : Array Slot} (hdg : decode code pc = .ok (.ireturn, 1)) : W p l e room_1 s m #[Value.ref b] below meth c H [] 600000 7302249 (lw_Z below #[Value.ref b] s) (F0 m pc ls [.int 1]) := by
  intro T hT X
  obtain ⟨fs, hret, hrun, hended, hW, hframe⟩ := X.leave (v := some (.int 1)) (hlocks := hlocks) (fun h => by rw [hr] at h; cases h)
  have hmeth' : T.vm.method? m = some meth := X.method'
  refine ⟨T.setFrames fs, ?_, .returned (some (.int 1)), hrun, hended, rfl, ⟨_, rfl⟩, hW, hframe⟩
  jvm_step X.here [X.here.top, hx, hb, hdg, hmeth', hr, ret, narrow_b1]
  (try refine ⟨rfl, ?_⟩); (try refine ⟨rfl, ?_⟩)
  first | (intro acts; rw [hret _ acts rfl rfl rfl]) | rw [hret _ _ rfl rfl rfl]
  exact Steps.refl _
/-- what holds at the law's entry: the machine, the code, the tables' words (any of lw_tbl by 'hts w (by decide +kernel)'), the script of L ints xs at the cell b, what the Statement gives of the start (any of its parts by flat_of_before) -/
def lw_At (p : Program) (s : State) (m : MethodId) (meth : Method) (c : Code) (b L : Nat) (xs : Nat → Int32) : Prop :=
  p.tables.exec = Jvm.exec ∧ c.code = code ∧ meth.sig.returnType = ret ∧ c.maxLocals = 4 ∧ s.vm.findClass R_law = some m.cls ∧ (∀ w ∈ lw_tbl, w.before #[Value.ref b] s = true) ∧ va_X b L xs s s.heap ∧ b < s.heap.size ∧ meth.locks = false ∧ (Jvm.Cond.and given_1 narrow_1).before #[Value.ref b] s = true
theorem oC {cy : Nat → ClassId} {h0 : Nat} {a : Nat → Nat} : ∀ k, k < 185 → ∃ e : va_E, (ylX11_init cy h0 a)[k]? = some (adC h0 a k, e) := lt_s (lt_s (lt_s (lt_s (lt_s (lt_s (lt_s (lt_s (lt_s (lt_s (lt_s (lt_s (lt_s (lt_s (lt_s (lt_s (lt_s (lt_s (lt_s (lt_s (lt_s (lt_s (lt_s (lt_s (lt_s (lt_s (lt_s (lt_s (lt_s (lt_s (lt_s (lt_s (lt_s (lt_s (lt_s (lt_s (lt_s (lt_s (lt_s (lt_s (lt_s (lt_s (lt_s (lt_s (lt_s (lt_s (lt_s (lt_s (lt_s (lt_s (lt_s (lt_s (lt_s (lt_s (lt_s (lt_s (lt_s (lt_s (lt_s (lt_s (lt_s (lt_s (lt_s (lt_s (lt_s (lt_s (lt_s (lt_s (lt_s (lt_s (lt_s (lt_s (lt_s (lt_s (lt_s (lt_s (lt_s (lt_s (lt_s (lt_s (lt_s (lt_s (lt_s (lt_s (lt_s (lt_s (lt_s (lt_s (lt_s (lt_s (lt_s (lt_s (lt_s (lt_s (lt_s (lt_s (lt_s (lt_s (lt_s (lt_s (lt_s (lt_s (lt_s (lt_s (lt_s (lt_s (lt_s (lt_s (lt_s (lt_s (lt_s (lt_s (lt_s (lt_s (lt_s (lt_s (lt_s (lt_s (lt_s (lt_s (lt_s (lt_s (lt_s (lt_s (lt_s (lt_s (lt_s (lt_s (lt_s (lt_s (lt_s (lt_s (lt_s (lt_s (lt_s (lt_s (lt_s (lt_s (lt_s (lt_s (lt_s (lt_s (lt_s (lt_s (lt_s (lt_s (lt_s (lt_s (lt_s (lt_s (lt_s (lt_s (lt_s (lt_s (lt_s (lt_s (lt_s (lt_s (lt_s (lt_s (lt_s (lt_s (lt_s (lt_s (lt_s (lt_s (lt_s (lt_s (lt_s (lt_s (lt_s (lt_s (lt_s (lt_s (lt_s (lt_s (lt_s (lt_s (lt_s (lt_s (lt_s (lt_s (lt_s (lt_s (lt_s (lt_0) ⟨_, rfl⟩) ⟨_, rfl⟩) ⟨_, rfl⟩) ⟨_, rfl⟩) ⟨_, rfl⟩) ⟨_, rfl⟩) ⟨_, rfl⟩) ⟨_, rfl⟩) ⟨_, rfl⟩) ⟨_, rfl⟩) ⟨_, rfl⟩) ⟨_, rfl⟩) ⟨_, rfl⟩) ⟨_, rfl⟩) ⟨_, rfl⟩) ⟨_, rfl⟩) ⟨_, rfl⟩) ⟨_, rfl⟩) ⟨_, rfl⟩) ⟨_, rfl⟩) ⟨_, rfl⟩) ⟨_, rfl⟩) ⟨_, rfl⟩) ⟨_, rfl⟩) ⟨_, rfl⟩) ⟨_, rfl⟩) ⟨_, rfl⟩) ⟨_, rfl⟩) ⟨_, rfl⟩) ⟨_, rfl⟩) ⟨_, rfl⟩) ⟨_, rfl⟩) ⟨_, rfl⟩) ⟨_, rfl⟩) ⟨_, rfl⟩) ⟨_, rfl⟩) ⟨_, rfl⟩) ⟨_, rfl⟩) ⟨_, rfl⟩) ⟨_, rfl⟩) ⟨_, rfl⟩) ⟨_, rfl⟩) ⟨_, rfl⟩) ⟨_, rfl⟩) ⟨_, rfl⟩) ⟨_, rfl⟩) ⟨_, rfl⟩) ⟨_, rfl⟩) ⟨_, rfl⟩) ⟨_, rfl⟩) ⟨_, rfl⟩) ⟨_, rfl⟩) ⟨_, rfl⟩) ⟨_, rfl⟩) ⟨_, rfl⟩) ⟨_, rfl⟩) ⟨_, rfl⟩) ⟨_, rfl⟩) ⟨_, rfl⟩) ⟨_, rfl⟩) ⟨_, rfl⟩) ⟨_, rfl⟩) ⟨_, rfl⟩) ⟨_, rfl⟩) ⟨_, rfl⟩) ⟨_, rfl⟩) ⟨_, rfl⟩) ⟨_, rfl⟩) ⟨_, rfl⟩) ⟨_, rfl⟩) ⟨_, rfl⟩) ⟨_, rfl⟩) ⟨_, rfl⟩) ⟨_, rfl⟩) ⟨_, rfl⟩) ⟨_, rfl⟩) ⟨_, rfl⟩) ⟨_, rfl⟩) ⟨_, rfl⟩) ⟨_, rfl⟩) ⟨_, rfl⟩) ⟨_, rfl⟩) ⟨_, rfl⟩) ⟨_, rfl⟩) ⟨_, rfl⟩) ⟨_, rfl⟩) ⟨_, rfl⟩) ⟨_, rfl⟩) ⟨_, rfl⟩) ⟨_, rfl⟩) ⟨_, rfl⟩) ⟨_, rfl⟩) ⟨_, rfl⟩) ⟨_, rfl⟩) ⟨_, rfl⟩) ⟨_, rfl⟩) ⟨_, rfl⟩) ⟨_, rfl⟩) ⟨_, rfl⟩) ⟨_, rfl⟩) ⟨_, rfl⟩) ⟨_, rfl⟩) ⟨_, rfl⟩) ⟨_, rfl⟩) ⟨_, rfl⟩) ⟨_, rfl⟩) ⟨_, rfl⟩) ⟨_, rfl⟩) ⟨_, rfl⟩) ⟨_, rfl⟩) ⟨_, rfl⟩) ⟨_, rfl⟩) ⟨_, rfl⟩) ⟨_, rfl⟩) ⟨_, rfl⟩) ⟨_, rfl⟩) ⟨_, rfl⟩) ⟨_, rfl⟩) ⟨_, rfl⟩) ⟨_, rfl⟩) ⟨_, rfl⟩) ⟨_, rfl⟩) ⟨_, rfl⟩) ⟨_, rfl⟩) ⟨_, rfl⟩) ⟨_, rfl⟩) ⟨_, rfl⟩) ⟨_, rfl⟩) ⟨_, rfl⟩) ⟨_, rfl⟩) ⟨_, rfl⟩) ⟨_, rfl⟩) ⟨_, rfl⟩) ⟨_, rfl⟩) ⟨_, rfl⟩) ⟨_, rfl⟩) ⟨_, rfl⟩) ⟨_, rfl⟩) ⟨_, rfl⟩) ⟨_, rfl⟩) ⟨_, rfl⟩) ⟨_, rfl⟩) ⟨_, rfl⟩) ⟨_, rfl⟩) ⟨_, rfl⟩) ⟨_, rfl⟩) ⟨_, rfl⟩) ⟨_, rfl⟩) ⟨_, rfl⟩) ⟨_, rfl⟩) ⟨_, rfl⟩) ⟨_, rfl⟩) ⟨_, rfl⟩) ⟨_, rfl⟩) ⟨_, rfl⟩) ⟨_, rfl⟩) ⟨_, rfl⟩) ⟨_, rfl⟩) ⟨_, rfl⟩) ⟨_, rfl⟩) ⟨_, rfl⟩) ⟨_, rfl⟩) ⟨_, rfl⟩) ⟨_, rfl⟩) ⟨_, rfl⟩) ⟨_, rfl⟩) ⟨_, rfl⟩) ⟨_, rfl⟩) ⟨_, rfl⟩) ⟨_, rfl⟩) ⟨_, rfl⟩) ⟨_, rfl⟩) ⟨_, rfl⟩) ⟨_, rfl⟩) ⟨_, rfl⟩) ⟨_, rfl⟩) ⟨_, rfl⟩) ⟨_, rfl⟩) ⟨_, rfl⟩) ⟨_, rfl⟩) ⟨_, rfl⟩) ⟨_, rfl⟩) ⟨_, rfl⟩) ⟨_, rfl⟩) ⟨_, rfl⟩
theorem oM {cy : Nat → ClassId} {h0 : Nat} {a : Nat → Nat} : ∀ k, k < 18 → ∃ e : va_E, (ylX12_init cy h0 a)[k]? = some (adM h0 a k, e) := lt_s (lt_s (lt_s (lt_s (lt_s (lt_s (lt_s (lt_s (lt_s (lt_s (lt_s (lt_s (lt_s (lt_s (lt_s (lt_s (lt_s (lt_s (lt_0) ⟨_, rfl⟩) ⟨_, rfl⟩) ⟨_, rfl⟩) ⟨_, rfl⟩) ⟨_, rfl⟩) ⟨_, rfl⟩) ⟨_, rfl⟩) ⟨_, rfl⟩) ⟨_, rfl⟩) ⟨_, rfl⟩) ⟨_, rfl⟩) ⟨_, rfl⟩) ⟨_, rfl⟩) ⟨_, rfl⟩) ⟨_, rfl⟩) ⟨_, rfl⟩) ⟨_, rfl⟩) ⟨_, rfl⟩
theorem o_left {D : va_G} {cl : List vw_C} {w1 w2 : va_W} {H : Heap} (hP : va_P D cl (w1 ++ w2) H) : va_P D cl w1 H := fun k q h => hP k q (by rw [List.getElem?_append_left (List.getElem?_eq_some_iff.mp h).1]; exact h)
theorem o_right {D : va_G} {cl : List vw_C} {w1 w2 : va_W} {H : Heap} (hP : va_P D cl (w1 ++ w2) H) : va_P D cl w2 H := fun k q h => hP (w1.length + k) q (by rw [List.getElem?_append_right (by omega)]; rw [show w1.length + k - w1.length = k by omega]; exact h)
theorem o_D {A : Nat → Prop} {cy : Nat → ClassId} {sh : zShp} {ad : Nat → Nat} {M : zMem} {w : va_W} (off : Nat) (hD : va_D A w) (h : ∀ k, k < sh.1 → ∃ e : va_E, w[off + k]? = some (ad k, e)) : va_D A (zW cy sh ad M) := by
  have hlen : ∀ (i : Nat) (q : Nat × va_E), (zW cy sh ad M)[i]? = some q → i < sh.1 ∧ q.1 = ad i := by
    intro i q hq
    by_cases hi : i < sh.1
    · rw [zW_get hi] at hq
      obtain rfl := Option.some.inj hq
      exact ⟨hi, rfl⟩
    · have h1 : sh.1 ≤ i := Nat.le_of_not_lt hi
      simp [zW, h1] at hq
  refine ⟨fun i j a b ha hb e => ?_, fun i q hq => ?_⟩
  · obtain ⟨h1, e1⟩ := hlen i a ha
    obtain ⟨h2, e2⟩ := hlen j b hb
    obtain ⟨x, hx⟩ := h i h1
    obtain ⟨y, hy⟩ := h j h2
    have := hD.1 (off + i) (off + j) _ _ hx hy (by rw [e1, e2] at e; exact e)
    omega
  · obtain ⟨h1, e1⟩ := hlen i q hq
    obtain ⟨x, hx⟩ := h i h1
    have := hD.2 (off + i) _ hx
    rw [e1]
    exact this
theorem o_ty {sh : zShp} {M : zMem} (h1 : ∀ k, k < sh.1 → sh.2.1 k < 13 → ∀ j, j < znf (sh.2.1 k) → zft (sh.2.1 k) j = 1 → zR M k j < sh.1 ∧ sh.2.1 (zR M k j) = zrt (sh.2.1 k) j) (h2 : ∀ k, k < sh.1 → 17 ≤ sh.2.1 k → sh.2.1 k < 20 → ∀ j, j < sh.2.2 k → zR M k j < sh.1 ∧ sh.2.1 (zR M k j) = zrt (sh.2.1 k) 0) : zTY sh M := by
  refine ⟨fun k c j hT g1 g2 g3 => ?_, fun k c j hT g1 g2 g3 => ?_⟩
  · obtain ⟨hk, rfl⟩ := hT
    exact h1 k hk g1 j g2 g3
  · obtain ⟨hk, rfl⟩ := hT
    exact h2 k hk g1 g2 j g3
theorem o_tyC : zTY shC mC := o_ty (by decide +kernel) (by decide +kernel)
theorem o_tyM : zTY shM mM := o_ty (by decide +kernel) (by decide +kernel)
theorem o_sub {L : Nat} (h : 7 ≤ L) : nI L - 7 = nI (L - 7) := by
  have : nI (L - 7) + 7 = nI L := by
    show nI (L - 7) + nI 7 = nI L
    rw [nI_add]
    congr 1
    omega
  rw [← this]
  exact Int32.add_sub_cancel _ _
theorem o_small : ∀ L, L < 7 → nI L - 7 < nI 0 := by decide +kernel
set_option maxHeartbeats 4000000 in
set_option maxRecDepth 100000 in
theorem law_loop {p : Program} {l : Launch} {e : Env} {s : State} {m : MethodId} {below : List Frame} {meth : Method} {c : Code} {D : va_G} {cy : Nat → ClassId} {b L : Nat} {xs : Nat → Int32} {adc adm : Nat → Nat} {ka : zKa} {Inv : Nat → zMem → zMem → Prop} (hB : BOK Inv) (hB0 : ∀ n M N, Inv n M N → Inv (n + 1) M N) (F : zFx D cy p m c cL_law 4 s #[Value.ref b] RL) (hr : meth.sig.returnType = ret) (hlk : meth.locks = false) (hX : va_X b L xs s s.heap) (hbl : b < s.heap.size) (hS : lStr ka s) (hL : L ≤ 3584) :
    ∀ (k n : Nat) (M N : zMem) (H : Heap) (locs : List Loc) (ls : Array Slot), 7 * n ≤ L → L < 7 * n + 7 * k → Inv n M N → lwd D cy adc adm s M N H locs → lv_has ls 4 [(0, .ref b), (1, .ref (adc 0)), (2, .ref (adm 0)), (3, .int (nI (7 * n)))] → W p l e room_1 s m #[Value.ref b] below meth c H locs lCells lSlots (lw_Z below #[Value.ref b] s) (F0 m 18 ls []) := by
  have hx := F.1.1
  have hb := F.1.2.1
  have hbA : ¬ s.heap.size ≤ b := Nat.not_le.mpr hbl
  intro k
  induction k with
  | zero => intro n M N H locs ls h1 h2; omega
  | succ k ih =>
    intro n M N H locs ls h1 h2 hI hw hl
    refine lv_iload_n hx hb dL_law_18 rfl (lv_at hl 3 rfl) ?_
    refine lv_aload_n hx hb dL_law_19 rfl (lv_at hl 0 rfl) ?_
    refine va_slen hx hb hX hbl hbA hw.2.2.2.1 dL_law_20 ?_
    refine lv_bipush (v := (7 : Int32)) hx hb dL_law_21 (by decide) ?_
    refine lv_isub hx hb dL_law_23 ?_
    refine lv_icmp_gt (tgt := 1804) hx hb dL_law_24 (by decide) (fun c1 => ?_) (fun c1 => ?_)
    · refine lv_iconst (v := (1 : Int32)) hx hb dL_law_1804 (by decide) ?_
      refine va_forget (fun q hq => hw.2.2.2.1.2.2 q hq) ?_
      refine W.widen (k := 600000) (n := 7302249) (Nat.le_of_ble_eq_true rfl) (Nat.le_of_ble_eq_true rfl) ?_
      exact lw_ret hx hb hr hlk dL_law_1805
    · have hj : 7 * n + 7 ≤ L := by
        by_cases h7 : 7 ≤ L
        · rcases Nat.lt_or_ge L (7 * n + 7) with g | g
          · exact absurd (by show nI L - 7 < nI (7 * n); rw [o_sub h7]; exact nI_lt (by omega) (by omega)) c1
          · exact g
        · have h0 : n = 0 := by omega
          subst h0
          exact absurd (o_small L (by omega)) c1
      refine lv_aload_n hx hb dL_law_27 rfl (lv_at hl 0 rfl) ?_
      refine lv_iload_n hx hb dL_law_28 rfl (lv_at hl 3 rfl) ?_
      refine va_sld hx hb hX hbl hbA hw.2.2.2.1 (vp_in_nI (by omega) (by omega)) dL_law_29 ?_
      refine lv_bipush (v := (63 : Int32)) hx hb dL_law_30 (by decide) ?_
      refine lv_iand hx hb dL_law_32 ?_
      refine law_case hB hB0 F hX hbl hS hj hL (by omega) hI hw hl (fun M1 N1 H1 locs1 hI1 hw1 => ?_) _
      refine lv_iinc (v := nI (7 * (n + 1))) (lv' := [(3, .int (nI (7 * (n + 1)))), (0, .ref b), (1, .ref (adc 0)), (2, .ref (adm 0))]) hx hb dL_law_1798 hl (k := 3) rfl (by show nI (7 * n) + nI 7 = nI (7 * (n + 1)); rw [nI_add]; rfl) (by decide) rfl (fun ls hl => ?_)
      refine lv_goto (tgt := 18) hx hb dL_law_1801 (by decide) ?_
      exact ih (n + 1) M1 N1 H1 locs1 ls (by omega) (by omega) hI1 hw1 (lv_sub hl [1, 2, 3, 0] rfl)
set_option maxHeartbeats 4000000 in
set_option maxRecDepth 100000 in
theorem whole_open {p : Program} {e : Env} {s : State} {m : MethodId} {below : List Frame} {meth : Method} {c : Code} (l : Launch) {b L : Nat} {xs : Nat → Int32} {Inv : Nat → zMem → zMem → Prop} (hB : BOK Inv) (hB0 : ∀ n M N, Inv n M N → Inv (n + 1) M N) (hI0 : Inv 0 mC mM) (hL : L ≤ 3584) (C0 : lw_At p s m meth c b L xs) : W p l e room_1 s m #[Value.ref b] below meth c s.heap [] 0 0 (lw_Z below #[Value.ref b] s) (entryFrame m ([Value.ref b] : List Value).toArray 4) := by
  obtain ⟨hx, hb, hr, hml, hown, hts, hX, hbl, hlk, hgv⟩ := C0
  obtain ⟨D, cy, hK⟩ := st_K hts
  obtain ⟨ka, hStr⟩ := st_str hts hgv
  have hN := st_yst hts
  have F : zFx D cy p m c cL_law 4 s #[Value.ref b] RL := ⟨⟨hx, hb, hml, hown, fun w h => hts w (List.mem_filter.mp h).1⟩, hK, st_nst hts⟩
  have hb : c.code = cL_law := hb
  have hA : ∀ q : Nat, s.heap.size ≤ q → (fun q : Nat => s.heap.size ≤ q) q := fun _ h => h
  have hS : va_S (fun q : Nat => s.heap.size ≤ q) s.heap s.heap [] := va_S.rf
  have hP : va_P D vwCl [] s.heap := fun k q h => by simp at h
  have hD : va_D (fun q : Nat => s.heap.size ≤ q) [] := ⟨fun i j p q h => by simp at h, fun k q h => by simp at h⟩
  have hl := lv_entry ([.ref b]) (n := 4) (Nat.le_of_ble_eq_true rfl)
  rw [lg_entry_eq]
  generalize (lg_sl ([.ref b]) ++ List.replicate (4 - (lg_sl ([.ref b])).length) Slot.unset).toArray = ls at hl ⊢
  have hl : lv_has ls 4 [(0, .ref b)] := hl
  refine va_new (D := D) (ci := 11) (fs := [.null, .null, .null, .null, .null, .null, .null, .null, .null, .null, .null, .null, .null]) hx hb F.1.2.2.2.2 zc11.2.2.1 tyX11 tyX11_ok F.1.2.2.2.1 (F.1.2.2.2.2 _ nw_cl7) (F.1.2.2.2.2 _ nw_in11) (F.1.2.2.2.2 _ nw_it11) F.2.1 hP hD hS hA rfl (by decide +kernel) (Nat.le_of_ble_eq_true rfl) (Nat.le_of_ble_eq_true rfl) dL_law_0 (fun q1 H hP hD hS => ?_)
  refine lv_dup hx hb dL_law_3 rfl ?_
  refine y_cI F hN hl.1 (wr := []) (As := []) (rest := [.ref q1]) hP hD hS hA (ztX11_init l D cy q1) zyX11_init nw_k9 ⟨rfl, rfl⟩ ⟨Nat.le_of_ble_eq_true rfl, Nat.le_of_ble_eq_true rfl⟩ rfl rfl (Nat.le_of_ble_eq_true rfl) dL_law_4 ⟨Nat.le_of_ble_eq_true rfl, Nat.le_of_ble_eq_true rfl⟩ (fun a1 H locs hP hD hS => ?_)
  refine lv_astore_n (lv' := [(1, .ref q1), (0, .ref b)]) hx hb dL_law_7 rfl hl (by decide) rfl (fun ls hl => ?_)
  have hP : va_P D vwCl (ylX11_init cy q1 a1) H := o_right hP
  have hD : va_D (fun q : Nat => s.heap.size ≤ q) (ylX11_init cy q1 a1) := hD
  generalize hw1 : ylX11_init cy q1 a1 = w1 at hP hD
  refine va_new (D := D) (ci := 12) (fs := [.null, .null, .int 0, .int 0, .int 0, .int 0, .int 0, .int 0, .int 0, .int 0, .int 0, .int 0, .long 0, .null, .null, .null, .null, .null, .null, .null, .null, .null, .int 0, .int 0, .int 0, .int 0, .int 0, .int 0, .int 0, .int 0, .int 0, .int 0, .int 0, .null, .null, .null, .int 0, .null, .int 0, .int 0, .int 0, .int 0, .int 0, .int 0, .int 0, .null, .int 0, .null, .int 0, .int 0, .int 0]) hx hb F.1.2.2.2.2 zc12.2.2.1 tyX12 tyX12_ok F.1.2.2.2.1 (F.1.2.2.2.2 _ nw_cl10) (F.1.2.2.2.2 _ nw_in12) (F.1.2.2.2.2 _ nw_it12) F.2.1 hP hD hS hA rfl (by decide +kernel) (Nat.le_of_ble_eq_true rfl) (Nat.le_of_ble_eq_true rfl) dL_law_8 (fun q2 H hP hD hS => ?_)
  refine lv_dup hx hb dL_law_11 rfl ?_
  refine y_cI F hN hl.1 (wr := w1) (As := []) (rest := [.ref q2]) hP hD hS hA (ztX12_init l D cy q2) zyX12_init nw_k12 ⟨rfl, rfl⟩ ⟨Nat.le_of_ble_eq_true rfl, Nat.le_of_ble_eq_true rfl⟩ rfl rfl (Nat.le_of_ble_eq_true rfl) dL_law_12 ⟨Nat.le_of_ble_eq_true rfl, Nat.le_of_ble_eq_true rfl⟩ (fun a2 H locs hP hD hS => ?_)
  refine lv_astore_n (lv' := [(2, .ref q2), (1, .ref q1), (0, .ref b)]) hx hb dL_law_15 rfl hl (by decide) rfl (fun ls hl => ?_)
  refine lv_iconst (v := (0 : Int32)) hx hb dL_law_16 (by decide) ?_
  refine lv_istore_n (lv' := [(3, .int (nI (7 * 0))), (2, .ref q2), (1, .ref q1), (0, .ref b)]) hx hb dL_law_17 rfl hl (by decide) rfl (fun ls hl => ?_)
  have hwl : w1.length = 185 := by rw [← hw1]; rfl
  have h1 : ∀ k, k < 185 → ∃ e : va_E, (w1 ++ ylX12_init cy q2 a2)[0 + k]? = some (adC q1 a1 k, e) := fun k hk => by
    obtain ⟨e, h⟩ := oC (cy := cy) (h0 := q1) (a := a1) k hk
    exact ⟨e, by rw [Nat.zero_add, List.getElem?_append_left (by omega), ← hw1]; exact h⟩
  have h2 : ∀ k, k < 18 → ∃ e : va_E, (w1 ++ ylX12_init cy q2 a2)[185 + k]? = some (adM q2 a2 k, e) := fun k hk => by
    obtain ⟨e, h⟩ := oM (cy := cy) (h0 := q2) (a := a2) k hk
    exact ⟨e, by rw [List.getElem?_append_right (by omega), hwl, show 185 + k - 185 = k by omega]; exact h⟩
  have hw : lwd D cy (adC q1 a1) (adM q2 a2) s mC mM H locs := ⟨pC (by rw [hw1]; exact o_left hP), pM (o_right hP), ⟨⟨o_D 0 hD h1, o_D 185 hD h2⟩, fun i j hi hj e => by
    obtain ⟨x, hx⟩ := h1 i hi
    obtain ⟨y, hy⟩ := h2 j hj
    have := hD.1 _ _ _ _ hx hy e
    omega⟩, hS, o_tyC, o_tyM⟩
  exact law_loop hB hB0 F hr hlk hX hbl hStr hL (L + 1) 0 mC mM _ _ _ (by omega) (by omega) hI0 hw (lv_sub hl [3, 2, 1, 0] rfl)
