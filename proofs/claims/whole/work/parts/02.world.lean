/-! the words that may be handed on to a callee -/
def AW : List Cond := lw_tbl.filter goodWord
theorem aw_mem {w : Cond} (h : w ∈ lw_tbl) (g : goodWord w = true) : w ∈ AW := List.mem_filter.mpr ⟨h, g⟩
theorem aw_all {L : List Cond} (h : ∀ w ∈ L, w ∈ lw_tbl) (g : L.all goodWord = true) : ∀ w ∈ L, w ∈ AW := fun w hw => aw_mem (h w hw) (List.all_eq_true.mp g w hw)
theorem aw_good {x : Cond} (hx : x ∈ AW) : GoodIn AW (x :: AW) := fun w h => by
  have hw : w ∈ AW := (List.mem_cons.mp h).elim (fun e => e ▸ hx) id
  exact ⟨hw, good_of_word (List.mem_filter.mp hw).2⟩
/-! memory: ints, longs, references, by a block's number and a place in it -/
abbrev zMem : Type := (Nat → Nat → Int32) × (Nat → Nat → Int64) × (Nat → Nat → Nat)
/-- how many blocks, the kind of each, the length of each (of an array) -/
abbrev zShp : Type := Nat × (Nat → Nat) × (Nat → Nat)
def zI (M : zMem) (k j : Nat) : Int32 := M.1 k j
def zJ (M : zMem) (k j : Nat) : Int64 := M.2.1 k j
def zR (M : zMem) (k j : Nat) : Nat := M.2.2 k j
def zu2 {α : Type} (f : Nat → Nat → α) (k j : Nat) (v : α) : Nat → Nat → α := fun a b => if a = k ∧ b = j then v else f a b
def zpI (M : zMem) (k j : Nat) (v : Int32) : zMem := (zu2 M.1 k j v, M.2.1, M.2.2)
def zpJ (M : zMem) (k j : Nat) (v : Int64) : zMem := (M.1, zu2 M.2.1 k j v, M.2.2)
def zpR (M : zMem) (k j : Nat) (v : Nat) : zMem := (M.1, M.2.1, zu2 M.2.2 k j v)
/-- the ints of block a from sp on into block b from dp on, n of them -/
def zpC (M : zMem) (a sp b dp n : Nat) : zMem := (fun k j => if k = b then va_cpy (M.1 a) (M.1 b) sp dp n j else M.1 k j, M.2.1, M.2.2)
def zlen (sh : zShp) (k : Nat) : Nat := sh.2.2 k

def zftl : Nat → List Nat := fun c => match c with
  | 0 => [0, 0, 0, 0, 0, 0, 0, 0]
  | 1 => [1, 1, 1, 1, 1, 1, 0, 0, 0, 0, 0, 0]
  | 2 => [0, 0, 0, 0, 0]
  | 3 => [1, 0, 0]
  | 4 => [1, 1, 1, 0, 0, 0, 0, 0, 0, 0]
  | 5 => [1, 0]
  | 6 => [1, 1, 0, 0, 0, 0, 0, 0, 0]
  | 7 => [0, 0, 0, 0, 0, 0]
  | 8 => [1, 1, 1, 1, 0, 0, 0, 0, 0, 0, 0, 0, 0]
  | 9 => [1, 1]
  | 10 => [1, 0]
  | 11 => [1, 1, 1, 1, 1, 1, 1, 1, 1, 1, 1, 1, 1]
  | _ => [1, 1, 0, 0, 0, 0, 0, 0, 0, 0, 0, 0, 2, 1, 1, 1, 1, 1, 1, 1, 1, 1, 0, 0, 0, 0, 0, 0, 0, 0, 0, 0, 0, 1, 1, 1, 0, 1, 0, 0, 0, 0, 0, 0, 0, 1, 0, 1, 0, 0, 0]
def zrtl : Nat → List Nat := fun c => match c with
  | 0 => [0, 0, 0, 0, 0, 0, 0, 0]
  | 1 => [17, 14, 14, 14, 9, 16, 0, 0, 0, 0, 0, 0]
  | 2 => [0, 0, 0, 0, 0]
  | 3 => [19, 0, 0]
  | 4 => [14, 14, 5, 0, 0, 0, 0, 0, 0, 0]
  | 5 => [14, 0]
  | 6 => [10, 1, 0, 0, 0, 0, 0, 0, 0]
  | 7 => [0, 0, 0, 0, 0, 0]
  | 8 => [18, 4, 14, 14, 0, 0, 0, 0, 0, 0, 0, 0, 0]
  | 9 => [14, 14]
  | 10 => [13, 0]
  | 11 => [10, 6, 8, 8, 3, 4, 5, 7, 2, 14, 14, 1, 1]
  | 12 => [14, 14, 0, 0, 0, 0, 0, 0, 0, 0, 0, 0, 0, 15, 14, 14, 14, 14, 14, 14, 16, 16, 0, 0, 0, 0, 0, 0, 0, 0, 0, 0, 0, 14, 14, 14, 0, 14, 0, 0, 0, 0, 0, 0, 0, 14, 0, 14, 0, 0, 0]
  | 17 => [0]
  | 18 => [7]
  | _ => [8]
def znf (c : Nat) : Nat := (zftl c).length
def zft (c j : Nat) : Nat := ((zftl c)[j]?).getD 0
def zrt (c j : Nat) : Nat := ((zrtl c)[j]?).getD 0
def zfv (ad : Nat → Nat) (M : zMem) (k t j : Nat) : Value := if t = 0 then .int (zI M k j) else if t = 1 then .ref (ad (zR M k j)) else .long (zJ M k j)
def zfs (ad : Nat → Nat) (M : zMem) (k c : Nat) : List Value := (List.range (znf c)).map (fun j => zfv ad M k (zft c j) j)
def zcel (cy : Nat → ClassId) (sh : zShp) (ad : Nat → Nat) (M : zMem) (k : Nat) : va_E :=
  if sh.2.1 k < 13 then .inr (sh.2.1 k, zfs ad M k (sh.2.1 k))
  else if sh.2.1 k = 15 then .inl (cy 15, sh.2.2 k, .inr (.inl (M.2.1 k)))
  else if sh.2.1 k < 17 then .inl (cy (sh.2.1 k), sh.2.2 k, .inl (M.1 k))
  else .inl (cy (sh.2.1 k), sh.2.2 k, .inr (.inr (.inr (.inr (fun j => some (ad (M.2.2 k j)))))))
def zW (cy : Nat → ClassId) (sh : zShp) (ad : Nat → Nat) (M : zMem) : va_W := (List.range sh.1).map (fun k => (ad k, zcel cy sh ad M k))
/-- block k is there, of kind c -/
def zT (sh : zShp) (k c : Nat) : Prop := k < sh.1 ∧ sh.2.1 k = c
/-- the references lead where their fields say -/
def zTY (sh : zShp) (M : zMem) : Prop := (∀ k c j, zT sh k c → c < 13 → j < znf c → zft c j = 1 → zT sh (zR M k j) (zrt c j)) ∧ ∀ k c j, zT sh k c → 17 ≤ c → c < 20 → j < sh.2.2 k → zT sh (zR M k j) (zrt c 0)
theorem zTY.fld {sh : zShp} {M : zMem} (h : zTY sh M) {k c : Nat} (hT : zT sh k c) (j t : Nat) (h1 : c < 13 := by decide) (h2 : j < znf c := by decide) (h3 : zft c j = 1 := by decide) (h4 : zrt c j = t := by decide) : zT sh (zR M k j) t := h4 ▸ h.1 k c j hT h1 h2 h3
theorem zTY.arr {sh : zShp} {M : zMem} (h : zTY sh M) {k c : Nat} (hT : zT sh k c) (j t : Nat) (hj : j < sh.2.2 k) (h1 : 17 ≤ c := by decide) (h2 : c < 20 := by decide) (h4 : zrt c 0 = t := by decide) : zT sh (zR M k j) t := h4 ▸ h.2 k c j hT h1 h2 hj
theorem zTY.pI {sh : zShp} {M : zMem} (h : zTY sh M) (k j : Nat) (v : Int32) : zTY sh (zpI M k j v) := h
theorem zTY.pJ {sh : zShp} {M : zMem} (h : zTY sh M) (k j : Nat) (v : Int64) : zTY sh (zpJ M k j v) := h
theorem zTY.pC {sh : zShp} {M : zMem} (h : zTY sh M) (a sp b dp n : Nat) : zTY sh (zpC M a sp b dp n) := h
theorem zTY.pR {sh : zShp} {M : zMem} (h : zTY sh M) {k c j v : Nat} (hT : zT sh k c) (h1 : c < 13) (hv : zT sh v (zrt c j)) : zTY sh (zpR M k j v) := by
  refine ⟨fun k' c' j' hT' g1 g2 g3 => ?_, fun k' c' j' hT' g1 g2 g3 => ?_⟩
  · show zT sh (zu2 M.2.2 k j v k' j') _
    unfold zu2
    by_cases hq : k' = k ∧ j' = j
    · rw [if_pos hq]
      obtain ⟨rfl, rfl⟩ := hq
      rw [← hT'.2, hT.2]
      exact hv
    · rw [if_neg hq]
      exact h.1 k' c' j' hT' g1 g2 g3
  · show zT sh (zu2 M.2.2 k j v k' j') _
    unfold zu2
    by_cases hq : k' = k ∧ j' = j
    · obtain ⟨rfl, rfl⟩ := hq
      have : c' = c := hT'.2.symm.trans hT.2
      omega
    · rw [if_neg hq]
      exact h.2 k' c' j' hT' g1 g2 g3
section ZW
variable {cy : Nat → ClassId} {sh : zShp} {ad : Nat → Nat} {M M1 : zMem} {k c : Nat}
theorem zW_get (hk : k < sh.1) : (zW cy sh ad M)[k]? = some (ad k, zcel cy sh ad M k) := by
  simp [zW, hk]
theorem zcel_same {q : Nat} (h1 : M1.1 q = M.1 q) (h2 : M1.2.1 q = M.2.1 q) (h3 : M1.2.2 q = M.2.2 q) : zcel cy sh ad M1 q = zcel cy sh ad M q := by
  simp only [zcel, zfs, zfv, zI, zJ, zR, h1, h2, h3]
theorem zW_set {e : va_E} (hk : k < sh.1) (he : e = zcel cy sh ad M1 k) (ho : ∀ q, q ≠ k → zcel cy sh ad M1 q = zcel cy sh ad M q) : (zW cy sh ad M).set k (ad k, e) = zW cy sh ad M1 := by
  apply List.ext_getElem?
  intro i
  rw [List.getElem?_set]
  by_cases h : k = i
  · subst h
    rw [if_pos rfl, he, zW_get hk]
    simp [zW, hk]
  · rw [if_neg h]
    by_cases hi : i < sh.1
    · rw [zW_get hi, zW_get hi, ho i (fun e => h e.symm)]
    · have h1 : sh.1 ≤ i := Nat.le_of_not_lt hi
      simp [zW, h1]
theorem zcel_obj (h : zT sh k c) (hc : c < 13) : zcel cy sh ad M k = .inr (c, zfs ad M k c) := by
  unfold zcel
  rw [h.2, if_pos hc]
theorem zcel_int (h : zT sh k c) (hc : c = 13 ∨ c = 14 ∨ c = 16) : zcel cy sh ad M k = .inl (cy c, sh.2.2 k, .inl (M.1 k)) := by
  unfold zcel
  rw [h.2, if_neg (by omega), if_neg (by omega), if_pos (by omega)]
theorem zcel_long (h : zT sh k 15) : zcel cy sh ad M k = .inl (cy 15, sh.2.2 k, .inr (.inl (M.2.1 k))) := by
  unfold zcel
  rw [h.2, if_neg (by omega), if_pos rfl]
theorem zcel_ref (h : zT sh k c) (hc : 17 ≤ c) : zcel cy sh ad M k = .inl (cy c, sh.2.2 k, .inr (.inr (.inr (.inr (fun j => some (ad (M.2.2 k j))))))) := by
  unfold zcel
  rw [h.2, if_neg (by omega), if_neg (by omega), if_neg (by omega)]
theorem zW_obj (h : zT sh k c) (hc : c < 13) : (zW cy sh ad M)[k]? = some (ad k, .inr (c, zfs ad M k c)) := (zW_get h.1).trans (by rw [zcel_obj h hc])
theorem zW_int (h : zT sh k c) (hc : c = 13 ∨ c = 14 ∨ c = 16) : (zW cy sh ad M)[k]? = some (ad k, .inl (cy c, sh.2.2 k, .inl (M.1 k))) := (zW_get h.1).trans (by rw [zcel_int h hc])
theorem zW_long (h : zT sh k 15) : (zW cy sh ad M)[k]? = some (ad k, .inl (cy 15, sh.2.2 k, .inr (.inl (M.2.1 k)))) := (zW_get h.1).trans (by rw [zcel_long h])
theorem zW_ref (h : zT sh k c) (hc : 17 ≤ c) : (zW cy sh ad M)[k]? = some (ad k, .inl (cy c, sh.2.2 k, .inr (.inr (.inr (.inr (fun j => some (ad (M.2.2 k j)))))))) := (zW_get h.1).trans (by rw [zcel_ref h hc])
theorem zfs_at {j : Nat} (hj : j < znf c) : (zfs ad M k c)[j]? = some (zfv ad M k (zft c j) j) := by
  simp [zfs, hj]
theorem zfs_set {j : Nat} {v : Value} (hj : j < znf c) (hv : v = zfv ad M1 k (zft c j) j) (ho : ∀ i, i ≠ j → zfv ad M1 k (zft c i) i = zfv ad M k (zft c i) i) : (zfs ad M k c).set j v = zfs ad M1 k c := by
  apply List.ext_getElem?
  intro i
  rw [List.getElem?_set]
  by_cases h : j = i
  · subst h
    rw [if_pos rfl, hv, zfs_at hj]
    simp [zfs, hj]
  · rw [if_neg h]
    by_cases hi : i < znf c
    · rw [zfs_at hi, zfs_at hi, ho i (fun e => h e.symm)]
    · have h1 : znf c ≤ i := Nat.le_of_not_lt hi
      simp [zfs, h1]
theorem zu2_ne {α : Type} {f : Nat → Nat → α} {k j : Nat} {v : α} {q : Nat} (h : q ≠ k) : zu2 f k j v q = f q := by
  funext b
  simp [zu2, h]
theorem zW_pI {j : Nat} {v : Int32} (h : zT sh k c) (hc : c < 13) (hj : j < znf c) (hf : zft c j = 0) : (zW cy sh ad M).set k (ad k, .inr (c, (zfs ad M k c).set j (.int v))) = zW cy sh ad (zpI M k j v) := by
  refine zW_set h.1 ?_ (fun q hq => zcel_same (zu2_ne hq) rfl rfl)
  rw [zcel_obj h hc]
  rw [zfs_set (M1 := zpI M k j v) hj (by simp [zfv, hf, zI, zpI, zu2]) (fun i hi => by simp [zfv, zI, zJ, zR, zpI, zu2, hi])]
theorem zW_pJ {j : Nat} {v : Int64} (h : zT sh k c) (hc : c < 13) (hj : j < znf c) (hf : zft c j = 2) : (zW cy sh ad M).set k (ad k, .inr (c, (zfs ad M k c).set j (.long v))) = zW cy sh ad (zpJ M k j v) := by
  refine zW_set h.1 ?_ (fun q hq => zcel_same rfl (zu2_ne hq) rfl)
  rw [zcel_obj h hc]
  rw [zfs_set (M1 := zpJ M k j v) hj (by simp [zfv, hf, zJ, zpJ, zu2]) (fun i hi => by simp [zfv, zI, zJ, zR, zpJ, zu2, hi])]
theorem zW_pR {j v : Nat} (h : zT sh k c) (hc : c < 13) (hj : j < znf c) (hf : zft c j = 1) : (zW cy sh ad M).set k (ad k, .inr (c, (zfs ad M k c).set j (.ref (ad v)))) = zW cy sh ad (zpR M k j v) := by
  refine zW_set h.1 ?_ (fun q hq => zcel_same rfl rfl (zu2_ne hq))
  rw [zcel_obj h hc]
  rw [zfs_set (M1 := zpR M k j v) hj (by simp [zfv, hf, zR, zpR, zu2]) (fun i hi => by simp [zfv, zI, zJ, zR, zpR, zu2, hi])]
theorem zW_pIa {i : Nat} {v : Int32} (h : zT sh k c) (hc : c = 13 ∨ c = 14 ∨ c = 16) : (zW cy sh ad M).set k (ad k, .inl (cy c, sh.2.2 k, .inl (upd (M.1 k) i v))) = zW cy sh ad (zpI M k i v) := by
  refine zW_set h.1 ?_ (fun q hq => zcel_same (zu2_ne hq) rfl rfl)
  rw [zcel_int h hc]
  have : (zpI M k i v).1 k = upd (M.1 k) i v := by funext b; simp [zpI, zu2, upd]
  rw [this]
theorem zW_pJa {i : Nat} {v : Int64} (h : zT sh k 15) : (zW cy sh ad M).set k (ad k, .inl (cy 15, sh.2.2 k, .inr (.inl (vp_updL (M.2.1 k) i v)))) = zW cy sh ad (zpJ M k i v) := by
  refine zW_set h.1 ?_ (fun q hq => zcel_same rfl (zu2_ne hq) rfl)
  rw [zcel_long h]
  have : (zpJ M k i v).2.1 k = vp_updL (M.2.1 k) i v := by funext b; simp [zpJ, zu2, vp_updL]
  rw [this]
theorem zW_pC {a sp dp n : Nat} (h : zT sh k c) (hc : c = 13 ∨ c = 14 ∨ c = 16) : (zW cy sh ad M).set k (ad k, .inl (cy c, sh.2.2 k, .inl (va_cpy (M.1 a) (M.1 k) sp dp n))) = zW cy sh ad (zpC M a sp k dp n) := by
  refine zW_set h.1 ?_ (fun q hq => zcel_same (by funext b; simp [zpC, hq]) rfl rfl)
  rw [zcel_int h hc]
  have : (zpC M a sp k dp n).1 k = va_cpy (M.1 a) (M.1 k) sp dp n := by funext b; simp [zpC]
  rw [this]
end ZW
/-! naming, guards, calls of the functions that tell what a method does -/
def zbd {α β : Type} (x : α) (f : α → β) : β := f x
theorem zbd_eq {α β : Type} {x y : α} {f : α → Option β} {r : Option β} (e : y = x) (h : zbd x f = r) : f y = r := by subst e; exact h
def zgd {α : Type} (b : Bool) (X : Option α) : Option α := if b = true then X else none
theorem zgd_some {α : Type} {b : Bool} {X : Option α} {r : α} (h : zgd b X = some r) : b = true ∧ X = some r := by
  unfold zgd at h
  by_cases hb : b = true
  · rw [if_pos hb] at h
    exact ⟨hb, h⟩
  · rw [if_neg hb] at h
    cases h
def zob {α β : Type} (x : Option α) (f : α → Option β) : Option β := match x with
  | none => none
  | some a => f a
theorem zob_some {α β : Type} {x : Option α} {f : α → Option β} {r : β} (h : zob x f = some r) : ∃ a, x = some a ∧ f a = some r := by
  cases x with
  | none => cases h
  | some a => exact ⟨a, rfl, h⟩
def zin (i : Int32) (n : Nat) : Bool := decide (0 ≤ i.toInt) && decide (i.toInt < n)
theorem zin_in {i : Int32} {n : Nat} (h : zin i n = true) : vp_in i n := by
  unfold zin at h
  rw [Bool.and_eq_true, decide_eq_true_eq, decide_eq_true_eq] at h
  exact vp_in_iff.mpr h
theorem zin_lt {i : Int32} {n : Nat} (h : zin i n = true) : i.toNatClampNeg < n := Nat.not_le.mp fun q => zin_in h (Or.inr q)
def znz (i : Int32) : Bool := !decide (i = 0)
theorem znz_ne {i : Int32} (h : znz i = true) : ¬ i = 0 := by simpa [znz] using h
def znzL (i : Int64) : Bool := !decide (i = 0)
theorem znzL_ne {i : Int64} (h : znzL i = true) : ¬ i = 0 := by simpa [znzL] using h
def zisB (v : Int32) : Bool := decide (v = 0) || decide (v = 1)
theorem zisB_nar {v : Int32} (h : zisB v = true) : narrow .boolean (.int v) = .int v := by
  unfold zisB at h
  rw [Bool.or_eq_true, decide_eq_true_eq, decide_eq_true_eq] at h
  rcases h with rfl | rfl <;> decide +kernel
def zcpok (sp dp n : Int32) (n0 n1 : Nat) : Bool := decide (¬ sp < 0) && decide (¬ dp < 0) && decide (¬ n < 0) && decide (sp.toNatClampNeg + n.toNatClampNeg ≤ n0) && decide (dp.toNatClampNeg + n.toNatClampNeg ≤ n1)
theorem zcpok_all {sp dp n : Int32} {n0 n1 : Nat} (h : zcpok sp dp n n0 n1 = true) : ¬ sp < 0 ∧ ¬ dp < 0 ∧ ¬ n < 0 ∧ sp.toNatClampNeg + n.toNatClampNeg ≤ n0 ∧ dp.toNatClampNeg + n.toNatClampNeg ≤ n1 := by
  simpa [zcpok, and_assoc] using h
/-! the world of a method -/
def zNst (U : State) : Prop := va_Nw (.methodLinkNest RX1 65 yX11_isWithin RX11) U ∧ va_Nw (.methodLinkNest RX6 184 yX11_isWithin RX11) U
theorem zNst.warm {s U : State} (hW : s.WarmedH U.vm) (h : zNst s) : zNst U := ⟨va_Nw.warmM hW h.1, va_Nw.warmM hW h.2⟩
theorem zNst.same {s U : State} (e : s.vm = U.vm) (h : zNst s) : zNst U := ⟨va_Nw.same rfl e h.1, va_Nw.same rfl e h.2⟩
def ztyl (cy : Nat → ClassId) : List (ClassId × FieldType) := [(cy 13, .byte), (cy 14, .int), (cy 15, .long), (cy 16, .boolean), (cy 17, .object "MicroSteps$Axis"), (cy 18, .object "MicroSteps$Rotor"), (cy 19, .object "MicroSteps$State")]
def zA (sh : zShp) (ad : Nat → Nat) (sz : Nat) : Nat → Prop := fun q => (∃ k, k < sh.1 ∧ q = ad k) ∨ sz ≤ q
/-- what a caller hands over -/
def zPre (D : va_G) (cy : Nat → ClassId) (sh : zShp) (ad : Nat → Nat) (M : zMem) (sz : Nat) (U : State) : Prop := U.heap.size = sz ∧ va_P D vwCl (zW cy sh ad M) U.heap ∧ va_K D vwCl (ztyl cy) U ∧ zNst U ∧ va_D (fun _ => True) (zW cy sh ad M) ∧ zTY sh M
/-- what it gets back -/
def zPost (D : va_G) (cy : Nat → ClassId) (sh : zShp) (ad : Nat → Nat) (sz : Nat) (M : zMem) (t : State) : Prop := va_P D vwCl (zW cy sh ad M) t.heap ∧ va_D (zA sh ad sz) (zW cy sh ad M) ∧ zTY sh M
def zFx (D : va_G) (cy : Nat → ClassId) (p : Program) (m : MethodId) (c : Code) (cc : ByteArray) (nL : Nat) (s : State) (args : Array Value) (own : String) : Prop := CallFix p m c cc nL s args AW own ∧ va_K D vwCl (ztyl cy) s ∧ zNst s
def zWd (D : va_G) (cy : Nat → ClassId) (sh : zShp) (ad : Nat → Nat) (s : State) (M : zMem) (H : Heap) (locs : List Loc) : Prop := va_P D vwCl (zW cy sh ad M) H ∧ va_D (zA sh ad s.heap.size) (zW cy sh ad M) ∧ va_S (zA sh ad s.heap.size) s.heap H locs ∧ zTY sh M
def zCls (ci : Nat) (C : String) (TT : u_T) (ty : Nat → FieldType) (N : Nat) : Prop := ci < 13 ∧ vwCl[ci]? = some (C, TT, N) ∧ (∀ w ∈ u_ws C TT N, w ∈ AW) ∧ znf ci = N ∧ (∀ k, k < N → parseFieldDescriptor (TT k).2.2.1 = some (ty k)) ∧ (∀ a, a < N → ∀ b, b < N → a ≠ b → (TT a).2.1 ≠ (TT b).2.1)
theorem zA_in {sh : zShp} {ad : Nat → Nat} {sz k : Nat} (h : k < sh.1) : zA sh ad sz (ad k) := Or.inl ⟨k, h, rfl⟩
theorem zA_le {sh : zShp} {ad : Nat → Nat} {a b q : Nat} (h : a ≤ b) (hq : zA sh ad b q) : zA sh ad a q := hq.elim Or.inl (fun g => Or.inr (Nat.le_trans h g))
theorem zD_all {cy : Nat → ClassId} {sh : zShp} {ad : Nat → Nat} {M M1 : zMem} {A A1 : Nat → Prop} (h : va_D A (zW cy sh ad M)) (hA : ∀ k, k < sh.1 → A1 (ad k)) : va_D A1 (zW cy sh ad M1) := by
  have hlen : ∀ (M2 : zMem) (i : Nat) (q : Nat × va_E), (zW cy sh ad M2)[i]? = some q → i < sh.1 ∧ q = (ad i, zcel cy sh ad M2 i) := by
    intro M2 i q hq
    by_cases hi : i < sh.1
    · rw [zW_get hi] at hq
      exact ⟨hi, (Option.some.inj hq).symm⟩
    · have h1 : sh.1 ≤ i := Nat.le_of_not_lt hi
      simp [zW, h1] at hq
  refine ⟨fun i j a b ha hb e => ?_, fun i q hq => ?_⟩
  · obtain ⟨h1, e1⟩ := hlen M1 i a ha
    obtain ⟨h2, e2⟩ := hlen M1 j b hb
    exact h.1 i j _ _ (zW_get h1) (zW_get h2) (by rw [e1, e2] at e; exact e)
  · obtain ⟨h1, e1⟩ := hlen M1 i q hq
    rw [e1]
    exact hA i h1
section ZROWS
variable {p : Program} {l : Launch} {e : Env} {R : Room} {s : State} {m : MethodId} {args : Array Value} {below : List Frame} {meth : Method} {c : Code} {H : Heap} {locs : List Loc} {cells slots : Nat} {Q : State → Prop}
variable {cc : ByteArray} {pc nL : Nat} {ls : Array Slot} {rest : List Value} {own : String} {D : va_G} {cy : Nat → ClassId} {sh : zShp} {ad : Nat → Nat} {M : zMem}
theorem z_gI (F : zFx D cy p m c cc nL s args own) (hw : zWd D cy sh ad s M H locs) {k ci idx : Nat} (hT : zT sh k ci) {C : String} {TT : u_T} {ty : Nat → FieldType} {N : Nat} (hc : zCls ci C TT ty N) (j : Nat) (hj : j < N) (hft : zft ci j = 0) (hlink : Cond.fieldLink own idx (TT j).1 (TT j).2.1 (TT j).2.2.1 ∈ AW) (hdg : decode cc pc = .ok (.getfield idx, 3))
    (kk : W p l e R s m args below meth c H locs cells slots Q (F0 m (pc + 3) ls (.int (zI M k j) :: rest))) : W p l e R s m args below meth c H locs cells slots Q (F0 m pc ls (.ref (ad k) :: rest)) := by
  have hv : (zfs ad M k ci)[j]? = some (.int (zI M k j)) := by rw [zfs_at (by rw [hc.2.2.2.1]; exact hj), hft]; rfl
  exact va_get (D := D) F.1.1 F.1.2.1 F.1.2.2.2.2 hc.2.2.1 F.1.2.2.2.1 F.2.1 hw.1 k (zW_obj hT hc.1) hc.2.1 j hj (F.1.2.2.2.2 _ hlink) (fun _ h => h) hv hdg kk
theorem z_gR (F : zFx D cy p m c cc nL s args own) (hw : zWd D cy sh ad s M H locs) {k ci idx : Nat} (hT : zT sh k ci) {C : String} {TT : u_T} {ty : Nat → FieldType} {N : Nat} (hc : zCls ci C TT ty N) (j : Nat) (hj : j < N) (hft : zft ci j = 1) (hlink : Cond.fieldLink own idx (TT j).1 (TT j).2.1 (TT j).2.2.1 ∈ AW) (hdg : decode cc pc = .ok (.getfield idx, 3))
    (kk : W p l e R s m args below meth c H locs cells slots Q (F0 m (pc + 3) ls (.ref (ad (zR M k j)) :: rest))) : W p l e R s m args below meth c H locs cells slots Q (F0 m pc ls (.ref (ad k) :: rest)) := by
  have hv : (zfs ad M k ci)[j]? = some (.ref (ad (zR M k j))) := by rw [zfs_at (by rw [hc.2.2.2.1]; exact hj), hft]; rfl
  exact va_get (D := D) F.1.1 F.1.2.1 F.1.2.2.2.2 hc.2.2.1 F.1.2.2.2.1 F.2.1 hw.1 k (zW_obj hT hc.1) hc.2.1 j hj (F.1.2.2.2.2 _ hlink) (fun _ h => h) hv hdg kk
theorem z_gJ (F : zFx D cy p m c cc nL s args own) (hw : zWd D cy sh ad s M H locs) {k ci idx : Nat} (hT : zT sh k ci) {C : String} {TT : u_T} {ty : Nat → FieldType} {N : Nat} (hc : zCls ci C TT ty N) (j : Nat) (hj : j < N) (hft : zft ci j = 2) (hlink : Cond.fieldLink own idx (TT j).1 (TT j).2.1 (TT j).2.2.1 ∈ AW) (hdg : decode cc pc = .ok (.getfield idx, 3))
    (kk : W p l e R s m args below meth c H locs cells slots Q (F0 m (pc + 3) ls (.long (zJ M k j) :: rest))) : W p l e R s m args below meth c H locs cells slots Q (F0 m pc ls (.ref (ad k) :: rest)) := by
  have hv : (zfs ad M k ci)[j]? = some (.long (zJ M k j)) := by rw [zfs_at (by rw [hc.2.2.2.1]; exact hj), hft]; rfl
  exact va_get (D := D) F.1.1 F.1.2.1 F.1.2.2.2.2 hc.2.2.1 F.1.2.2.2.1 F.2.1 hw.1 k (zW_obj hT hc.1) hc.2.1 j hj (F.1.2.2.2.2 _ hlink) (fun _ h => h) hv hdg kk
theorem z_pI (F : zFx D cy p m c cc nL s args own) (hw : zWd D cy sh ad s M H locs) {k ci idx : Nat} (hT : zT sh k ci) {C : String} {TT : u_T} {ty : Nat → FieldType} {N : Nat} (hc : zCls ci C TT ty N) (j : Nat) (hj : j < N) (hft : zft ci j = 0) (hlink : Cond.fieldLink own idx (TT j).1 (TT j).2.1 (TT j).2.2.1 ∈ AW) (hfin : (TT j).2.2.2 = false) {v : Int32} (hn : narrow (ty j) (.int v) = .int v) (hfit : fits (ty j) (.int v) = true) (hdg : decode cc pc = .ok (.putfield idx, 3))
    (kk : ∀ (H1 : Heap) (locs1 : List Loc) (M1 : zMem), M1 = zpI M k j v → zWd D cy sh ad s M1 H1 locs1 → W p l e R s m args below meth c H1 locs1 cells slots Q (F0 m (pc + 3) ls rest)) : W p l e R s m args below meth c H locs cells slots Q (F0 m pc ls (.int v :: .ref (ad k) :: rest)) := by
  have hj2 : j < znf ci := by rw [hc.2.2.2.1]; exact hj
  refine va_put (D := D) F.1.1 F.1.2.1 F.1.2.2.2.2 hc.2.2.1 ty hc.2.2.2.2.1 hc.2.2.2.2.2 F.1.2.2.2.1 F.2.1 hw.1 hw.2.1 hw.2.2.1 k (zW_obj hT hc.1) hc.2.1 j hj (F.1.2.2.2.2 _ hlink) (fun _ h => h) hfin (hc.2.2.2.2.1 j hj) hn hfit (by simp [zfs, hj2]) hdg (fun H1 locs1 hP hD hS => kk H1 locs1 _ rfl ?_)
  rw [zW_pI hT hc.1 hj2 hft] at hP hD
  exact ⟨hP, hD, hS, hw.2.2.2⟩
theorem z_pJ (F : zFx D cy p m c cc nL s args own) (hw : zWd D cy sh ad s M H locs) {k ci idx : Nat} (hT : zT sh k ci) {C : String} {TT : u_T} {ty : Nat → FieldType} {N : Nat} (hc : zCls ci C TT ty N) (j : Nat) (hj : j < N) (hft : zft ci j = 2) (hlink : Cond.fieldLink own idx (TT j).1 (TT j).2.1 (TT j).2.2.1 ∈ AW) (hfin : (TT j).2.2.2 = false) {v : Int64} (hn : narrow (ty j) (.long v) = .long v) (hfit : fits (ty j) (.long v) = true) (hdg : decode cc pc = .ok (.putfield idx, 3))
    (kk : ∀ (H1 : Heap) (locs1 : List Loc) (M1 : zMem), M1 = zpJ M k j v → zWd D cy sh ad s M1 H1 locs1 → W p l e R s m args below meth c H1 locs1 cells slots Q (F0 m (pc + 3) ls rest)) : W p l e R s m args below meth c H locs cells slots Q (F0 m pc ls (.long v :: .ref (ad k) :: rest)) := by
  have hj2 : j < znf ci := by rw [hc.2.2.2.1]; exact hj
  refine va_put (D := D) F.1.1 F.1.2.1 F.1.2.2.2.2 hc.2.2.1 ty hc.2.2.2.2.1 hc.2.2.2.2.2 F.1.2.2.2.1 F.2.1 hw.1 hw.2.1 hw.2.2.1 k (zW_obj hT hc.1) hc.2.1 j hj (F.1.2.2.2.2 _ hlink) (fun _ h => h) hfin (hc.2.2.2.2.1 j hj) hn hfit (by simp [zfs, hj2]) hdg (fun H1 locs1 hP hD hS => kk H1 locs1 _ rfl ?_)
  rw [zW_pJ hT hc.1 hj2 hft] at hP hD
  exact ⟨hP, hD, hS, hw.2.2.2⟩
theorem z_pR (F : zFx D cy p m c cc nL s args own) (hw : zWd D cy sh ad s M H locs) {k ci idx : Nat} (hT : zT sh k ci) {C : String} {TT : u_T} {ty : Nat → FieldType} {N : Nat} (hc : zCls ci C TT ty N) (j : Nat) (hj : j < N) (hft : zft ci j = 1) (hlink : Cond.fieldLink own idx (TT j).1 (TT j).2.1 (TT j).2.2.1 ∈ AW) (hfin : (TT j).2.2.2 = false) {v : Nat} (hv : zT sh v (zrt ci j)) (hn : narrow (ty j) (.ref (ad v)) = .ref (ad v)) (hfit : fits (ty j) (.ref (ad v)) = true) (hdg : decode cc pc = .ok (.putfield idx, 3))
    (kk : ∀ (H1 : Heap) (locs1 : List Loc) (M1 : zMem), M1 = zpR M k j v → zWd D cy sh ad s M1 H1 locs1 → W p l e R s m args below meth c H1 locs1 cells slots Q (F0 m (pc + 3) ls rest)) : W p l e R s m args below meth c H locs cells slots Q (F0 m pc ls (.ref (ad v) :: .ref (ad k) :: rest)) := by
  have hj2 : j < znf ci := by rw [hc.2.2.2.1]; exact hj
  refine va_put (D := D) F.1.1 F.1.2.1 F.1.2.2.2.2 hc.2.2.1 ty hc.2.2.2.2.1 hc.2.2.2.2.2 F.1.2.2.2.1 F.2.1 hw.1 hw.2.1 hw.2.2.1 k (zW_obj hT hc.1) hc.2.1 j hj (F.1.2.2.2.2 _ hlink) (fun _ h => h) hfin (hc.2.2.2.2.1 j hj) hn hfit (by simp [zfs, hj2]) hdg (fun H1 locs1 hP hD hS => kk H1 locs1 _ rfl ?_)
  rw [zW_pR hT hc.1 hj2 hft] at hP hD
  exact ⟨hP, hD, hS, hw.2.2.2.pR hT hc.1 hv⟩
theorem z_iald (F : zFx D cy p m c cc nL s args own) (hw : zWd D cy sh ad s M H locs) {k : Nat} (hT : zT sh k 14) {i : Int32} (hi : zin i (zlen sh k) = true) (hdg : decode cc pc = .ok (.iaload, 1))
    (kk : W p l e R s m args below meth c H locs cells slots Q (F0 m (pc + 1) ls (.int (zI M k i.toNatClampNeg) :: rest))) : W p l e R s m args below meth c H locs cells slots Q (F0 m pc ls (.int i :: .ref (ad k) :: rest)) :=
  va_iald (D := D) F.1.1 F.1.2.1 F.2.1 hw.1 k 1 (zW_int hT (by decide)) rfl (zin_in hi) hdg kk
theorem z_bald (F : zFx D cy p m c cc nL s args own) (hw : zWd D cy sh ad s M H locs) {k : Nat} (hT : zT sh k 13) {i : Int32} (hi : zin i (zlen sh k) = true) (hdg : decode cc pc = .ok (.baload, 1))
    (kk : W p l e R s m args below meth c H locs cells slots Q (F0 m (pc + 1) ls (.int (zI M k i.toNatClampNeg) :: rest))) : W p l e R s m args below meth c H locs cells slots Q (F0 m pc ls (.int i :: .ref (ad k) :: rest)) :=
  va_bald (D := D) F.1.1 F.1.2.1 F.2.1 hw.1 k 0 (zW_int hT (by decide)) rfl (zin_in hi) hdg kk
theorem z_zald (F : zFx D cy p m c cc nL s args own) (hw : zWd D cy sh ad s M H locs) {k : Nat} (hT : zT sh k 16) {i : Int32} (hi : zin i (zlen sh k) = true) (hdg : decode cc pc = .ok (.baload, 1))
    (kk : W p l e R s m args below meth c H locs cells slots Q (F0 m (pc + 1) ls (.int (zI M k i.toNatClampNeg) :: rest))) : W p l e R s m args below meth c H locs cells slots Q (F0 m pc ls (.int i :: .ref (ad k) :: rest)) :=
  va_zald (D := D) F.1.1 F.1.2.1 F.2.1 hw.1 k 3 (zW_int hT (by decide)) rfl (zin_in hi) hdg kk
theorem z_lald (F : zFx D cy p m c cc nL s args own) (hw : zWd D cy sh ad s M H locs) {k : Nat} (hT : zT sh k 15) {i : Int32} (hi : zin i (zlen sh k) = true) (hdg : decode cc pc = .ok (.laload, 1))
    (kk : W p l e R s m args below meth c H locs cells slots Q (F0 m (pc + 1) ls (.long (zJ M k i.toNatClampNeg) :: rest))) : W p l e R s m args below meth c H locs cells slots Q (F0 m pc ls (.int i :: .ref (ad k) :: rest)) :=
  va_lald (D := D) F.1.1 F.1.2.1 F.2.1 hw.1 k 2 (zW_long hT) rfl (zin_in hi) hdg kk
theorem z_aald (F : zFx D cy p m c cc nL s args own) (hw : zWd D cy sh ad s M H locs) {k ca : Nat} {C : String} (hT : zT sh k ca) (hca : 17 ≤ ca) (t0 : Nat) (ht : (ztyl cy)[t0]? = some (cy ca, .object C)) {i : Int32} (hi : zin i (zlen sh k) = true) (hdg : decode cc pc = .ok (.aaload, 1))
    (kk : W p l e R s m args below meth c H locs cells slots Q (F0 m (pc + 1) ls (.ref (ad (zR M k i.toNatClampNeg)) :: rest))) : W p l e R s m args below meth c H locs cells slots Q (F0 m pc ls (.int i :: .ref (ad k) :: rest)) :=
  va_aldq (D := D) F.1.1 F.1.2.1 F.2.1 hw.1 k t0 (zW_ref hT hca) ht (zin_in hi) hdg kk
theorem z_iast (F : zFx D cy p m c cc nL s args own) (hw : zWd D cy sh ad s M H locs) {k : Nat} (hT : zT sh k 14) {i v : Int32} (hi : zin i (zlen sh k) = true) (hdg : decode cc pc = .ok (.iastore, 1))
    (kk : ∀ (H1 : Heap) (locs1 : List Loc) (M1 : zMem), M1 = zpI M k i.toNatClampNeg v → zWd D cy sh ad s M1 H1 locs1 → W p l e R s m args below meth c H1 locs1 cells slots Q (F0 m (pc + 1) ls rest)) : W p l e R s m args below meth c H locs cells slots Q (F0 m pc ls (.int v :: .int i :: .ref (ad k) :: rest)) := by
  refine va_iast (D := D) F.1.1 F.1.2.1 F.2.1 hw.1 hw.2.1 hw.2.2.1 k 1 (zW_int hT (by decide)) rfl (zin_in hi) hdg (fun H1 locs1 hP hD hS => kk H1 locs1 _ rfl ?_)
  rw [zW_pIa hT (by decide)] at hP hD
  exact ⟨hP, hD, hS, hw.2.2.2⟩
theorem z_bast (F : zFx D cy p m c cc nL s args own) (hw : zWd D cy sh ad s M H locs) {k : Nat} (hT : zT sh k 13) {i v : Int32} (hi : zin i (zlen sh k) = true) (hdg : decode cc pc = .ok (.bastore, 1))
    (kk : ∀ (H1 : Heap) (locs1 : List Loc) (M1 : zMem), M1 = zpI M k i.toNatClampNeg (vp_nar .byte v) → zWd D cy sh ad s M1 H1 locs1 → W p l e R s m args below meth c H1 locs1 cells slots Q (F0 m (pc + 1) ls rest)) : W p l e R s m args below meth c H locs cells slots Q (F0 m pc ls (.int v :: .int i :: .ref (ad k) :: rest)) := by
  refine va_bast (D := D) F.1.1 F.1.2.1 F.2.1 hw.1 hw.2.1 hw.2.2.1 k 0 (zW_int hT (by decide)) rfl (zin_in hi) hdg (fun H1 locs1 hP hD hS => kk H1 locs1 _ rfl ?_)
  rw [zW_pIa hT (by decide)] at hP hD
  exact ⟨hP, hD, hS, hw.2.2.2⟩
theorem z_zast (F : zFx D cy p m c cc nL s args own) (hw : zWd D cy sh ad s M H locs) {k : Nat} (hT : zT sh k 16) {i v : Int32} (hi : zin i (zlen sh k) = true) (hdg : decode cc pc = .ok (.bastore, 1))
    (kk : ∀ (H1 : Heap) (locs1 : List Loc) (M1 : zMem), M1 = zpI M k i.toNatClampNeg (vp_nar .boolean v) → zWd D cy sh ad s M1 H1 locs1 → W p l e R s m args below meth c H1 locs1 cells slots Q (F0 m (pc + 1) ls rest)) : W p l e R s m args below meth c H locs cells slots Q (F0 m pc ls (.int v :: .int i :: .ref (ad k) :: rest)) := by
  refine va_zast (D := D) F.1.1 F.1.2.1 F.2.1 hw.1 hw.2.1 hw.2.2.1 k 3 (zW_int hT (by decide)) rfl (zin_in hi) hdg (fun H1 locs1 hP hD hS => kk H1 locs1 _ rfl ?_)
  rw [zW_pIa hT (by decide)] at hP hD
  exact ⟨hP, hD, hS, hw.2.2.2⟩
theorem z_last (F : zFx D cy p m c cc nL s args own) (hw : zWd D cy sh ad s M H locs) {k : Nat} (hT : zT sh k 15) {i : Int32} {v : Int64} (hi : zin i (zlen sh k) = true) (hdg : decode cc pc = .ok (.lastore, 1))
    (kk : ∀ (H1 : Heap) (locs1 : List Loc) (M1 : zMem), M1 = zpJ M k i.toNatClampNeg v → zWd D cy sh ad s M1 H1 locs1 → W p l e R s m args below meth c H1 locs1 cells slots Q (F0 m (pc + 1) ls rest)) : W p l e R s m args below meth c H locs cells slots Q (F0 m pc ls (.long v :: .int i :: .ref (ad k) :: rest)) := by
  refine va_last (D := D) F.1.1 F.1.2.1 F.2.1 hw.1 hw.2.1 hw.2.2.1 k 2 (zW_long hT) rfl (zin_in hi) hdg (fun H1 locs1 hP hD hS => kk H1 locs1 _ rfl ?_)
  rw [zW_pJa hT] at hP hD
  exact ⟨hP, hD, hS, hw.2.2.2⟩
theorem z_alen (F : zFx D cy p m c cc nL s args own) (hw : zWd D cy sh ad s M H locs) {k ca : Nat} (hT : zT sh k ca) (hca : 13 ≤ ca) {t0 : Nat} {ty : FieldType} (ht : (ztyl cy)[t0]? = some (cy ca, ty)) (hdg : decode cc pc = .ok (.arraylength, 1))
    (kk : W p l e R s m args below meth c H locs cells slots Q (F0 m (pc + 1) ls (.int (Int32.ofNat (zlen sh k)) :: rest))) : W p l e R s m args below meth c H locs cells slots Q (F0 m pc ls (.ref (ad k) :: rest)) := by
  have hx : ∃ x : vp_A, (zW cy sh ad M)[k]? = some (ad k, .inl (cy ca, x)) ∧ x.1 = sh.2.2 k := by
    rw [zW_get hT.1]
    unfold zcel
    rw [hT.2, if_neg (by omega)]
    by_cases h15 : ca = 15
    · subst h15
      rw [if_pos rfl]
      exact ⟨_, rfl, rfl⟩
    · rw [if_neg h15]
      by_cases h17 : ca < 17
      · rw [if_pos h17]
        exact ⟨_, rfl, rfl⟩
      · rw [if_neg h17]
        exact ⟨_, rfl, rfl⟩
  obtain ⟨x, hx, hl⟩ := hx
  exact va_alen (D := D) F.1.1 F.1.2.1 F.2.1 hw.1 k t0 hx ht (by rw [hl]; rfl) hdg kk
theorem z_copy (F : zFx D cy p m c cc nL s args own) (hw : zWd D cy sh ad s M H locs) (hls : ls.size = nL) {a b idx : Nat} (hTa : zT sh a 14) (hTb : zT sh b 14) (hlink : Cond.methodLink own idx arraycopyName ∈ AW) (hnat : Cond.native arraycopyName ∈ AW) (hstat : Cond.static arraycopyName ∈ AW) (hini : Cond.initialized "java/lang/System" ∈ AW) {sp dp n : Int32} (hg : zcpok sp dp n (zlen sh a) (zlen sh b) = true)
    (hframes : 1 ≤ R.frames) (hlocals : (rest.map fun v => v.category).sum + (nativeFrameWords "java/lang/System" "arraycopy" 5 + 11) ≤ R.locals) (hdg : decode cc pc = .ok (.invokestatic idx, 3))
    (kk : ∀ (H1 : Heap) (locs1 : List Loc) (M1 : zMem), M1 = zpC M a sp.toNatClampNeg b dp.toNatClampNeg n.toNatClampNeg → zWd D cy sh ad s M1 H1 locs1 → W p l e R s m args below meth c H1 locs1 cells slots Q (F0 m (pc + 3) ls rest)) : W p l e R s m args below meth c H locs cells slots Q (F0 m pc ls (.int n :: .int dp :: .ref (ad b) :: .int sp :: .ref (ad a) :: rest)) := by
  obtain ⟨h1, h2, h3, h4, h5⟩ := zcpok_all hg
  refine va_copyi (D := D) F.1.1 F.1.2.1 (F.1.2.2.1.trans hls.symm) F.1.2.2.2.1 (F.1.2.2.2.2 _ hlink) (F.1.2.2.2.2 _ hnat) (F.1.2.2.2.2 _ hstat) (F.1.2.2.2.2 _ hini) F.2.1 hw.1 hw.2.1 hw.2.2.1 a b 1 1 (zW_int hTa (by decide)) (zW_int hTb (by decide)) rfl rfl rfl h1 h2 h3 h4 h5 (fun i _ => rfl) hframes hlocals hdg (fun H1 locs1 hP hD hS => kk H1 locs1 _ rfl ?_)
  rw [zW_pC hTb (by decide)] at hP hD
  exact ⟨hP, hD, hS, hw.2.2.2⟩
end ZROWS

theorem zc0 : zCls 0 RX0 TX0 tyX0 8 := ⟨by decide, rfl, aw_all (by decide +kernel) (by decide +kernel), rfl, tyX0_ok, nmX0⟩
theorem zc1 : zCls 1 RX1 TX1 tyX1 12 := ⟨by decide, rfl, aw_all (by decide +kernel) (by decide +kernel), rfl, tyX1_ok, nmX1⟩
theorem zc2 : zCls 2 RX2 TX2 tyX2 5 := ⟨by decide, rfl, aw_all (by decide +kernel) (by decide +kernel), rfl, tyX2_ok, nmX2⟩
theorem zc3 : zCls 3 RX3 TX3 tyX3 3 := ⟨by decide, rfl, aw_all (by decide +kernel) (by decide +kernel), rfl, tyX3_ok, nmX3⟩
theorem zc4 : zCls 4 RX4 TX4 tyX4 10 := ⟨by decide, rfl, aw_all (by decide +kernel) (by decide +kernel), rfl, tyX4_ok, nmX4⟩
theorem zc5 : zCls 5 RX5 TX5 tyX5 2 := ⟨by decide, rfl, aw_all (by decide +kernel) (by decide +kernel), rfl, tyX5_ok, nmX5⟩
theorem zc6 : zCls 6 RX6 TX6 tyX6 9 := ⟨by decide, rfl, aw_all (by decide +kernel) (by decide +kernel), rfl, tyX6_ok, nmX6⟩
theorem zc7 : zCls 7 RX7 TX7 tyX7 6 := ⟨by decide, rfl, aw_all (by decide +kernel) (by decide +kernel), rfl, tyX7_ok, nmX7⟩
theorem zc8 : zCls 8 RX8 TX8 tyX8 13 := ⟨by decide, rfl, aw_all (by decide +kernel) (by decide +kernel), rfl, tyX8_ok, nmX8⟩
theorem zc9 : zCls 9 RX9 TX9 tyX9 2 := ⟨by decide, rfl, aw_all (by decide +kernel) (by decide +kernel), rfl, tyX9_ok, nmX9⟩
theorem zc10 : zCls 10 RX10 TX10 tyX10 2 := ⟨by decide, rfl, aw_all (by decide +kernel) (by decide +kernel), rfl, tyX10_ok, nmX10⟩
theorem zc11 : zCls 11 RX11 TX11 tyX11 13 := ⟨by decide, rfl, aw_all (by decide +kernel) (by decide +kernel), rfl, tyX11_ok, nmX11⟩
theorem zc12 : zCls 12 RX12 TX12 tyX12 51 := ⟨by decide, rfl, aw_all (by decide +kernel) (by decide +kernel), rfl, tyX12_ok, nmX12⟩
