/-! Phase B: path -/
def smN (g : Nat → Nat) : Nat → Nat
  | 0 => 0
  | k + 1 => smN g k + g k
theorem smN_add (g : Nat → Nat) (a : Nat) : ∀ b, smN g (a + b) = smN g a + smN (fun k => g (a + k)) b := by
  intro b
  induction b with
  | zero => rfl
  | succ b ih =>
    show smN g (a + b) + g (a + b) = smN g a + (smN (fun k => g (a + k)) b + g (a + b))
    rw [ih]
    omega
theorem smN_cg {g h : Nat → Nat} : ∀ n, (∀ k, k < n → g k = h k) → smN g n = smN h n := by
  intro n
  induction n with
  | zero => intro _; rfl
  | succ n ih =>
    intro e
    show smN g n + g n = smN h n + h n
    rw [ih (fun k hk => e k (by omega)), e n (by omega)]
theorem smN_rev (g : Nat → Nat) : ∀ n, smN (fun k => g (n - 1 - k)) n = smN g n := by
  intro n
  induction n with
  | zero => rfl
  | succ n ih =>
    have h := smN_add (fun k => g (n + 1 - 1 - k)) 1 n
    rw [Nat.add_comm 1 n] at h
    rw [h]
    have e1 : smN (fun k => g (n + 1 - 1 - k)) 1 = g n := by
      show 0 + g (n + 1 - 1 - 0) = g n
      rw [Nat.zero_add]
      congr 1
    have e2 : smN (fun k => (fun k => g (n + 1 - 1 - k)) (1 + k)) n = smN g n := by
      rw [← ih]
      exact smN_cg n (fun k hk => by
        show g (n + 1 - 1 - (1 + k)) = g (n - 1 - k)
        congr 1
        omega)
    rw [e1, e2]
    show g n + smN g n = smN g n + g n
    omega
theorem smN_mid (w : Int → Nat) {q m E : Nat} (hE : 1 ≤ E) (hm : m < E) : ∀ j : Nat, m * j / E ≤ j ∧ smN (fun j => w (((q * E + m : Nat) : Int) * ((j : Int) + 1) / E - ((q * E + m : Nat) : Int) * (j : Int) / E)) j = (j - m * j / E) * w q + (m * j / E) * w (q + 1) := by
  intro j
  induction j with
  | zero =>
    rw [Nat.mul_zero, Nat.zero_div, Nat.zero_mul, Nat.zero_mul]
    exact ⟨Nat.le_refl _, rfl⟩
  | succ j ih =>
    have d1 : ∀ x : Nat, ((q * E + m : Nat) : Int) * (x : Int) / E = q * x + (m * x / E : Nat) := fun x => by
      rw [Int.natCast_ediv, Int.natCast_mul m x, show ((q * E + m : Nat) : Int) * (x : Int) = (m : Int) * x + ((q : Int) * x) * E by
        rw [Int.natCast_add, Int.natCast_mul, Int.add_mul, Int.mul_assoc, Int.mul_comm (E : Int) x, ← Int.mul_assoc]; omega, Int.add_mul_ediv_right _ _ (by omega)]
      omega
    have e1 : m * (j + 1) / E = m * j / E ∨ m * (j + 1) / E = m * j / E + 1 := by
      have a1 : m * j / E ≤ m * (j + 1) / E := Nat.div_le_div_right (by rw [Nat.mul_add]; omega)
      have a2 : m * (j + 1) / E ≤ m * j / E + 1 := by
        rw [← Nat.add_div_right _ (by omega : 0 < E)]
        exact Nat.div_le_div_right (by rw [Nat.mul_add]; omega)
      omega
    have e2 : (((q * E + m : Nat) : Int) * ((j : Int) + 1) / E - ((q * E + m : Nat) : Int) * (j : Int) / E) = q + (m * (j + 1) / E : Nat) - (m * j / E : Nat) := by
      have := d1 (j + 1)
      rw [show ((j + 1 : Nat) : Int) = (j : Int) + 1 by omega] at this
      rw [this, d1 j, Int.mul_add, Int.mul_one]
      omega
    show m * (j + 1) / E ≤ j + 1 ∧ smN _ j + w (((q * E + m : Nat) : Int) * ((j : Int) + 1) / E - ((q * E + m : Nat) : Int) * (j : Int) / E) = _
    rw [ih.2, e2]
    have ih1 := ih.1
    rcases e1 with e | e
    · rw [e, show (q : Int) + (m * j / E : Nat) - (m * j / E : Nat) = q by omega, show j + 1 - m * j / E = (j - m * j / E) + 1 by omega, Nat.add_mul]
      omega
    · rw [e, show (q : Int) + ((m * j / E + 1 : Nat) : Int) - (m * j / E : Nat) = q + 1 by omega, show j + 1 - (m * j / E + 1) = j - m * j / E by omega, Nat.add_mul (m * j / E)]
      omega
/-- the ticks in bands, in all -/
theorem fS_sum (w : Int → Nat) {L : List Int} {Q m E : Nat} {rest : Int} (hm : 1 ≤ E → m < E) (hr : 1 ≤ E → rest = ((Q * E + m : Nat) : Int)) : smN (fun k => w (fS L (E : Int) rest (k : Int))) (L.length + E + L.length) = 2 * smN (fun i => w (L.getD i 0)) L.length + ((E - m) * w Q + m * w (Q + 1)) * (if 1 ≤ E then 1 else 0) := by
  rw [smN_add, smN_add]
  have e1 : smN (fun k => w (fS L (E : Int) rest (k : Int))) L.length = smN (fun i => w (L.getD i 0)) L.length := smN_cg _ (fun k hk => by
    show w (fS L (E : Int) rest (k : Int)) = w (L.getD k 0)
    unfold fS
    rw [if_pos (by omega), Int.toNat_natCast])
  have e3 : smN (fun k => w (fS L (E : Int) rest ((L.length + E + k : Nat) : Int))) L.length = smN (fun i => w (L.getD i 0)) L.length := by
    rw [← smN_rev (fun i => w (L.getD i 0))]
    exact smN_cg _ (fun k hk => by
      show w (fS L (E : Int) rest ((L.length + E + k : Nat) : Int)) = w (L.getD (L.length - 1 - k) 0)
      unfold fS
      rw [if_neg (by omega), if_neg (by omega), show ((L.length : Int) - 1 - (((L.length + E + k : Nat) : Int) - L.length - E)).toNat = L.length - 1 - k by omega])
  have e2 : smN (fun k => w (fS L (E : Int) rest ((L.length + k : Nat) : Int))) E = ((E - m) * w Q + m * w (Q + 1)) * (if 1 ≤ E then 1 else 0) := by
    by_cases c : 1 ≤ E
    · rw [if_pos c, Nat.mul_one]
      have h := (smN_mid w (q := Q) c (hm c) E).2
      rw [Nat.mul_div_cancel _ (by omega : 0 < E)] at h
      rw [← h]
      exact smN_cg _ (fun k hk => by
        show w (fS L (E : Int) rest ((L.length + k : Nat) : Int)) = _
        unfold fS
        rw [if_neg (by omega), if_pos (by omega), show (((L.length + k : Nat) : Int) - L.length) = (k : Int) by omega, hr c])
    · have : E = 0 := by omega
      subst this
      rw [if_neg c, Nat.mul_zero]
      rfl
  rw [e1, e2, e3]
  omega
theorem btC_lp {M : zMem} {mb bb W ld : Nat} {L : List Int} {rest E : Int} {w : Int → Nat} {g : Int → Int32} (h : mvP M mb L W rest E) (hlen : zlen shC (mb + 4) = 61) (h3 : zI M mb 3 = nI ld) (hb : ∀ v, zX1_bandsOver shC bb (nI ld) (iI v) M = some (g v)) (hw : ∀ v, w v = if g v ≤ 0 then 0 else 1) : ∀ (r i F : Nat), i + r = L.length → r < F → zlX4_ticksInBands_4 shC mb bb M F (nI (2 * smN (fun i => w (L.getD i 0)) i)) (nI (i + 1)) = zlX4_ticksInBands_4 shC mb bb M (F - r) (nI (2 * smN (fun i => w (L.getD i 0)) L.length)) (nI (L.length + 1)) := by
  obtain ⟨hm, hr, h4, h8, h9, hL, hW, hWe, he⟩ := h
  have h60 := hL.1
  intro r
  induction r with
  | zero =>
    intro i F h1 hF
    obtain rfl : i = L.length := by omega
    rfl
  | succ r ih =>
    intro i F h1 hF
    obtain ⟨F, rfl⟩ : ∃ x, F = x + 1 := ⟨F - 1, by omega⟩
    have hi := ih (i + 1) F (by omega) (by omega)
    rw [show F + 1 - (r + 1) = F - r by omega, ← hi]
    rw [show zlX4_ticksInBands_4 shC mb bb M (F + 1) (nI (2 * smN (fun i => w (L.getD i 0)) i)) (nI (i + 1)) = zbX4_ticksInBands_4 shC mb bb M (zlX4_ticksInBands_4 shC mb bb M F) (nI (2 * smN (fun i => w (L.getD i 0)) i)) (nI (i + 1)) from rfl]
    unfold zbX4_ticksInBands_4 zjX4_ticksInBands_40
    rw [hm.2.2.1, hr.1, if_neg (nI_nlt (by omega) (by omega)), speedC hL hm.2.2.2 hlen hr (i := i + 1) (by omega), rob, if_neg (by omega), h3, hb, rob, nI_1]
    have hwi := hw (L.getD i 0)
    show _ = zlX4_ticksInBands_4 shC mb bb M F (nI (2 * (smN (fun i => w (L.getD i 0)) i + w (L.getD i 0)))) (nI (i + 1 + 1))
    rw [show i + 1 - 1 = i by omega]
    by_cases c : g (L.getD i 0) ≤ 0
    · rw [if_pos c] at hwi ⊢
      rw [hwi, show (0 : Int32) = nI 0 from rfl, nI_add, Nat.mul_add]
    · rw [if_neg c] at hwi ⊢
      rw [hwi, show (2 : Int32) = nI 2 from rfl, nI_add, Nat.mul_add]
theorem btC {M : zMem} {mb bb W ld Q m E : Nat} {L : List Int} {rest : Int} {w : Int → Nat} {g : Int → Int32} (h : mvP M mb L W rest (E : Int)) (hlen : zlen shC (mb + 4) = 61) (h3 : zI M mb 3 = nI ld) (hb : ∀ v, zX1_bandsOver shC bb (nI ld) (iI v) M = some (g v)) (hw : ∀ v, w v = if g v ≤ 0 then 0 else 1) (hm : 1 ≤ E → m < E) (hr : 1 ≤ E → rest = ((Q * E + m : Nat) : Int)) : zX4_ticksInBands shC mb bb M = some (nI (2 * smN (fun i => w (L.getD i 0)) L.length + ((E - m) * w Q + m * w (Q + 1)) * (if 1 ≤ E then 1 else 0))) := by
  have h' := h
  obtain ⟨hmm, hrp, h4, h8, h9, hL, hW, hWe, he⟩ := h'
  have h60 := hL.1
  have hps := psum_b hL L.length
  obtain ⟨y1, y2, y3⟩ := he
  have u := btC_lp h hlen h3 hb hw L.length 0 zF (by omega) (by unfold zF; omega)
  unfold zX4_ticksInBands
  rw [show (0 : Int32) = nI (2 * smN (fun i => w (L.getD i 0)) 0) from rfl, show (1 : Int32) = nI (0 + 1) from rfl, u]
  generalize smN (fun i => w (L.getD i 0)) L.length = c0
  obtain ⟨F, hF⟩ : ∃ x, zF - L.length = x + 1 := ⟨zF - L.length - 1, by unfold zF; omega⟩
  rw [hF, show zlX4_ticksInBands_4 shC mb bb M (F + 1) (nI (2 * c0)) (nI (L.length + 1)) = zbX4_ticksInBands_4 shC mb bb M (zlX4_ticksInBands_4 shC mb bb M F) (nI (2 * c0)) (nI (L.length + 1)) from rfl]
  unfold zbX4_ticksInBands_4
  rw [hmm.2.2.1, hrp.1, if_pos (nI_lt (by omega) (by omega)), h9, h8, h3]
  by_cases c : 1 ≤ E
  · have hm' := hm c
    have hr' := hr c
    have eq : rest / (E : Int) = Q := by
      rw [hr', Int.natCast_add, Int.natCast_mul, Int.add_comm, Int.add_mul_ediv_right _ _ (by omega), Int.ediv_eq_zero_of_lt (by omega) (by omega)]
      omega
    have em : rest - (Q : Int) * (E : Int) = m := by
      rw [hr', Int.natCast_add, Int.natCast_mul]
      omega
    have hwQ := hw Q
    have hwQ1 := hw (Q + 1)
    rw [if_pos (show (1 : Int32) ≤ iI (E : Int) by rw [show (1 : Int32) = iI 1 from rfl, iI_le (by omega) (by omega) (by omega) (by omega)]; omega), rgd (iI_nz (by omega) (by omega) (by omega)), iI_divp (by omega) (by omega) (by omega) (by omega), eq, rbd, iI_mul, iI_sub, em, rbd, hb, rob]
    unfold zjX4_ticksInBands_105 zjX4_ticksInBands_128
    rw [h3, show (1 : Int32) = iI 1 from rfl, iI_add, hb, rob, rob, if_pos c, Nat.mul_one]
    by_cases g1 : g Q ≤ 0
    · rw [if_pos g1] at hwQ
      rw [if_pos g1]
      by_cases g2 : g ((Q : Int) + 1) ≤ 0
      · rw [if_pos g2] at hwQ1
        rw [if_pos g2, hwQ, hwQ1, show (0 : Int32) = nI 0 from rfl, nI_add, nI_add]
        exact congrArg (fun z => some (nI z)) (by omega)
      · rw [if_neg g2] at hwQ1
        rw [if_neg g2, hwQ, hwQ1, show (0 : Int32) = nI 0 from rfl, nI_add, ← iI_n m, nI_add]
        exact congrArg (fun z => some (nI z)) (by omega)
    · rw [if_neg g1] at hwQ
      rw [if_neg g1, iI_sub, show (E : Int) - (m : Int) = ((E - m : Nat) : Int) by omega, ← iI_n (E - m)]
      by_cases g2 : g ((Q : Int) + 1) ≤ 0
      · rw [if_pos g2] at hwQ1
        rw [if_pos g2, hwQ, hwQ1, show (0 : Int32) = nI 0 from rfl, nI_add, nI_add]
        exact congrArg (fun z => some (nI z)) (by omega)
      · rw [if_neg g2] at hwQ1
        rw [if_neg g2, hwQ, hwQ1, nI_add, ← iI_n m, nI_add, Nat.mul_one, Nat.mul_one, Nat.add_assoc]
  · rw [if_neg (show ¬ (1 : Int32) ≤ iI (E : Int) by rw [show (1 : Int32) = iI 1 from rfl, iI_le (by omega) (by omega) (by omega) (by omega)]; omega), if_neg c, Nat.mul_zero]
    rfl
theorem btM {N : zMem} {L : List Int} {rest E : Int} {T ld : Nat} {w : Int → Nat} {g : Int → Int32} (hL : rmL L) (hR : zR N 0 35 = 14) (cL : rpM N L) (c43 : zI N 0 43 = iI rest) (c44 : zI N 0 44 = iI E) (he : evOK rest E) (hr : rest ≤ 60000) (hT : (T : Int) = 2 * L.length + E) (c38 : zI N 0 38 = nI ld) (hb : ∀ v, zX12_bandsAt shM 0 (nI ld) (iI v) N = some (g v)) (hw : ∀ v, w v = if g v ≤ 0 then 0 else 1) : ∀ (r k F : Nat), k + r = T → r < F → zlX12_bandTicks_4 shM 0 N F (nI (smN (fun k => w (fS L E rest (k : Int))) k)) (nI k) = some (nI (smN (fun k => w (fS L E rest (k : Int))) T)) := by
  have h60 := hL.1
  have he' := he
  obtain ⟨y1, y2, y3⟩ := he'
  intro r
  induction r with
  | zero =>
    intro k F h1 hF
    obtain ⟨F, rfl⟩ : ∃ x, F = x + 1 := ⟨F - 1, by omega⟩
    obtain rfl : k = T := by omega
    simp only [zlX12_bandTicks_4]
    unfold zbX12_bandTicks_4
    rw [planTicksM cL.1 c44, rob, ← hT, ← iI_n, if_pos (nI_le (by omega) (by omega))]
  | succ r ih =>
    intro k F h1 hF
    obtain ⟨F, rfl⟩ : ∃ x, F = x + 1 := ⟨F - 1, by omega⟩
    have hS := fS_b hL he (k := (k : Int)) (by omega) (by omega)
    have hi := ih (k + 1) F (by omega) (by omega)
    have hwk := hw (fS L E rest (k : Int))
    rw [show smN (fun k => w (fS L E rest (k : Int))) (k + 1) = smN (fun k => w (fS L E rest (k : Int))) k + w (fS L E rest (k : Int)) from rfl] at hi
    simp only [zlX12_bandTicks_4]
    unfold zbX12_bandTicks_4 zjX12_bandTicks_41 zjX12_bandTicks_42
    rw [planTicksM cL.1 c44, rob, ← hT, ← iI_n, if_neg (nI_ge (by omega) (by omega)), speedK hL hR cL c43 c44 he hr (by omega), rob, if_neg (show ¬ iI (fS L E rest (k : Int)) ≤ 0 by rw [show (0 : Int32) = iI 0 from rfl, iI_le (by omega) (by omega) (by omega) (by omega)]; omega), rob, c38, hb, rob, nI_1]
    by_cases c : g (fS L E rest (k : Int)) ≤ 0
    · rw [if_pos c] at hwk ⊢
      rw [hwk] at hi
      rw [truth_eq, rob, bI_f (fun h => h rfl), show (0 : Int32) = nI 0 from rfl, nI_add]
      exact hi
    · rw [if_neg c] at hwk ⊢
      rw [hwk] at hi
      rw [truth_eq, rob, bI_t (show (1 : Int32) ≠ 0 by decide), show (1 : Int32) = nI 1 from rfl, nI_add]
      exact hi
theorem B_path_ok : B_path Inv := by
  intro n M N v1 v2 v3 v4 hn hI
  obtain ⟨bb, sb, it, nA, nB, r, M1, N1, d, hB, t1, t2, hI1, hB1, hQ, t3, hS1⟩ := ask_inv hI v1 v2 v3
  have f5 : zR M1 0 5 = 174 := by simp only [hB1.2.1.o]
  have f11 : zR M1 0 11 = bb := by simp only [hB1.2.1.o]
  have e35 : zR N1 0 35 = 14 := by simp only [hB1.2.2.1.o]
  unfold zX11_path zX12_path
  rw [t1, rob2, t2, rob2]
  rcases t3 with ⟨rfl, ld, W, S, L, rest, E, a1, a2, a3, a4, a5, a6, a7, a8, c38, c39, c40, c43, c44, cL, c15⟩ | rfl
  · have a4' := a4
    obtain ⟨hm, hr, h4, h8, h9, hL, hW, hWe, he⟩ := a4'
    have he' := he
    obtain ⟨y1, y2, y3⟩ := he'
    have h60 := hL.1
    have hps := psum_b hL L.length
    have n10 : ¬ (1 : Int32) = 0 := by decide
    rw [if_neg n10, if_neg n10, f5, ticksC a4, planTicksM cL.1 c44, a5, h4, a6, c38, c39, c40, hm.2.2.1, reachC hL hm.2.2.2 rfl hr, reachM hL e35 cL, hr.1, cL.1, f11, rob, rob, rob, rob]
    have key : ∃ v, zX4_ticksInBands shC 174 bb M1 = some v ∧ zX12_bandTicks shM 0 N1 = some v := by
      obtain ⟨E', rfl⟩ : ∃ E' : Nat, E = (E' : Int) := ⟨E.toNat, by omega⟩
      obtain ⟨R, rfl⟩ : ∃ R : Nat, rest = (R : Int) := ⟨rest.toNat, by omega⟩
      have q1 : 1 ≤ E' → R % E' < E' := fun h => Nat.mod_lt _ (by omega)
      have q2 : 1 ≤ E' → (R : Int) = ((R / E' * E' + R % E' : Nat) : Int) := fun h => by
        rw [Nat.mul_comm, Nat.div_add_mod]
      have hbc : ∀ v, zX1_bandsOver shC bb (nI ld) (iI v) M1 = some (fBn N1 (nI ld) (iI v) nB) := fun v => bandsC hB1.1 hB1.2.1 hB1.2.2.2.1 _ _
      have hbm : ∀ v, zX12_bandsAt shM 0 (nI ld) (iI v) N1 = some (fBn N1 (nI ld) (iI v) nB) := fun v => bandsM hB1.2.2.1 hB1.2.2.2.1 _ _
      obtain ⟨w, hw⟩ : ∃ w : Int → Nat, ∀ v, w v = if fBn N1 (nI ld) (iI v) nB ≤ 0 then 0 else 1 := ⟨_, fun _ => rfl⟩
      refine ⟨_, btC (w := w) a4 rfl a5 hbc hw q1 q2, ?_⟩
      unfold zX12_bandTicks
      have u := btM (w := w) (T := L.length + E' + L.length) hL e35 cL c43 c44 he (by omega) (by omega) c38 hbm hw (L.length + E' + L.length) 0 zF (by omega) (by unfold zF; omega)
      rw [fS_sum w q1 q2] at u
      exact u
    obtain ⟨v, k1, k2⟩ := key
    rw [k1, k2, rob, rob]
    by_cases d0 : v4 = 0
    · rw [if_pos d0, if_pos d0]
      exact ⟨_, M1, N1, rfl, rfl, hI1⟩
    · rw [if_neg d0, if_neg d0]
      by_cases d1 : v4 = 1
      · rw [if_pos d1, if_pos d1]
        exact ⟨_, M1, N1, rfl, rfl, hI1⟩
      · rw [if_neg d1, if_neg d1]
        by_cases d2 : v4 = 2
        · rw [if_pos d2, if_pos d2]
          exact ⟨_, M1, N1, rfl, rfl, hI1⟩
        · rw [if_neg d2, if_neg d2]
          by_cases d3 : v4 = 3
          · rw [if_pos d3, if_pos d3]
            exact ⟨_, M1, N1, rfl, rfl, hI1⟩
          · rw [if_neg d3, if_neg d3]
            by_cases d4 : v4 = 4
            · rw [if_pos d4, if_pos d4]
              exact ⟨_, M1, N1, rfl, rfl, hI1⟩
            · rw [if_neg d4, if_neg d4]
              by_cases d5 : v4 = 5
              · rw [if_pos d5, if_pos d5]
                exact ⟨_, M1, N1, rfl, rfl, hI1⟩
              · rw [if_neg d5, if_neg d5]
                by_cases d6 : v4 = 6
                · rw [if_pos d6, if_pos d6]
                  exact ⟨_, M1, N1, rfl, rfl, hI1⟩
                · rw [if_neg d6, if_neg d6]
                  exact ⟨_, M1, N1, rfl, rfl, hI1⟩
  · exact ⟨_, M1, N1, if_pos rfl, if_pos rfl, hI1⟩
