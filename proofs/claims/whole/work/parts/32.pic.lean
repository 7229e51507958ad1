/-! the picture as both hold it -/
def kd (k : Nat) : Nat := if k = 0 then 3 else if k = 1 then 0 else if k = 2 then 2 else if k = 5 then 1 else 4
def pcB (B : Nat → Bool) : Nat := fb_ct B 64
def rcB (B : Nat → Bool) : Nat → Nat
  | 0 => 0
  | p + 1 => if B p then (if rcB B p < rmx p then rmx p else rcB B p) else rcB B p
def PicOK (n : Nat) (K C T H : Nat → Nat) : Prop := n ≤ 10 ∧ ∀ s, s < n → okK (K s) ∧ 1 ≤ C s ∧ C s ≤ 9 ∧ T s ≤ 8 ∧ H s < 2 ^ n ∧ (H s).testBit s = false
def CV (n0 : Int32) (hem : Nat → Int32) (sh : Nat → Option Nat) (Z : ZT) (n : Nat) (K C T H : Nat → Nat) (B : Nat → Nat → Bool) : Prop := n0 = nI n ∧ ∀ s, s < n → ∃ q, sh s = some q ∧ (Z q).1 = K s ∧ (Z q).2.1 = nI (C s) ∧ (K s = 7 → (Z q).2.2.2 = nI (T s)) ∧ (∀ p, p < 64 → bL (Z q).2.2.1 p = B s p) ∧ hem s = nI (H s)
def MV (m0 : Int32) (m1 m2 m7 m8 m9 m10 m11 : Nat → Int32) (n : Nat) (K C T H : Nat → Nat) (B : Nat → Nat → Bool) : Prop := m0 = nI n ∧ ∀ s, s < n → m1 s = nI (kd (K s)) ∧ m2 s = nI (C s) ∧ (K s = 7 → m7 s = nI (T s)) ∧ (∀ c, c < 256 → m8 (256 * s + c) = b2 (B s (plc c))) ∧ m9 s = nI (4 * pcB (B s)) ∧ m10 s = nI (rcB (B s) 64) ∧ m11 s = nI (H s)
abbrev CVs (σ : Nat → Nat → Int32) (sh : Nat → Option Nat) (Z : ZT) (n : Nat) (K C T H : Nat → Nat) (B : Nat → Nat → Bool) : Prop := CV (σ 33 0) (σ 3) sh Z n K C T H B
abbrev MVs (v : Nat → Nat → Int32) (n : Nat) (K C T H : Nat → Nat) (B : Nat → Nat → Bool) : Prop := MV (v 0 0) (v 1) (v 2) (v 7) (v 8) (v 9) (v 10) (v 11) n K C T H B
/-- the colour of a SHAPE in a quarter -/
def cq (K C T : Nat → Nat) (s q : Nat) : Nat := if K s = 7 then (C s - 1 + q * T s) % 9 + 1 else C s
def lookN (K C T : Nat → Nat) (B : Nat → Nat → Bool) (p q : Nat) : Nat → Nat
  | 0 => 0
  | n + 1 => if B n p then cq K C T n q else lookN K C T B p q n
def layN (B : Nat → Nat → Bool) (p : Nat) : Nat → Nat
  | 0 => 0
  | n + 1 => if B n p then layN B p n ||| 2 ^ n else layN B p n
def stpN (K T : Nat → Nat) (B : Nat → Nat → Bool) (p : Nat) : Nat → Nat
  | 0 => 0
  | n + 1 => if K n = 7 ∧ B n p = true then T n else stpN K T B p n
theorem lookN_le {K C T H : Nat → Nat} {B : Nat → Nat → Bool} {n : Nat} (hp : PicOK n K C T H) (p q : Nat) : ∀ m, m ≤ n → lookN K C T B p q m ≤ 9 := by
  intro m
  induction m with
  | zero => intro _; exact Nat.zero_le _
  | succ m ih =>
    intro hm
    have h := hp.2 m (by omega)
    unfold lookN cq
    split
    · split
      · omega
      · exact h.2.2.1
    · exact ih (by omega)
theorem layN_lt (B : Nat → Nat → Bool) (p : Nat) : ∀ n, layN B p n < 2 ^ n := by
  intro n
  induction n with
  | zero => exact Nat.one_pos
  | succ n ih =>
    unfold layN
    have h : 2 ^ n < 2 ^ (n + 1) := Nat.pow_lt_pow_right (by omega) (by omega)
    split
    · exact Nat.or_lt_two_pow (by omega) h
    · omega
theorem layN_tb (B : Nat → Nat → Bool) (p : Nat) : ∀ n i, (layN B p n).testBit i = (decide (i < n) && B i p) := by
  intro n
  induction n with
  | zero => intro i; simp [layN]
  | succ n ih =>
    intro i
    unfold layN
    by_cases hB : B n p = true
    · rw [if_pos hB, fb_bit_set, ih]
      by_cases e : i = n
      · subst e; simp [hB]
      · have : decide (i < n) = decide (i < n + 1) := by apply decide_eq_decide.mpr; omega
        simp [e, this]
    · rw [if_neg hB, ih]
      by_cases e : i = n
      · subst e; simp [hB]
      · have : decide (i < n) = decide (i < n + 1) := by apply decide_eq_decide.mpr; omega
        simp [this]
/-! the reference's reading -/
section RREAD
variable {v : Nat → Nat → Int32} {n : Nat} {K C T H : Nat → Nat} {B : Nat → Nat → Bool} {F : Nat}
theorem r_has (hm : MVs v n K C T H B) {s c : Nat} (hs : s < n) (hc : c < 256) : v 8 (256 * s + c) = b2 (B s (plc c)) := (hm.2 s hs).2.2.2.1 c hc
theorem r_ix {s c : Nat} : ((256 : Int32) * nI s) + nI c = nI (256 * s + c) := by
  rw [show (256 : Int32) = nI 256 from rfl, pk_mul, nI_add]
theorem r_col9 (kx : Int32 → Option Int32) : ∀ k r n, 1 ≤ r → r ≤ 9 → k < 1000 → k < n → fX12_colourAt_L38 F v kx n (nI (r + 9 * k)) = kx (nI r) := by
  intro k
  induction k with
  | zero =>
    intro r n h1 h9 _ hn
    obtain ⟨m, rfl⟩ : ∃ m, n = m + 1 := ⟨n - 1, by omega⟩
    rw [fX12_colourAt_L38, nb_s, Nat.mul_zero, Nat.add_zero, if_pos (show nI r ≤ (9 : Int32) from nI_le (b := 9) h9 (by omega))]
  | succ k ih =>
    intro r n h1 h9 hk hn
    obtain ⟨m, rfl⟩ : ∃ m, n = m + 1 := ⟨n - 1, by omega⟩
    rw [fX12_colourAt_L38, nb_s, if_neg (show ¬ nI (r + 9 * (k + 1)) ≤ (9 : Int32) from nI_ge (a := 9) (by omega) (by omega))]
    have e : nI (r + 9 * (k + 1)) + ((-9) : Int32) = nI (r + 9 * k) := by
      rw [show r + 9 * (k + 1) = (r + 9 * k) + 9 by omega, ← nI_add, show ((-9) : Int32) = - nI 9 by decide, Int32.add_assoc, show nI 9 + - nI 9 = 0 by decide, Int32.add_zero]
    rw [e]
    exact ih r m h1 h9 (by omega) (by omega)
theorem kd4 {k : Nat} (h : okK k) : kd k = 4 ↔ k = 7 := by
  rcases h with h | h | h | h | h <;> subst h <;> decide
theorem kd_lt (k : Nat) : kd k < 5 := by
  unfold kd
  repeat' split
  all_goals omega
theorem r_colour (hp : PicOK n K C T H) (hm : MVs v n K C T H B) (hF : 40 ≤ F) {s c : Nat} (hs : s < n) (hc : c < 256) : fX12_colourAt F v (nI s) (nI c) = some (nI (cq K C T s (qrt c))) := by
  obtain ⟨h1, h2, h7, -⟩ := hm.2 s hs
  obtain ⟨hk, hc1, hc9, ht, -⟩ := hp.2 s hs
  have hn := hp.1
  have hl := kd_lt (K s)
  unfold fX12_colourAt cq
  rw [aI_n (by omega) (by decide), aI_n (by omega) (by decide), h1, h2]
  have e4 : (nI (kd (K s)) = (4 : Int32)) ↔ K s = 7 := (nI_eq (a := kd (K s)) (b := 4) (by omega) (by decide)).trans (kd4 hk)
  by_cases h : K s = 7
  · rw [if_neg (fun q => q (e4.mpr h)), if_pos h, r_quarter c hc, bd_s, aI_n (by omega) (by decide), h7 h, pk_mul, nI_add]
    have hq := (cel_c c hc).2.1
    have hqt : qrt c * T s ≤ 3 * 8 := Nat.mul_le_mul (by omega) ht
    have e : C s + qrt c * T s = ((C s - 1 + qrt c * T s) % 9 + 1) + 9 * ((C s - 1 + qrt c * T s) / 9) := by omega
    rw [e, r_col9 _ _ _ _ (by omega) (by omega) (by omega) (by omega)]
  · rw [if_pos (fun q => h (e4.mp q)), if_neg h]
theorem r_look (hp : PicOK n K C T H) (hm : MVs v n K C T H B) (hF : 40 ≤ F) {c : Nat} (hc : c < 256) : fX12_lookOf F v (nI c) = some (nI (lookN K C T B (plc c) (qrt c) n)) := by
  have hn := hp.1
  refine lp_up (fun m (s : Int32 × Int32) => fX12_lookOf_L4 F v (nI c) (fun y1 => some y1) m s.1 s.2) (fun i => (nI (lookN K C T B (plc c) (qrt c) i), nI i)) _ n (fun m i hi => ?_) (fun m => ?_) F 0 (Nat.zero_le _) (by omega)
  · show fX12_lookOf_L4 F v (nI c) (fun y1 => some y1) (m + 1) (nI (lookN K C T B (plc c) (qrt c) i)) (nI i) = fX12_lookOf_L4 F v (nI c) (fun y1 => some y1) m (nI (lookN K C T B (plc c) (qrt c) (i + 1))) (nI (i + 1))
    rw [fX12_lookOf_L4, nb_s, hm.1, if_neg (nI_ge hi (by omega)), r_ix, aI_n (by omega) (by decide), r_has hm hi hc]
    by_cases hB : B i (plc c) = true
    · rw [if_neg (b2_n.mpr hB), r_colour hp hm hF hi hc, bd_s, lookN, if_pos hB, nI_succ]; rfl
    · rw [if_pos (b2_0.mpr (ts_nt hB)), lookN, if_neg hB, nI_succ]; rfl
  · show fX12_lookOf_L4 F v (nI c) (fun y1 => some y1) (m + 1) (nI (lookN K C T B (plc c) (qrt c) n)) (nI n) = _
    rw [fX12_lookOf_L4, nb_s, hm.1, if_pos (nI_le (Nat.le_refl n) (by omega))]
theorem r_layers (hp : PicOK n K C T H) (hm : MVs v n K C T H B) (hF : 40 ≤ F) {c : Nat} (hc : c < 256) : fX12_layersOf F v (nI c) = some (nI (layN B (plc c) n)) := by
  have hn := hp.1
  refine lp_up (fun m (s : Int32 × Int32) => fX12_layersOf_L4 F v (nI c) (fun y1 => some y1) m s.1 s.2) (fun i => (nI (layN B (plc c) i), nI i)) _ n (fun m i hi => ?_) (fun m => ?_) F 0 (Nat.zero_le _) (by omega)
  · show fX12_layersOf_L4 F v (nI c) (fun y1 => some y1) (m + 1) (nI (layN B (plc c) i)) (nI i) = fX12_layersOf_L4 F v (nI c) (fun y1 => some y1) m (nI (layN B (plc c) (i + 1))) (nI (i + 1))
    rw [fX12_layersOf_L4, nb_s, hm.1, if_neg (nI_ge hi (by omega)), r_ix, aI_n (by omega) (by decide), r_has hm hi hc]
    by_cases hB : B i (plc c) = true
    · rw [if_neg (b2_n.mpr hB), layN, if_pos hB, nI_succ, sh1 (by omega)]
      unfold fX12_layersOf_J35
      rw [fa_or]
    · rw [if_pos (b2_0.mpr (ts_nt hB)), layN, if_neg hB, nI_succ]
      unfold fX12_layersOf_J35
      rw [show (0 : Int32) = nI 0 from rfl, fa_or, Nat.or_zero]
  · show fX12_layersOf_L4 F v (nI c) (fun y1 => some y1) (m + 1) (nI (layN B (plc c) n)) (nI n) = _
    rw [fX12_layersOf_L4, nb_s, hm.1, if_pos (nI_le (Nat.le_refl n) (by omega))]
theorem r_step (hp : PicOK n K C T H) (hm : MVs v n K C T H B) (hF : 40 ≤ F) {c : Nat} (hc : c < 256) : fX12_stepAt F v (nI c) = some (nI (stpN K T B (plc c) n)) := by
  have hn := hp.1
  refine lp_up (fun m (s : Int32 × Int32) => fX12_stepAt_L4 F v (nI c) (fun y1 => some y1) m s.1 s.2) (fun i => (nI (stpN K T B (plc c) i), nI i)) _ n (fun m i hi => ?_) (fun m => ?_) F 0 (Nat.zero_le _) (by omega)
  · show fX12_stepAt_L4 F v (nI c) (fun y1 => some y1) (m + 1) (nI (stpN K T B (plc c) i)) (nI i) = fX12_stepAt_L4 F v (nI c) (fun y1 => some y1) m (nI (stpN K T B (plc c) (i + 1))) (nI (i + 1))
    obtain ⟨h1, h2, h7, -⟩ := hm.2 i hi
    obtain ⟨hk, -⟩ := hp.2 i hi
    have hl := kd_lt (K i)
    have e4 : (nI (kd (K i)) = (4 : Int32)) ↔ K i = 7 := (nI_eq (a := kd (K i)) (b := 4) (by omega) (by decide)).trans (kd4 hk)
    rw [fX12_stepAt_L4, nb_s, hm.1, if_neg (nI_ge hi (by omega)), aI_n (by omega) (by decide), h1]
    by_cases h : K i = 7
    · rw [if_neg (fun q => q (e4.mpr h)), r_ix, aI_n (by omega) (by decide), r_has hm hi hc]
      by_cases hB : B i (plc c) = true
      · rw [if_neg (b2_n.mpr hB), aI_n (by omega) (by decide), h7 h, stpN, if_pos ⟨h, hB⟩, nI_succ]; rfl
      · rw [if_pos (b2_0.mpr (ts_nt hB)), stpN, if_neg (fun q => hB q.2), nI_succ]; rfl
    · rw [if_pos (fun q => h (e4.mp q)), stpN, if_neg (fun q => h q.1), nI_succ]; rfl
  · show fX12_stepAt_L4 F v (nI c) (fun y1 => some y1) (m + 1) (nI (stpN K T B (plc c) n)) (nI n) = _
    rw [fX12_stepAt_L4, nb_s, hm.1, if_pos (nI_le (Nat.le_refl n) (by omega))]
end RREAD
/-! the class's reading -/
section CREAD
variable {σ : Nat → Nat → Int32} {sh : Nat → Option Nat} {Z : ZT} {n : Nat} {K C T H : Nat → Nat} {B : Nat → Nat → Bool} {F : Nat}
theorem c_isAt {q p : Nat} {b : Bool} (hp : p < 64) (h : bL (Z q).2.2.1 p = b) : fX6_isAt sh Z q σ (nI p) = some (b2 b) := by
  unfold fX6_isAt
  have e := ts_bit (w := (Z q).2.2.1) (s := (nI p).toInt64.toUInt64 &&& Int64.toUInt64 63) hp (by rw [wb_cu p hp]; exact u_tn (by omega))
  have e2 : (lg_cmp (((((Z q).2.2.1).toUInt64 >>> ((nI p).toInt64.toUInt64 &&& Int64.toUInt64 63)).toInt64) &&& (1 : Int64)) (0 : Int64) = 0) ↔ b = false := by
    rw [lg_eq0, e, ← h]; rfl
  cases b with
  | false => rw [if_pos (e2.mpr rfl)]; rfl
  | true => rw [if_neg (fun q => by cases e2.mp q)]; rfl
theorem fmq9 : ∀ c, c < 10 → ∀ t, t < 9 → ∀ q, q < 4 → fX11_shifted (nI c) (nI q * nI t) = some (nI (if c = 0 then 0 else (c - 1 + q * t) % 9 + 1)) := by decide +kernel
theorem c_colIn (hp : PicOK n K C T H) (hc : CVs σ sh Z n K C T H B) {s q k : Nat} (hs : s < n) (hk : k < 4) (hq : sh s = some q) : fV_colourIn sh Z q σ (nI k) = some (nI (cq K C T s k)) := by
  obtain ⟨q2, h0, h1, h2, h7, -⟩ := hc.2 s hs
  rw [hq] at h0
  cases h0
  obtain ⟨-, hc1, hc9, ht, -⟩ := hp.2 s hs
  unfold fV_colourIn cq
  by_cases h : K s = 7
  · rw [if_pos (h1.trans h), if_pos h]
    unfold fX8_colourIn
    rw [h2, h7 h, fmq9 _ (by omega) _ (by omega) k hk, bd_s, if_neg (by omega)]
  · rw [if_neg (fun z => h (h1.symm.trans z)), if_neg h]
    unfold fX6_colourIn
    rw [h2]
theorem c_look (hp : PicOK n K C T H) (hc : CVs σ sh Z n K C T H B) (hF : 40 ≤ F) {p k : Nat} (hpp : p < 64) (hk : k < 4) : fX4_look F sh Z σ (nI p) (nI k) = some (nI (lookN K C T B p k n)) := by
  have hn := hp.1
  unfold fX4_look
  rw [hc.1]
  have key : ∀ m i, i ≤ n → i < m → fX4_look_L7 F sh Z σ (nI p) (nI k) (some 0) m (nI i - 1) = some (nI (lookN K C T B p k i)) := by
    intro m
    induction m with
    | zero => intro i _ h; omega
    | succ m ih =>
      intro i hi hm
      cases i with
      | zero => rw [fX4_look_L7, nb_s, if_pos (by decide)]; rfl
      | succ i =>
        obtain ⟨q, h0, h1, h2, h7, hB, -⟩ := hc.2 i (by omega)
        rw [fX4_look_L7, nb_s, nI_pred, if_neg (nI_pos (by omega)), aO_n (by omega) (by decide) h0, c_isAt hpp (hB p hpp), bd_s, lookN]
        by_cases hb : B i p = true
        · rw [if_neg (b2_n.mpr hb), if_pos hb, aO_n (by omega) (by decide) h0, c_colIn hp hc (by omega) hk h0, bd_s]
        · rw [if_pos (b2_0.mpr (ts_nt hb)), if_neg hb]
          have e : nI i + ((-1) : Int32) = nI i - 1 := by rw [Int32.sub_eq_add_neg]
          rw [e]
          exact ih i (by omega) (by omega)
  exact key F n (Nat.le_refl _) (by omega)
theorem c_step (hp : PicOK n K C T H) (hc : CVs σ sh Z n K C T H B) (hF : 40 ≤ F) {p : Nat} (hpp : p < 64) : fX4_stepOfPlace F sh Z σ (nI p) = some (nI (stpN K T B p n)) := by
  have hn := hp.1
  unfold fX4_stepOfPlace
  rw [hc.1]
  have key : ∀ m i, i ≤ n → i < m → fX4_stepOfPlace_L7 F sh Z σ (nI p) (some 0) m (nI i - 1) = some (nI (stpN K T B p i)) := by
    intro m
    induction m with
    | zero => intro i _ h; omega
    | succ m ih =>
      intro i hi hm
      cases i with
      | zero => rw [fX4_stepOfPlace_L7, nb_s, if_pos (by decide)]; rfl
      | succ i =>
        obtain ⟨q, h0, h1, h2, h7, hB, -⟩ := hc.2 i (by omega)
        have e : nI i + ((-1) : Int32) = nI i - 1 := by rw [Int32.sub_eq_add_neg]
        rw [fX4_stepOfPlace_L7, nb_s, nI_pred, if_neg (nI_pos (by omega)), aO_n (by omega) (by decide) h0, stpN]
        by_cases h : K i = 7
        · rw [if_pos (h1.trans h), c_isAt hpp (hB p hpp), bd_s]
          by_cases hb : B i p = true
          · rw [if_neg (b2_n.mpr hb), if_pos ⟨h, hb⟩, h7 h]
          · rw [if_pos (b2_0.mpr (ts_nt hb)), if_neg (fun z => hb z.2)]
            unfold fX4_stepOfPlace_J46
            rw [e]
            exact ih i (by omega) (by omega)
        · rw [if_neg (fun z => h (h1.symm.trans z)), if_neg (fun z => h z.1)]
          unfold fX4_stepOfPlace_J46
          rw [e]
          exact ih i (by omega) (by omega)
  exact key F n (Nat.le_refl _) (by omega)
theorem c_layers (hp : PicOK n K C T H) (hc : CVs σ sh Z n K C T H B) (hF : 40 ≤ F) {p : Nat} (hpp : p < 64) : fX4_layers F sh Z σ (nI p) = some (nI (layN B p n)) := by
  have hn := hp.1
  refine lp_up (fun m (s : Int32 × Int32) => fX4_layers_L4 F sh Z σ (nI p) (fun y1 => some y1) m s.1 s.2) (fun i => (nI (layN B p i), nI i)) _ n (fun m i hi => ?_) (fun m => ?_) F 0 (Nat.zero_le _) (by omega)
  · show fX4_layers_L4 F sh Z σ (nI p) (fun y1 => some y1) (m + 1) (nI (layN B p i)) (nI i) = fX4_layers_L4 F sh Z σ (nI p) (fun y1 => some y1) m (nI (layN B p (i + 1))) (nI (i + 1))
    obtain ⟨q, h0, h1, h2, h7, hB, -⟩ := hc.2 i hi
    rw [fX4_layers_L4, nb_s, hc.1, if_neg (nI_ge hi (by omega)), aO_n (by omega) (by decide) h0, c_isAt hpp (hB p hpp), bd_s, layN]
    by_cases hb : B i p = true
    · rw [if_neg (b2_n.mpr hb), if_pos hb, nI_succ, sh1 (by omega), fa_or]; rfl
    · rw [if_pos (b2_0.mpr (ts_nt hb)), if_neg hb, nI_succ]; rfl
  · show fX4_layers_L4 F sh Z σ (nI p) (fun y1 => some y1) (m + 1) (nI (layN B p n)) (nI n) = _
    rw [fX4_layers_L4, nb_s, hc.1, if_pos (nI_le (Nat.le_refl n) (by omega))]
end CREAD
