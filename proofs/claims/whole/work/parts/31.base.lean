/-! rows of states, small numbers, cells and places -/
theorem lp_up {S R : Type} (L : Nat → S → Option R) (st : Nat → S) (r : Option R) (N : Nat) (hs : ∀ n i, i < N → L (n + 1) (st i) = L n (st (i + 1))) (he : ∀ n, L (n + 1) (st N) = r) : ∀ n i, i ≤ N → N - i < n → L n (st i) = r := by
  intro n
  induction n with
  | zero => intro i hi hn; omega
  | succ n ih =>
    intro i hi hn
    rcases Nat.lt_or_ge i N with h | h
    · rw [hs n i h]; exact ih (i + 1) h (by omega)
    · have e : i = N := by omega
      subst e; exact he n
theorem lp_down {S R : Type} (L : Nat → S → Option R) (st : Nat → S) (r : Nat → Option R) (he : ∀ n, L (n + 1) (st 0) = r 0) (hs : ∀ n i, L (n + 1) (st (i + 1)) = r (i + 1) ∨ (L (n + 1) (st (i + 1)) = L n (st i) ∧ r (i + 1) = r i)) : ∀ n N, N < n → L n (st N) = r N := by
  intro n
  induction n with
  | zero => intro i hn; omega
  | succ n ih =>
    intro i hn
    cases i with
    | zero => exact he n
    | succ i =>
      rcases hs n i with h | ⟨h, h2⟩
      · exact h
      · rw [h, h2]; exact ih i (by omega)
def b2 (b : Bool) : Int32 := if b then 1 else 0
theorem b2_0 {b : Bool} : b2 b = 0 ↔ b = false := by cases b <;> decide
theorem b2_n {b : Bool} : ¬ b2 b = 0 ↔ b = true := by cases b <;> decide
theorem b2_1 {b : Bool} : b2 b = 1 ↔ b = true := by cases b <;> decide
def bL (x : Int64) (p : Nat) : Bool := x.toBitVec.getLsbD p
theorem aI_n {α : Type} {f : Nat → Int32} {n i : Nat} {k : Int32 → Option α} (h : i < n) (hn : n < 2 ^ 31) : aI f n (nI i) k = k (f i) := by
  unfold aI; rw [if_neg (nI_in h hn), nI_clamp (by omega)]
theorem aS_n {α : Type} {n i : Nat} {k : Option α} (h : i < n) (hn : n < 2 ^ 31) : aS n (nI i) k = k := by
  unfold aS; rw [if_neg (nI_in h hn)]
theorem aO_n {α : Type} {f : Nat → Option Nat} {n i q : Nat} {k : Nat → Option α} (h : i < n) (hn : n < 2 ^ 31) (hq : f i = some q) : aO f n (nI i) k = k q := by
  unfold aO; rw [if_neg (nI_in h hn), nI_clamp (by omega), hq]
theorem aOo_n {α : Type} {f : Nat → Option Nat} {n i : Nat} {k : Option Nat → Option α} (h : i < n) (hn : n < 2 ^ 31) : aOo f n (nI i) k = k (f i) := by
  unfold aOo; rw [if_neg (nI_in h hn), nI_clamp (by omega)]
theorem bd_s {α β : Type} {v : α} {k : α → Option β} : bd (some v) k = k v := rfl
theorem nm_s {α β : Type} {x : α} {k : α → Option β} : nm x k = k x := rfl
theorem nb_s {α β : Type} {x : α} {k : α → Option β} : nb x k = k x := rfl
theorem sh1 {k : Nat} (h : k < 31) : (1 : Int32) <<< (nI k &&& 31) = nI (2 ^ k) := by
  have e := pk_shlN (n := 1) (nI k &&& 31) k (s_l k (by omega)) (by rw [Nat.one_mul]; exact Nat.pow_lt_pow_right (by omega) (by omega))
  rw [Nat.one_mul] at e
  exact e
theorem pw31 {k : Nat} (h : k < 31) : 2 ^ k < 2 ^ 31 := Nat.pow_lt_pow_right (by omega) h
theorem shr_b {h k : Nat} (hh : h < 2 ^ 31) (hk : k < 31) : (nI h >>> (nI k &&& 31)) &&& (1 : Int32) = b2 (h.testBit k) := by
  rw [pk_shrN hh (nI k &&& 31) k (s_l k (by omega))]
  have e : nI (h / 2 ^ k) &&& (1 : Int32) = nI (h / 2 ^ k % 2) := pk_andN (k := 1) (by have := Nat.div_le_self h (2 ^ k); omega) rfl
  rw [e, Nat.testBit_eq_decide_div_mod_eq]
  rcases Nat.mod_two_eq_zero_or_one (h / 2 ^ k) with q | q <;> rw [q] <;> rfl
def clr (h k : Nat) : Nat := h &&& (2 ^ k ^^^ 4294967295)
theorem m1_nI : ((-1) : Int32) = nI 4294967295 := by decide
theorem clr_nI {h k : Nat} (hk : k < 31) : nI h &&& (((1 : Int32) <<< (nI k &&& 31)) ^^^ ((-1) : Int32)) = nI (clr h k) := by
  rw [sh1 hk, m1_nI, nx_xor, nx_and]; rfl
theorem not_nI (h d : Nat) : nI h &&& (nI d ^^^ ((-1) : Int32)) = nI (h &&& (d ^^^ 4294967295)) := by
  rw [m1_nI, nx_xor, nx_and]
theorem tb_ff (i : Nat) : Nat.testBit 4294967295 i = decide (i < 32) := Nat.testBit_two_pow_sub_one 32 i
theorem clr_tb {h k : Nat} (hh : h < 2 ^ 31) (i : Nat) : (clr h k).testBit i = (h.testBit i && !decide (i = k)) := by
  unfold clr
  rw [Nat.testBit_and, Nat.testBit_xor, Nat.testBit_two_pow, tb_ff]
  rcases Nat.lt_or_ge i 31 with q | q
  · rw [decide_eq_true (show i < 32 by omega)]
    by_cases e : k = i
    · subst e; simp
    · have e2 : ¬ i = k := fun z => e z.symm
      simp [e, e2]
  · rw [Nat.testBit_lt_two_pow (Nat.lt_of_lt_of_le hh (Nat.pow_le_pow_right (by omega) q))]
    simp
theorem sub_tb {h d : Nat} (hh : h < 2 ^ 31) (i : Nat) : (h &&& (d ^^^ 4294967295)).testBit i = (h.testBit i && !d.testBit i) := by
  rw [Nat.testBit_and, Nat.testBit_xor, tb_ff]
  rcases Nat.lt_or_ge i 31 with q | q
  · rw [decide_eq_true (show i < 32 by omega)]
    cases d.testBit i <;> simp
  · rw [Nat.testBit_lt_two_pow (Nat.lt_of_lt_of_le hh (Nat.pow_le_pow_right (by omega) q))]
    simp
theorem clr_le (h k : Nat) : clr h k ≤ h := Nat.and_le_left
theorem tb_lt {h n : Nat} (hb : ∀ i, n ≤ i → h.testBit i = false) : h < 2 ^ n := Nat.lt_pow_two_of_testBit h (fun i hi => hb i hi)
theorem tb_ge {h n i : Nat} (hh : h < 2 ^ n) (hi : n ≤ i) : h.testBit i = false := Nat.testBit_lt_two_pow (Nat.lt_of_lt_of_le hh (Nat.pow_le_pow_right (by omega) hi))
theorem tb_ext {a b : Nat} (h : ∀ i, a.testBit i = b.testBit i) : a = b := Nat.eq_of_testBit_eq h
/-! cells and places -/
def plc (c : Nat) : Nat := if 8 ≤ c % 16 then (if 8 ≤ c / 16 then 8 * (c / 16 - 8) + (c % 16 - 8) else 8 * (c % 16 - 8) + (7 - c / 16)) else (if 8 ≤ c / 16 then 8 * (7 - c % 16) + (c / 16 - 8) else 8 * (7 - c / 16) + (7 - c % 16))
def qrt (c : Nat) : Nat := if 8 ≤ c % 16 then (if 8 ≤ c / 16 then 0 else 3) else (if 8 ≤ c / 16 then 1 else 2)
def cel (p q : Nat) : Nat := if q = 0 then 16 * (8 + p / 8) + (8 + p % 8) else if q = 1 then 16 * (8 + p % 8) + (7 - p / 8) else if q = 2 then 16 * (7 - p / 8) + (7 - p % 8) else 16 * (7 - p % 8) + (8 + p / 8)
def rmx (p : Nat) : Nat := if p % 8 < p / 8 then p / 8 else p % 8
theorem cel_c : ∀ c, c < 256 → plc c < 64 ∧ qrt c < 4 ∧ cel (plc c) (qrt c) = c := by decide +kernel
theorem cel_p : ∀ p, p < 64 → ∀ q, q < 4 → cel p q < 256 ∧ plc (cel p q) = p ∧ qrt (cel p q) = q := by decide +kernel
theorem r_quarter : ∀ c, c < 256 → fX12_quarterOf (nI c - nI c / (16 : Int32) * (16 : Int32)) (nI c / (16 : Int32)) = some (nI (qrt c)) := by decide +kernel
theorem r_rim : ∀ c, c < 256 → fX12_rimOf (nI c) = some (nI (rmx (plc c))) := by decide +kernel
theorem r_turned6 (G : Nat) (x : Int32) : ∀ q, q < 4 → fX12_turned (G + 6) x (nI q) = fX12_turned 6 x (nI q) := by
  intro q hq
  match q, hq with
  | 0, _ => rfl
  | 1, _ => rfl
  | 2, _ => rfl
  | 3, _ => rfl
theorem r_turned : ∀ F, 6 ≤ F → ∀ p, p < 64 → ∀ q, q < 4 → fX12_turned F (nI (cel p 0)) (nI q) = some (nI (cel p q)) := by
  intro F hF p hp q hq
  obtain ⟨G, rfl⟩ := Nat.exists_eq_add_of_le' hF
  rw [r_turned6 G _ q hq]
  exact (by decide +kernel : ∀ p, p < 64 → ∀ q, q < 4 → fX12_turned 6 (nI (cel p 0)) (nI q) = some (nI (cel p q))) p hp q hq
theorem r_place : ∀ F, 6 ≤ F → ∀ c, c < 256 → fX12_placeOf F (nI c) = some (nI (cel (plc c) 0)) := by
  intro F hF c hc
  obtain ⟨G, rfl⟩ := Nat.exists_eq_add_of_le' hF
  unfold fX12_placeOf
  rw [r_quarter c hc, bd_s]
  have e : ∀ q, q < 4 → ((4 : Int32) - nI q) - ((4 : Int32) - nI q) / (4 : Int32) * (4 : Int32) = nI ((4 - q) % 4) := by decide +kernel
  rw [e _ (cel_c c hc).2.1, r_turned6 G _ _ (by omega)]
  have e2 : ∀ c, c < 256 → fX12_turned 6 (nI c) (nI ((4 - qrt c) % 4)) = some (nI (cel (plc c) 0)) := by decide +kernel
  rw [e2 c hc]; rfl
theorem c_quarter : ∀ x, x < 16 → ∀ y, y < 16 → fX11_quarterOf (nI x) (nI y) = some (nI (qrt (16 * y + x))) := by decide +kernel
def rotN : Nat → Int32 × Int32 → Int32 × Int32
  | 0, z => z
  | n + 1, z => rotN n (z.2, (15 : Int32) - z.1)
theorem c_place6 (F : Nat) (kx : Int32 → Int32 → Option Int32) : ∀ q n x y, q < 2 ^ 30 → q < n → fX11_placeOf_L11 F kx n x y (nI q) = kx (rotN q (x, y)).1 (rotN q (x, y)).2 := by
  intro q
  induction q with
  | zero =>
    intro n x y _ hn
    obtain ⟨m, rfl⟩ : ∃ m, n = m + 1 := ⟨n - 1, by omega⟩
    rw [fX11_placeOf_L11, nb_s, if_pos (by decide)]; rfl
  | succ q ih =>
    intro n x y hq hn
    obtain ⟨m, rfl⟩ : ∃ m, n = m + 1 := ⟨n - 1, by omega⟩
    rw [fX11_placeOf_L11, nb_s, if_neg (nI_nle (by omega) (by omega)), pk_m1]
    exact ih m y _ (by omega) (by omega)
theorem c_place : ∀ F, 6 ≤ F → ∀ x, x < 16 → ∀ y, y < 16 → fX11_placeOf F (nI x) (nI y) = some (nI (plc (16 * y + x))) := by
  intro F hF x hx y hy
  unfold fX11_placeOf
  have hq := (cel_c (16 * y + x) (by omega)).2.1
  rw [c_quarter x hx y hy, bd_s, c_place6 F _ _ _ _ _ (by omega) (by omega)]
  exact (by decide +kernel : ∀ x, x < 16 → ∀ y, y < 16 → some ((((8 : Int32) * ((rotN (qrt (16 * y + x)) (nI x, nI y)).2 - (8 : Int32))) + (rotN (qrt (16 * y + x)) (nI x, nI y)).1) - (8 : Int32)) = some (nI (plc (16 * y + x)))) x hx y hy
theorem c_cell6 (G : Nat) (x y : Int32) : ∀ q, q < 4 → fX11_cellOf_L19 (G + 6) (nI q) (fun y3 y4 => some (((16 : Int32) * y4) + y3)) (G + 6) x y 0 = fX11_cellOf_L19 6 (nI q) (fun y3 y4 => some (((16 : Int32) * y4) + y3)) 6 x y 0 := by
  intro q hq
  match q, hq with
  | 0, _ => rfl
  | 1, _ => rfl
  | 2, _ => rfl
  | 3, _ => rfl
theorem c_cell : ∀ F, 6 ≤ F → ∀ p, p < 64 → ∀ q, q < 4 → fX11_cellOf F (nI p) (nI q) = some (nI (cel p q)) := by
  intro F hF p hp q hq
  obtain ⟨G, rfl⟩ := Nat.exists_eq_add_of_le' hF
  unfold fX11_cellOf
  rw [nm_s, nm_s, c_cell6 G _ _ q hq]
  exact (by decide +kernel : ∀ p, p < 64 → ∀ q, q < 4 → fX11_cellOf_L19 6 (nI q) (fun y3 y4 => some (((16 : Int32) * y4) + y3)) 6 ((8 : Int32) + (nI p - nI p / (8 : Int32) * (8 : Int32))) ((8 : Int32) + nI p / (8 : Int32)) 0 = some (nI (cel p q))) p hp q hq
/-! what both ask of their numbers -/
theorem c_within (x lo hi : Int32) : fX11_within x lo hi = some (b2 (decide (lo ≤ x ∧ x ≤ hi))) := by
  unfold fX11_within b2
  by_cases h : x < lo
  · rw [if_pos h]
    have : ¬ (lo ≤ x ∧ x ≤ hi) := fun q => by have := (fa_le lo x).mp q.1; have := (fa_lt x lo).mp h; omega
    rw [decide_eq_false this]; rfl
  · rw [if_neg h]
    have h1 : lo ≤ x := (fa_le lo x).mpr (by have := mt (fa_lt x lo).mpr h; omega)
    by_cases h2 : hi < x
    · rw [if_pos h2]
      have : ¬ (lo ≤ x ∧ x ≤ hi) := fun q => by have := (fa_le x hi).mp q.2; have := (fa_lt hi x).mp h2; omega
      rw [decide_eq_false this]; rfl
    · rw [if_neg h2]
      have h3 : x ≤ hi := (fa_le x hi).mpr (by have := mt (fa_lt hi x).mpr h2; omega)
      rw [decide_eq_true ⟨h1, h3⟩]; rfl
theorem lg_lt0 (x y : Int64) : lg_cmp x y < 0 ↔ x < y := by
  unfold lg_cmp
  by_cases h : x > y
  · rw [if_pos h]
    have := (fa_lt64 y x).mp h
    exact ⟨fun q => absurd q (by decide), fun q => absurd ((fa_lt64 x y).mp q) (by omega)⟩
  · rw [if_neg h]
    by_cases h2 : x = y
    · rw [if_pos h2]
      exact ⟨fun q => absurd q (by decide), fun q => absurd ((fa_lt64 x y).mp q) (by rw [h2]; omega)⟩
    · rw [if_neg h2]
      refine ⟨fun _ => (fa_lt64 x y).mpr ?_, fun _ => by decide⟩
      have h3 := mt (fa_lt64 y x).mpr h
      have h4 := mt (fa_eq64 x y).mpr h2
      omega
theorem lg_gt0 (x y : Int64) : 0 < lg_cmp x y ↔ y < x := by
  unfold lg_cmp
  by_cases h : x > y
  · rw [if_pos h]
    exact ⟨fun _ => h, fun _ => by decide⟩
  · rw [if_neg h]
    by_cases h2 : x = y
    · rw [if_pos h2]
      exact ⟨fun q => absurd q (by decide), fun q => absurd q h⟩
    · rw [if_neg h2]
      exact ⟨fun q => absurd q (by decide), fun q => absurd q h⟩
theorem lg_eq0 (x y : Int64) : lg_cmp x y = 0 ↔ x = y := by
  unfold lg_cmp
  by_cases h : x > y
  · rw [if_pos h]
    have := (fa_lt64 y x).mp h
    exact ⟨fun q => absurd q (by decide), fun q => by rw [q] at this; omega⟩
  · rw [if_neg h]
    by_cases h2 : x = y
    · rw [if_pos h2]; exact ⟨fun _ => h2, fun _ => rfl⟩
    · rw [if_neg h2]; exact ⟨fun q => absurd q (by decide), fun q => absurd q h2⟩
theorem r_in (x lo hi : Int32) : fX12_in x.toInt64 lo.toInt64 hi.toInt64 = some (b2 (decide (lo ≤ x ∧ x ≤ hi))) := by
  have e : fX12_in x.toInt64 lo.toInt64 hi.toInt64 = fX11_within x lo hi := by
    unfold fX12_in fX11_within
    have h1 : (lg_cmp x.toInt64 lo.toInt64 < 0) = (x < lo) := propext ((lg_lt0 _ _).trans (fa_wide_lt _ _))
    have h2 : (0 < lg_cmp x.toInt64 hi.toInt64) = (hi < x) := propext ((lg_gt0 _ _).trans (fa_wide_lt _ _))
    simp only [h1, h2]
  rw [e, c_within]
