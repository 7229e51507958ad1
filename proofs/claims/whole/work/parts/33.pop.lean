/-! how many bits -/
def popF : Nat → Nat → Nat
  | 0, _ => 0
  | n + 1, x => x % 2 + popF n (x / 2)
theorem popF_zero : ∀ n, popF n 0 = 0 := by
  intro n
  induction n with
  | zero => rfl
  | succ n ih => rw [popF, show 0 / 2 = 0 from rfl, ih]
theorem popF_add : ∀ m n x, popF (m + n) x = popF m x + popF n (x / 2 ^ m) := by
  intro m
  induction m with
  | zero => intro n x; rw [Nat.zero_add, Nat.pow_zero, Nat.div_one, popF, Nat.zero_add]
  | succ m ih =>
    intro n x
    rw [show m + 1 + n = (m + n) + 1 by omega, popF, popF, ih, Nat.div_div_eq_div_mul, show 2 * 2 ^ m = 2 ^ (m + 1) by rw [Nat.pow_succ]; omega, Nat.add_assoc]
theorem popF_mod : ∀ m x, popF m (x % 2 ^ m) = popF m x := by
  intro m
  induction m with
  | zero => intro x; rfl
  | succ m ih =>
    intro x
    rw [popF, popF]
    have h1 : x % 2 ^ (m + 1) % 2 = x % 2 := Nat.mod_mod_of_dvd x (by rw [Nat.pow_succ]; exact Nat.dvd_mul_left 2 _)
    have h2 : x % 2 ^ (m + 1) / 2 = x / 2 % 2 ^ m := by
      rw [Nat.pow_succ, Nat.mul_comm, Nat.mod_mul_right_div_self]
    rw [h1, h2, ih]
theorem popF_ct : ∀ n x, popF n x = fb_ct x.testBit n := by
  intro n
  induction n with
  | zero => intro x; rfl
  | succ n ih =>
    intro x
    rw [popF, ih, show n + 1 = 1 + n by omega, fb_ct_split]
    have e : fb_ct x.testBit 1 = x % 2 := by
      show 0 + (if x.testBit 0 then 1 else 0) = x % 2
      rw [Nat.testBit_zero]
      rcases Nat.mod_two_eq_zero_or_one x with h | h <;> rw [h] <;> rfl
    rw [e]
    congr 1
    apply fb_ct_cong
    intro k _
    rw [Nat.testBit_div_two, Nat.add_comm]
theorem popF_low : ∀ n x, 0 < x → x < 2 ^ n → popF n (x &&& (x - 1)) + 1 = popF n x := by
  intro n
  induction n with
  | zero => intro x h0 h; simp at h; omega
  | succ n ih =>
    intro x h0 h
    have hm : (x &&& (x - 1)) % 2 = (x % 2) &&& ((x - 1) % 2) := Nat.and_mod_two_pow (n := 1)
    have hd : (x &&& (x - 1)) / 2 = (x / 2) &&& ((x - 1) / 2) := Nat.and_div_two_pow (n := 1)
    rw [popF, popF, hm, hd]
    rcases Nat.mod_two_eq_zero_or_one x with q | q
    · have e1 : (x - 1) % 2 = 1 := by omega
      have e2 : (x - 1) / 2 = x / 2 - 1 := by omega
      rw [q, e1, e2]
      have := ih (x / 2) (by omega) (by rw [Nat.pow_succ] at h; omega)
      have z : (0 &&& 1 : Nat) = 0 := rfl
      omega
    · have e1 : (x - 1) % 2 = 0 := by omega
      have e2 : (x - 1) / 2 = x / 2 := by omega
      rw [q, e1, e2, Nat.and_self]
      have z : (1 &&& 0 : Nat) = 0 := rfl
      omega
theorem r_ones_L {F : Nat} (kx : Int32 → Option Int32) : ∀ m a x, x < 2 ^ 30 → popF 30 x < m → fX12_ones_L4 F kx m (nI a) (nI x) = kx (nI (a + popF 30 x)) := by
  intro m
  induction m with
  | zero => intro a x _ h; omega
  | succ m ih =>
    intro a x hx h
    rw [fX12_ones_L4, nb_s]
    by_cases h0 : x = 0
    · subst h0
      rw [if_pos (show nI 0 = (0 : Int32) from rfl), popF_zero]; rfl
    · rw [if_neg (nI_ne0 (by omega) (by omega)), nm_s]
      have e : nI x &&& (nI x - (1 : Int32)) = nI (x &&& (x - 1)) := by
        rw [show (1 : Int32) = nI 1 from rfl, pk_sub (by omega), nx_and]
      have hp := popF_low 30 x (by omega) hx
      have hl : x &&& (x - 1) ≤ x := Nat.and_le_left
      rw [e, nI_1]
      have := ih (a + 1) (x &&& (x - 1)) (by omega) (by omega)
      rw [show a + 1 + popF 30 (x &&& (x - 1)) = a + popF 30 x by omega] at this
      exact this
theorem r_ones {F x : Nat} (hF : 40 ≤ F) (hx : x < 2 ^ 30) : fX12_ones F (nI x) = some (nI (popF 30 x)) := by
  have hb : popF 30 x ≤ 30 := by rw [popF_ct]; exact fb_ct_le _ _
  have := r_ones_L (F := F) (fun y1 => some y1) F 0 x hx (by omega)
  rw [Nat.zero_add] at this
  exact this
/-! the machine's own count, byte by byte -/
def rpb (m : Nat) : Nat → Nat
  | 0 => 0
  | k + 1 => m + 256 * rpb m k
def byt (f : Nat → Nat) : Nat → Nat → Nat
  | 0, _ => 0
  | k + 1, x => f (x % 256) + 256 * byt f k (x / 256)
theorem and_byte (x y : Nat) : x &&& y = (x % 256 &&& y % 256) + 256 * (x / 256 &&& y / 256) := by
  have h1 : (x &&& y) % 256 = (x % 256) &&& (y % 256) := Nat.and_mod_two_pow (n := 8)
  have h2 : (x &&& y) / 256 = (x / 256) &&& (y / 256) := Nat.and_div_two_pow (n := 8)
  rw [← h1, ← h2]; omega
theorem rpb_mod {m k : Nat} (h : m < 256) : rpb m (k + 1) % 256 = m ∧ rpb m (k + 1) / 256 = rpb m k := by
  rw [rpb]; omega
def sw1 (a : Nat) : Nat := a - (a / 2 &&& 85)
def sw2 (a : Nat) : Nat := (a &&& 51) + (a / 4 &&& 51)
def sw3 (a : Nat) : Nat := (a + a / 16) &&& 15
theorem sw1_d : ∀ a, a < 256 → ∀ t, t < 2 → (a / 2 + 128 * t) &&& 85 = a / 2 &&& 85 ∧ (a / 2 &&& 85) ≤ a := by decide +kernel
theorem sw2_d : ∀ a, a < 256 → ∀ t, t < 4 → (a / 4 + 64 * t) &&& 51 = a / 4 &&& 51 := by decide +kernel
theorem sw_b : ∀ a, a < 256 → sw1 a < 256 ∧ sw2 (sw1 a) < 256 ∧ sw2 (sw1 a) % 16 ≤ 4 ∧ sw2 (sw1 a) / 16 ≤ 4 ∧ sw3 (sw2 (sw1 a)) = popF 8 a ∧ popF 8 a ≤ 8 := by decide +kernel
theorem sw3_d : ∀ a, a < 256 → ∀ t, t < 5 → (a + a / 16 + 16 * t) &&& 15 = sw3 a := by decide +kernel
theorem sw1_all : ∀ k x, x < 256 ^ k → x - (x / 2 &&& rpb 85 k) = byt sw1 k x := by
  intro k
  induction k with
  | zero => intro x h; simp at h; subst h; rfl
  | succ k ih =>
    intro x h
    obtain ⟨e1, e2⟩ := rpb_mod (m := 85) (k := k) (by decide)
    rw [and_byte (x / 2), e1, e2, byt, ← ih (x / 256) (by rw [Nat.pow_succ] at h; omega)]
    have h1 : x / 2 % 256 = x % 256 / 2 + 128 * (x / 256 % 2) := by omega
    have h2 : x / 2 / 256 = x / 256 / 2 := by omega
    have h3 : (x / 256 / 2 &&& rpb 85 k) ≤ x / 256 := Nat.le_trans Nat.and_le_left (by omega)
    obtain ⟨d1, d2⟩ := sw1_d (x % 256) (by omega) (x / 256 % 2) (by omega)
    rw [h1, h2, d1]
    unfold sw1
    omega
theorem sw2_all : ∀ k x, x < 256 ^ k → (x &&& rpb 51 k) + (x / 4 &&& rpb 51 k) = byt sw2 k x := by
  intro k
  induction k with
  | zero => intro x h; simp at h; subst h; rfl
  | succ k ih =>
    intro x h
    obtain ⟨e1, e2⟩ := rpb_mod (m := 51) (k := k) (by decide)
    rw [and_byte (x / 4), and_byte x, e1, e2, byt, ← ih (x / 256) (by rw [Nat.pow_succ] at h; omega)]
    have h1 : x / 4 % 256 = x % 256 / 4 + 64 * (x / 256 % 4) := by omega
    have h2 : x / 4 / 256 = x / 256 / 4 := by omega
    rw [h1, h2, sw2_d (x % 256) (by omega) (x / 256 % 4) (by omega)]
    unfold sw2
    omega
def gdb : Nat → Nat → Prop
  | 0, x => x = 0
  | k + 1, x => x % 16 ≤ 4 ∧ x % 256 / 16 ≤ 4 ∧ gdb k (x / 256)
theorem gdb_low : ∀ k x, gdb k x → x % 16 ≤ 4 := by
  intro k x h
  cases k with
  | zero => have e : x = 0 := h; omega
  | succ k => exact h.1
theorem sw3_all : ∀ k x, gdb k x → (x + x / 16) &&& rpb 15 k = byt sw3 k x := by
  intro k
  induction k with
  | zero => intro x h; exact Nat.and_zero _
  | succ k ih =>
    intro x h
    obtain ⟨g1, g2, g3⟩ := h
    have g4 := gdb_low k _ g3
    obtain ⟨e1, e2⟩ := rpb_mod (m := 15) (k := k) (by decide)
    have h1 : (x + x / 16) % 256 = x % 256 + x % 256 / 16 + 16 * (x / 256 % 16) := by omega
    have h2 : (x + x / 16) / 256 = x / 256 + x / 256 / 16 := by omega
    rw [and_byte, e1, e2, byt, ← ih (x / 256) g3, h1, h2, sw3_d (x % 256) (by omega) _ (by omega)]
theorem byt_lt (f : Nat → Nat) (hf : ∀ a, a < 256 → f a < 256) : ∀ k x, byt f k x < 256 ^ k := by
  intro k
  induction k with
  | zero => intro x; exact Nat.one_pos
  | succ k ih =>
    intro x
    rw [byt, Nat.pow_succ]
    have := ih (x / 256)
    have := hf (x % 256) (by omega)
    omega
theorem byt_comp (f g : Nat → Nat) (hg : ∀ a, a < 256 → g a < 256) : ∀ k x, byt f k (byt g k x) = byt (fun a => f (g a)) k x := by
  intro k
  induction k with
  | zero => intro x; rfl
  | succ k ih =>
    intro x
    have h := hg (x % 256) (by omega)
    rw [byt, byt, byt]
    have e1 : (g (x % 256) + 256 * byt g k (x / 256)) % 256 = g (x % 256) := by omega
    have e2 : (g (x % 256) + 256 * byt g k (x / 256)) / 256 = byt g k (x / 256) := by omega
    rw [e1, e2, ih]
theorem byt_cong (f g : Nat → Nat) (hg : ∀ a, a < 256 → f a = g a) : ∀ k x, byt f k x = byt g k x := by
  intro k
  induction k with
  | zero => intro x; rfl
  | succ k ih => intro x; rw [byt, byt, ih, hg _ (by omega)]
theorem byt_gdb (f : Nat → Nat) (hf : ∀ a, a < 256 → f a < 256 ∧ f a % 16 ≤ 4 ∧ f a / 16 ≤ 4) : ∀ k x, gdb k (byt f k x) := by
  intro k
  induction k with
  | zero => intro x; rfl
  | succ k ih =>
    intro x
    obtain ⟨h1, h2, h3⟩ := hf (x % 256) (by omega)
    have e2 : (f (x % 256) + 256 * byt f k (x / 256)) / 256 = byt f k (x / 256) := by omega
    rw [byt]
    refine ⟨by omega, by omega, ?_⟩
    rw [e2]; exact ih _
theorem sw_all (k x : Nat) (hx : x < 256 ^ k) : let z1 := x - (x / 2 &&& rpb 85 k); let z2 := (z1 &&& rpb 51 k) + (z1 / 4 &&& rpb 51 k); z1 < 256 ^ k ∧ z2 < 256 ^ k ∧ gdb k z2 ∧ (z2 + z2 / 16) &&& rpb 15 k = byt (popF 8) k x := by
  intro z1 z2
  have e1 : z1 = byt sw1 k x := sw1_all k x hx
  have l1 : z1 < 256 ^ k := by rw [e1]; exact byt_lt _ (fun a ha => (sw_b a ha).1) k x
  have e2 : z2 = byt (fun a => sw2 (sw1 a)) k x := by
    have := sw2_all k z1 l1
    rw [← byt_comp sw2 sw1 (fun a ha => (sw_b a ha).1), ← e1]; exact this
  have g2 : gdb k z2 := by rw [e2]; exact byt_gdb _ (fun a ha => ⟨(sw_b a ha).2.1, (sw_b a ha).2.2.1, (sw_b a ha).2.2.2.1⟩) k x
  refine ⟨l1, by rw [e2]; exact byt_lt _ (fun a ha => (sw_b a ha).2.1) k x, g2, ?_⟩
  rw [sw3_all k z2 g2, e2, byt_comp sw3 _ (fun a ha => (sw_b a ha).2.1)]
  exact byt_cong _ _ (fun a ha => (sw_b a ha).2.2.2.2.1) k x
theorem popF_byte (n x : Nat) : popF (8 + n) x = popF 8 (x % 256) + popF n (x / 256) := by
  rw [popF_add, show (2 : Nat) ^ 8 = 256 from rfl, ← popF_mod 8 x]
theorem rpb_85 : rpb 85 8 = 6148914691236517205 ∧ rpb 51 8 = 3689348814741910323 ∧ rpb 15 8 = 1085102592571150095 ∧ rpb 85 4 = 1431655765 ∧ rpb 51 4 = 858993459 ∧ rpb 15 4 = 252645135 := by decide
theorem pop64 (x : Nat) (hx : x < 2 ^ 64) : let z3 := byt (popF 8) 8 x; let z4 := z3 + z3 / 256; let z5 := z4 + z4 / 65536; let z6 := z5 + z5 / 4294967296; z6 < 2 ^ 63 ∧ z6 % 128 = popF 64 x := by
  intro z3 z4 z5 z6
  have e : popF 64 x = popF 8 (x % 256) + (popF 8 (x / 256 % 256) + (popF 8 (x / 256 / 256 % 256) + (popF 8 (x / 256 / 256 / 256 % 256) + (popF 8 (x / 256 / 256 / 256 / 256 % 256) + (popF 8 (x / 256 / 256 / 256 / 256 / 256 % 256) + (popF 8 (x / 256 / 256 / 256 / 256 / 256 / 256 % 256) + popF 8 (x / 256 / 256 / 256 / 256 / 256 / 256 / 256 % 256))))))) := by
    rw [show 64 = 8 + 56 from rfl, popF_byte, show 56 = 8 + 48 from rfl, popF_byte, show 48 = 8 + 40 from rfl, popF_byte, show 40 = 8 + 32 from rfl, popF_byte, show 32 = 8 + 24 from rfl, popF_byte, show 24 = 8 + 16 from rfl, popF_byte, show 16 = 8 + 8 from rfl, popF_byte, show (8 : Nat) = 8 + 0 from rfl, popF_byte 0 (x / 256 / 256 / 256 / 256 / 256 / 256 / 256)]
    rfl
  have e3 : z3 = popF 8 (x % 256) + 256 * (popF 8 (x / 256 % 256) + 256 * (popF 8 (x / 256 / 256 % 256) + 256 * (popF 8 (x / 256 / 256 / 256 % 256) + 256 * (popF 8 (x / 256 / 256 / 256 / 256 % 256) + 256 * (popF 8 (x / 256 / 256 / 256 / 256 / 256 % 256) + 256 * (popF 8 (x / 256 / 256 / 256 / 256 / 256 / 256 % 256) + 256 * (popF 8 (x / 256 / 256 / 256 / 256 / 256 / 256 / 256 % 256) + 256 * 0))))))) := rfl
  have hb : ∀ a, popF 8 (a % 256) ≤ 8 := fun a => (sw_b (a % 256) (by omega)).2.2.2.2.2
  have b0 := hb x
  have b1 := hb (x / 256)
  have b2' := hb (x / 256 / 256)
  have b3 := hb (x / 256 / 256 / 256)
  have b4 := hb (x / 256 / 256 / 256 / 256)
  have b5 := hb (x / 256 / 256 / 256 / 256 / 256)
  have b6 := hb (x / 256 / 256 / 256 / 256 / 256 / 256)
  have b7 := hb (x / 256 / 256 / 256 / 256 / 256 / 256 / 256)
  generalize popF 8 (x % 256) = c0 at *
  generalize popF 8 (x / 256 % 256) = c1 at *
  generalize popF 8 (x / 256 / 256 % 256) = c2 at *
  generalize popF 8 (x / 256 / 256 / 256 % 256) = c3 at *
  generalize popF 8 (x / 256 / 256 / 256 / 256 % 256) = c4 at *
  generalize popF 8 (x / 256 / 256 / 256 / 256 / 256 % 256) = c5 at *
  generalize popF 8 (x / 256 / 256 / 256 / 256 / 256 / 256 % 256) = c6 at *
  generalize popF 8 (x / 256 / 256 / 256 / 256 / 256 / 256 / 256 % 256) = c7 at *
  rw [e]
  clear e hx hb
  have f4 : z4 = z3 + z3 / 256 := rfl
  have f5 : z5 = z4 + z4 / 65536 := rfl
  have f6 : z6 = z5 + z5 / 4294967296 := rfl
  clear_value z6 z5 z4 z3
  have h3 : z3 / 256 = (c1 + 256 * (c2 + 256 * (c3 + 256 * (c4 + 256 * (c5 + 256 * (c6 + 256 * (c7 + 256 * 0))))))) := by omega
  have g4 : z4 = ((c0 + c1) + 256 * ((c1 + c2) + 256 * ((c2 + c3) + 256 * ((c3 + c4) + 256 * ((c4 + c5) + 256 * ((c5 + c6) + 256 * ((c6 + c7) + 256 * (c7 + 256 * 0)))))))) := by omega
  have h4 : z4 / 65536 = ((c2 + c3) + 256 * ((c3 + c4) + 256 * ((c4 + c5) + 256 * ((c5 + c6) + 256 * ((c6 + c7) + 256 * (c7 + 256 * 0)))))) := by clear f4 h3 e3; omega
  have g5 : z5 = (((c0 + c1) + (c2 + c3)) + 256 * (((c1 + c2) + (c3 + c4)) + 256 * (((c2 + c3) + (c4 + c5)) + 256 * (((c3 + c4) + (c5 + c6)) + 256 * (((c4 + c5) + (c6 + c7)) + 256 * (((c5 + c6) + c7) + 256 * ((c6 + c7) + 256 * (c7 + 256 * 0)))))))) := by clear f4 h3 e3; omega
  have h5 : z5 / 4294967296 = (((c4 + c5) + (c6 + c7)) + 256 * (((c5 + c6) + c7) + 256 * ((c6 + c7) + 256 * (c7 + 256 * 0)))) := by clear f4 h3 e3 f5 g4 h4; omega
  have g6 : z6 = ((((c0 + c1) + (c2 + c3)) + ((c4 + c5) + (c6 + c7))) + 256 * ((((c1 + c2) + (c3 + c4)) + ((c5 + c6) + c7)) + 256 * ((((c2 + c3) + (c4 + c5)) + (c6 + c7)) + 256 * ((((c3 + c4) + (c5 + c6)) + c7) + 256 * (((c4 + c5) + (c6 + c7)) + 256 * (((c5 + c6) + c7) + 256 * ((c6 + c7) + 256 * (c7 + 256 * 0)))))))) := by clear f4 h3 e3 f5 g4 h4; omega
  clear f4 h3 e3 f5 g4 h4 f6 g5 h5
  omega
