/-! the machine's counts -/
theorem bL_lN {N p : Nat} (hp : p < 64) : bL (lN N) p = N.testBit p := by
  unfold bL; rw [wb_tb, BitVec.getLsbD_ofNat]; simp [hp]
theorem c_pop64 (x : Int64) : fJ13_bitCount_95d88 x = some (nI (fb_ct (bL x) 64)) := by
  obtain ⟨N, hN, rfl⟩ := wb_of x
  obtain ⟨k1, k2, k3, -⟩ := rpb_85
  obtain ⟨l1, l2, g2, e3⟩ := sw_all 8 N (by rw [show 256 ^ 8 = 2 ^ 64 from by decide]; exact hN)
  obtain ⟨l6, e6⟩ := pop64 N hN
  rw [k1] at l1 l2 g2 e3
  rw [k2] at l2 g2 e3
  rw [k3] at e3
  rw [show 256 ^ 8 = 2 ^ 64 from by decide] at l1 l2
  have s1 : ((lN N).toUInt64 >>> ((1 : Int32).toInt64.toUInt64 &&& Int64.toUInt64 63)).toInt64 = lN (N / 2) := wb_shr (k := 1) hN (by decide)
  have a1 : lN (N / 2) &&& (6148914691236517205 : Int64) = lN (N / 2 &&& 6148914691236517205) := wb_and (a := N / 2) (b := 6148914691236517205) (by omega) (by decide)
  have m1 : (N / 2 &&& 6148914691236517205) ≤ N := Nat.le_trans Nat.and_le_left (by omega)
  unfold fJ13_bitCount_95d88
  rw [nm_s, nm_s, nm_s, nm_s, nm_s, nm_s, s1, a1, lN_sub m1]
  generalize N - (N / 2 &&& 6148914691236517205) = z1 at *
  have s2 : ((lN z1).toUInt64 >>> ((2 : Int32).toInt64.toUInt64 &&& Int64.toUInt64 63)).toInt64 = lN (z1 / 4) := wb_shr (k := 2) l1 (by decide)
  have a2 : lN (z1 / 4) &&& (3689348814741910323 : Int64) = lN (z1 / 4 &&& 3689348814741910323) := wb_and (a := z1 / 4) (b := 3689348814741910323) (by omega) (by decide)
  have a2' : lN z1 &&& (3689348814741910323 : Int64) = lN (z1 &&& 3689348814741910323) := wb_and (a := z1) (b := 3689348814741910323) l1 (by decide)
  rw [s2, a2, a2', lN_add]
  generalize (z1 &&& 3689348814741910323) + (z1 / 4 &&& 3689348814741910323) = z2 at *
  have s3 : ((lN z2).toUInt64 >>> ((4 : Int32).toInt64.toUInt64 &&& Int64.toUInt64 63)).toInt64 = lN (z2 / 16) := wb_shr (k := 4) l2 (by decide)
  have a3 : lN (z2 + z2 / 16) &&& (1085102592571150095 : Int64) = lN ((z2 + z2 / 16) &&& 1085102592571150095) := fb_andL _ _
  rw [s3, lN_add, a3, e3]
  generalize byt (popF 8) 8 N = z3 at *
  have s4 : ((lN z3).toUInt64 >>> ((8 : Int32).toInt64.toUInt64 &&& Int64.toUInt64 63)).toInt64 = lN (z3 / 256) := wb_shr (k := 8) (by omega) (by decide)
  rw [s4, lN_add]
  have s5 : ((lN (z3 + z3 / 256)).toUInt64 >>> ((16 : Int32).toInt64.toUInt64 &&& Int64.toUInt64 63)).toInt64 = lN ((z3 + z3 / 256) / 65536) := wb_shr (k := 16) (by omega) (by decide)
  rw [s5, lN_add]
  have s6 : ((lN (z3 + z3 / 256 + (z3 + z3 / 256) / 65536)).toUInt64 >>> ((32 : Int32).toInt64.toUInt64 &&& Int64.toUInt64 63)).toInt64 = lN ((z3 + z3 / 256 + (z3 + z3 / 256) / 65536) / 4294967296) := wb_shr (k := 32) (by omega) (by decide)
  rw [s6, lN_add, lN_i]
  have a7 : ∀ z : Nat, nI z &&& (127 : Int32) = nI (z % 128) := fun z => fa_mask z 7
  rw [a7, e6, popF_ct]
  congr 2
  exact fb_ct_cong (fun k hk => (bL_lN hk).symm)
theorem pop32 (x : Nat) : let z3 := byt (popF 8) 4 x; let z4 := z3 + z3 / 256; let z5 := z4 + z4 / 65536; z5 < 2 ^ 31 ∧ z5 % 64 = popF 32 x := by
  intro z3 z4 z5
  have e : popF 32 x = popF 8 (x % 256) + (popF 8 (x / 256 % 256) + (popF 8 (x / 256 / 256 % 256) + popF 8 (x / 256 / 256 / 256 % 256))) := by
    rw [show 32 = 8 + 24 from rfl, popF_byte, show 24 = 8 + 16 from rfl, popF_byte, show 16 = 8 + 8 from rfl, popF_byte, show (8 : Nat) = 8 + 0 from rfl, popF_byte 0 (x / 256 / 256 / 256)]
    rfl
  have e3 : z3 = popF 8 (x % 256) + 256 * (popF 8 (x / 256 % 256) + 256 * (popF 8 (x / 256 / 256 % 256) + 256 * (popF 8 (x / 256 / 256 / 256 % 256) + 256 * 0))) := rfl
  have hb : ∀ a, popF 8 (a % 256) ≤ 8 := fun a => (sw_b (a % 256) (by omega)).2.2.2.2.2
  have b0 := hb x
  have b1 := hb (x / 256)
  have b2' := hb (x / 256 / 256)
  have b3 := hb (x / 256 / 256 / 256)
  generalize popF 8 (x % 256) = c0 at *
  generalize popF 8 (x / 256 % 256) = c1 at *
  generalize popF 8 (x / 256 / 256 % 256) = c2 at *
  generalize popF 8 (x / 256 / 256 / 256 % 256) = c3 at *
  rw [e]
  clear e hb
  have f4 : z4 = z3 + z3 / 256 := rfl
  have f5 : z5 = z4 + z4 / 65536 := rfl
  clear_value z5 z4 z3
  have h3 : z3 / 256 = c1 + 256 * (c2 + 256 * c3) := by omega
  have g4 : z4 = (c0 + c1) + 256 * ((c1 + c2) + 256 * ((c2 + c3) + 256 * c3)) := by omega
  have h4 : z4 / 65536 = (c2 + c3) + 256 * c3 := by clear f4 h3 e3; omega
  clear f4 h3 e3
  omega
theorem c_pop32 {x : Nat} (hx : x < 2 ^ 30) : fJ6_bitCount_0f7a4 (nI x) = some (nI (popF 30 x)) := by
  obtain ⟨-, -, -, k1, k2, k3⟩ := rpb_85
  obtain ⟨l1, l2, g2, e3⟩ := sw_all 4 x (by rw [show 256 ^ 4 = 2 ^ 32 from by decide]; omega)
  obtain ⟨l6, e6⟩ := pop32 x
  rw [k1] at l1 l2 g2 e3
  rw [k2] at l2 g2 e3
  rw [k3] at e3
  rw [show 256 ^ 4 = 2 ^ 32 from by decide] at l1 l2
  have e30 : popF 32 x = popF 30 x := by
    rw [show 32 = 30 + 2 from rfl, popF_add, Nat.div_eq_of_lt hx, popF_zero, Nat.add_zero]
  have s1 : ((nI x).toUInt32 >>> ((1 : Int32).toUInt32 &&& Int32.toUInt32 31)).toInt32 = nI (x / 2) := pk_ushrN (n := x) (by omega) (1 : Int32) 1 (by decide)
  have a1 : nI (x / 2) &&& (1431655765 : Int32) = nI (x / 2 &&& 1431655765) := fa_and _ _
  have m1 : (x / 2 &&& 1431655765) ≤ x := Nat.le_trans Nat.and_le_left (by omega)
  unfold fJ6_bitCount_0f7a4
  rw [nm_s, nm_s, nm_s, nm_s, nm_s, s1, a1, pk_sub m1]
  generalize x - (x / 2 &&& 1431655765) = z1 at *
  have s2 : ((nI z1).toUInt32 >>> ((2 : Int32).toUInt32 &&& Int32.toUInt32 31)).toInt32 = nI (z1 / 4) := pk_ushrN (n := z1) l1 (2 : Int32) 2 (by decide)
  have a2 : nI (z1 / 4) &&& (858993459 : Int32) = nI (z1 / 4 &&& 858993459) := fa_and _ _
  have a2' : nI z1 &&& (858993459 : Int32) = nI (z1 &&& 858993459) := fa_and _ _
  rw [s2, a2, a2', nI_add]
  generalize (z1 &&& 858993459) + (z1 / 4 &&& 858993459) = z2 at *
  have s3 : ((nI z2).toUInt32 >>> ((4 : Int32).toUInt32 &&& Int32.toUInt32 31)).toInt32 = nI (z2 / 16) := pk_ushrN (n := z2) l2 (4 : Int32) 4 (by decide)
  have a3 : nI (z2 + z2 / 16) &&& (252645135 : Int32) = nI ((z2 + z2 / 16) &&& 252645135) := fa_and _ _
  rw [s3, nI_add, a3, e3]
  generalize byt (popF 8) 4 x = z3 at *
  have s4 : ((nI z3).toUInt32 >>> ((8 : Int32).toUInt32 &&& Int32.toUInt32 31)).toInt32 = nI (z3 / 256) := pk_ushrN (n := z3) (by omega) (8 : Int32) 8 (by decide)
  rw [s4, nI_add]
  have s5 : ((nI (z3 + z3 / 256)).toUInt32 >>> ((16 : Int32).toUInt32 &&& Int32.toUInt32 31)).toInt32 = nI ((z3 + z3 / 256) / 65536) := pk_ushrN (n := z3 + z3 / 256) (by omega) (16 : Int32) 16 (by decide)
  rw [s5, nI_add]
  have a7 : ∀ z : Nat, nI z &&& (63 : Int32) = nI (z % 64) := fun z => fa_mask z 6
  rw [a7, e6, e30]
/-! sums over cells are sums over places -/
def sml : List Nat → Nat
  | [] => 0
  | a :: l => a + sml l
theorem sml_perm {l m : List Nat} (h : l.Perm m) : sml l = sml m := by
  induction h with
  | nil => rfl
  | cons x _ ih => simp only [sml, ih]
  | swap x y l => simp only [sml]; omega
  | trans _ _ ih1 ih2 => exact ih1.trans ih2
theorem sml_app : ∀ l m : List Nat, sml (l ++ m) = sml l + sml m := by
  intro l
  induction l with
  | nil => intro m; simp [sml]
  | cons a l ih => intro m; simp only [List.cons_append, sml, ih]; omega
theorem sml_range (f : Nat → Nat) : ∀ n, sml ((List.range n).map f) = fb_sm f n := by
  intro n
  induction n with
  | zero => rfl
  | succ n ih => rw [List.range_succ, List.map_append, sml_app, ih]; simp [sml, fb_sm]
def pairs : List (Nat × Nat) := (List.range 64).flatMap (fun p => [(p, 0), (p, 1), (p, 2), (p, 3)])
theorem pairs_perm : ((List.range 256).map (fun c => (plc c, qrt c))).Perm pairs := List.isPerm_iff.mp (by decide +kernel)
theorem sml_pairs (f : Nat × Nat → Nat) : ∀ n, sml (((List.range n).flatMap (fun p => [(p, 0), (p, 1), (p, 2), (p, 3)])).map f) = fb_sm (fun p => f (p, 0) + f (p, 1) + f (p, 2) + f (p, 3)) n := by
  intro n
  induction n with
  | zero => rfl
  | succ n ih => rw [List.range_succ, List.flatMap_append, List.map_append, sml_app, ih]; simp [sml, fb_sm]; omega
theorem sum_cells (f : Nat → Nat → Nat) : fb_sm (fun c => f (plc c) (qrt c)) 256 = fb_sm (fun p => f p 0 + f p 1 + f p 2 + f p 3) 64 := by
  rw [← sml_range, ← sml_pairs (fun z => f z.1 z.2) 64]
  have := sml_perm (pairs_perm.map (fun z => f z.1 z.2))
  rw [List.map_map] at this
  exact this
theorem sum_part {f : Nat → Nat} {n : Nat} (h : ∀ k, k < n → f k ≤ 1) : fb_sm f n ≤ n := by
  have := fb_sm_bound (c := 1) h; omega
