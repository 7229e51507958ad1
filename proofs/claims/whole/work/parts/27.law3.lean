def StepAll (Rel : SS → (Nat → Nat → Int32) → Prop) : Prop := st_disc Rel ∧ st_rim Rel ∧ st_line Rel ∧ st_block Rel ∧ st_sign Rel ∧ st_undo Rel ∧ st_told Rel ∧ st_step Rel ∧ st_quarter Rel ∧ st_cell Rel ∧ st_count Rel ∧ st_unlike Rel ∧ st_hem Rel ∧ st_after Rel ∧ st_sand Rel ∧ st_days Rel ∧ st_day Rel ∧ st_poured Rel ∧ st_photo Rel ∧ st_smear Rel ∧ st_cat Rel ∧ st_seen Rel ∧ st_back Rel ∧ st_mend Rel ∧ st_harm Rel ∧ st_again Rel ∧ st_bar Rel ∧ st_way Rel ∧ st_wayAt Rel ∧ st_heap Rel ∧ st_sheet Rel ∧ st_drop Rel ∧ st_item Rel ∧ st_show Rel ∧ st_keep Rel
theorem lw_next {x3 : Int32} {i L : Nat} (ex : x3 = nI i) (hi : i ≤ L + 7) (hL : L ≤ 3584) (h : ¬ (Int32.ofNat L - 7 < x3)) : i + 7 ≤ L := by
  rcases Nat.lt_or_ge L (i + 7) with q | q
  · exfalso
    apply h
    rw [ex, Int32.lt_iff_toInt_lt]
    have h1 : (Int32.ofNat L - 7).toInt = (L : Int) - ((7 : Nat) : Int) := pk_sub_toInt (a := L) (b := 7) (by omega) (by omega)
    rw [h1, nI_toInt (by omega)]
    omega
  · exact q
theorem lw_in0 {x3 : Int32} {i L : Nat} (ex : x3 = nI i) (hi : i + 7 ≤ L) (hL : L ≤ 3584) : vp_in x3 L := by
  rw [ex]
  exact vp_in_nI (by omega) (by omega)
set_option maxHeartbeats 8000000 in
set_option maxRecDepth 100000 in
theorem law_loop {p : Program} {l : Launch} {e : Env} {s : State} {m : MethodId} {below : List Frame} {meth : Method} {c : Code} {b L : Nat} {xs : Nat → Int32} (hL : L ≤ 3584) (C0 : lw_At p s m meth c b L xs) {D : va_G} {cs : Nat → ClassId} (hK : KK D cs s) (hG : GT (sA s) s) {aC aM : Nat → Nat} {Rel : SS → (Nat → Nat → Int32) → Prop} (hOK : ∀ u v, Rel u v → shOK u.2.1 u.2.2.1 u.2.2.2) (hs : StepAll Rel) : ∀ (n i : Nat) (x3 : Int32) (u : SS) (v : Nat → Nat → Int32) (H : Heap) (locs : List Loc) (ls : Array Slot), L + 8 ≤ i + n → i ≤ L + 7 → x3 = nI i → Rel u v → va_P D vwCl (cWs aC cs u) H → va_D (sA s) (cWs aC cs u) → va_P D vwCl (mW aM cs v) H → va_D (sA s) (mW aM cs v) → dj (cWs aC cs u) (mW aM cs v) → va_S (sA s) s.heap H locs → lv_has ls 4 [(0, .ref b), (1, .ref (aC 0)), (2, .ref (aM 0)), (3, .int x3)] → W p l e room_1 s m #[Value.ref b] below meth c H locs (100 + i) (12000 + 3 * i) (lw_Z below #[Value.ref b] s) (F0 m 18 ls []) := by
  obtain ⟨hx, hb, hr, hml, hown, hts0, hX, hbl, hlocks, hgv⟩ := id C0
  have hts : ∀ w ∈ wsL_law, w.before #[Value.ref b] s = true := fun w h => hts0 w (wsL_law_in w h)
  have hA : ∀ q : Nat, s.heap.size ≤ q → sA s q := fun _ h => h
  have hbA : ¬ sA s b := Nat.not_le.mpr hbl
  obtain ⟨h_disc, h_rim, h_line, h_block, h_sign, h_undo, h_told, h_step, h_quarter, h_cell, h_count, h_unlike, h_hem, h_after, h_sand, h_days, h_day, h_poured, h_photo, h_smear, h_cat, h_seen, h_back, h_mend, h_harm, h_again, h_bar, h_way, h_wayAt, h_heap, h_sheet, h_drop, h_item, h_show, h_keep⟩ := hs
  intro n
  induction n with
  | zero =>
    intro i x3 u v H locs ls h1 h2
    exact absurd h1 (by omega)
  | succ n ih =>
    intro i x3 u v H locs ls hn hi0 ex3 hR hP1 hD1 hP2 hD2 hdj hS hl
    refine lv_iload_n hx hb dL_law_18 rfl (lv_at hl 3 rfl) ?_
    refine lv_aload_n hx hb dL_law_19 rfl (lv_at hl 0 rfl) ?_
    refine va_slen hx hb hX hbl hbA hS dL_law_20 ?_
    refine lv_bipush (v := (7 : Int32)) hx hb dL_law_21 (by decide) ?_
    refine lv_isub hx hb dL_law_23 ?_
    refine lv_icmp_gt (tgt := 1377) hx hb dL_law_24 (by decide) (fun c9 => ?_) (fun c9 => ?_)
    · refine lv_iconst (v := 1) hx hb dL_law_1377 (by decide) ?_
      refine va_forget (fun q hq => hS.2.2 q hq) ?_
      refine W.widen (k := 600000) (n := room_1.slots) (by omega) (by have := rs_ge; omega) ?_
      exact lw_ret hx hb hr hlocks dL_law_1378
    · have hi : i + 7 ≤ L := lw_next ex3 hi0 hL c9
      have kk : ∀ (u : SS) (v : Nat → Nat → Int32) (H : Heap) (locs : List Loc) (ls : Array Slot), Rel u v → va_P D vwCl (cWs aC cs u) H → va_D (sA s) (cWs aC cs u) → va_P D vwCl (mW aM cs v) H → va_D (sA s) (mW aM cs v) → dj (cWs aC cs u) (mW aM cs v) → va_S (sA s) s.heap H locs → lv_has ls 4 [(0, .ref b), (1, .ref (aC 0)), (2, .ref (aM 0)), (3, .int x3)] → W p l e room_1 s m #[Value.ref b] below meth c H locs (100 + (i + 7)) (12000 + 3 * (i + 7)) (lw_Z below #[Value.ref b] s) (F0 m 1371 ls []) := by
        intro u v H locs ls hR hP1 hD1 hP2 hD2 hdj hS hl
        refine lv_iinc (v := x3 + (7 : Int32)) (lv' := [(3, .int (x3 + (7 : Int32))), (0, .ref b), (1, .ref (aC 0)), (2, .ref (aM 0))]) hx hb dL_law_1371 hl (k := 3) rfl rfl (by decide) rfl (fun ls hl => ?_)
        refine lv_goto (tgt := 18) hx hb dL_law_1374 (by decide) ?_
        exact ih (i + 7) (x3 + (7 : Int32)) u v H locs ls (by omega) (by omega) (by rw [ex3]; exact nI_add i 7) hR hP1 hD1 hP2 hD2 hdj hS (lv_sub hl [1, 2, 3, 0] rfl)
      refine lv_aload_n hx hb dL_law_27 rfl (lv_at hl 0 rfl) ?_
      refine lv_iload_n hx hb dL_law_28 rfl (lv_at hl 3 rfl) ?_
      refine va_sld hx hb hX hbl hbA hS (lw_in0 ex3 hi hL) dL_law_29 ?_
      refine lv_bipush (v := (63 : Int32)) hx hb dL_law_30 (by decide) ?_
      refine lv_iand hx hb dL_law_32 ?_
      generalize (xs x3.toNatClampNeg &&& (63 : Int32)) = X
      by_cases c0 : X = (0 : Int32)
      · refine lv_tableIn (off := 155) (tgt := 188) hx hb dL_law_33 (by rw [c0]; decide) (by rw [c0]; decide) (by rw [c0]; rfl) (by decide) ?_
        exact law_disc hL C0 hK hG hOK h_disc i hi x3 ex3 u v hR H locs ls hP1 hD1 hP2 hD2 hdj hS hl kk
      by_cases c1 : X = (1 : Int32)
      · refine lv_tableIn (off := 188) (tgt := 221) hx hb dL_law_33 (by rw [c1]; decide) (by rw [c1]; decide) (by rw [c1]; rfl) (by decide) ?_
        exact law_rim hL C0 hK hG hOK h_rim i hi x3 ex3 u v hR H locs ls hP1 hD1 hP2 hD2 hdj hS hl kk
      by_cases c2 : X = (2 : Int32)
      · refine lv_tableIn (off := 221) (tgt := 254) hx hb dL_law_33 (by rw [c2]; decide) (by rw [c2]; decide) (by rw [c2]; rfl) (by decide) ?_
        exact law_line hL C0 hK hG hOK h_line i hi x3 ex3 u v hR H locs ls hP1 hD1 hP2 hD2 hdj hS hl kk
      by_cases c3 : X = (3 : Int32)
      · refine lv_tableIn (off := 284) (tgt := 317) hx hb dL_law_33 (by rw [c3]; decide) (by rw [c3]; decide) (by rw [c3]; rfl) (by decide) ?_
        exact law_block hL C0 hK hG hOK h_block i hi x3 ex3 u v hR H locs ls hP1 hD1 hP2 hD2 hdj hS hl kk
      by_cases c4 : X = (4 : Int32)
      · refine lv_tableIn (off := 347) (tgt := 380) hx hb dL_law_33 (by rw [c4]; decide) (by rw [c4]; decide) (by rw [c4]; rfl) (by decide) ?_
        exact law_sign hL C0 hK hG hOK h_sign i hi x3 ex3 u v hR H locs ls hP1 hD1 hP2 hD2 hdj hS hl kk
      by_cases c5 : X = (5 : Int32)
      · refine lv_tableIn (off := 422) (tgt := 455) hx hb dL_law_33 (by rw [c5]; decide) (by rw [c5]; decide) (by rw [c5]; rfl) (by decide) ?_
        exact law_undo hL C0 hK hG hOK h_undo i hi x3 ex3 u v hR H locs ls hP1 hD1 hP2 hD2 hdj hS hl kk
      by_cases c6 : X = (6 : Int32)
      · refine lv_tableIn (off := 435) (tgt := 468) hx hb dL_law_33 (by rw [c6]; decide) (by rw [c6]; decide) (by rw [c6]; rfl) (by decide) ?_
        exact law_told hL C0 hK hG hOK h_told i hi x3 ex3 u v hR H locs ls hP1 hD1 hP2 hD2 hdj hS hl kk
      by_cases c7 : X = (7 : Int32)
      · refine lv_tableIn (off := 468) (tgt := 501) hx hb dL_law_33 (by rw [c7]; decide) (by rw [c7]; decide) (by rw [c7]; rfl) (by decide) ?_
        exact law_step hL C0 hK hG hOK h_step i hi x3 ex3 u v hR H locs ls hP1 hD1 hP2 hD2 hdj hS hl kk
      by_cases c8 : X = (8 : Int32)
      · refine lv_tableIn (off := 491) (tgt := 524) hx hb dL_law_33 (by rw [c8]; decide) (by rw [c8]; decide) (by rw [c8]; rfl) (by decide) ?_
        exact law_quarter hL C0 hK hG hOK h_quarter i hi x3 ex3 u v hR H locs ls hP1 hD1 hP2 hD2 hdj hS hl kk
      by_cases c9 : X = (9 : Int32)
      · refine lv_tableIn (off := 514) (tgt := 547) hx hb dL_law_33 (by rw [c9]; decide) (by rw [c9]; decide) (by rw [c9]; rfl) (by decide) ?_
        exact law_cell hL C0 hK hG hOK h_cell i hi x3 ex3 u v hR H locs ls hP1 hD1 hP2 hD2 hdj hS hl kk
      by_cases c10 : X = (10 : Int32)
      · refine lv_tableIn (off := 557) (tgt := 590) hx hb dL_law_33 (by rw [c10]; decide) (by rw [c10]; decide) (by rw [c10]; rfl) (by decide) ?_
        exact law_count hL C0 hK hG hOK h_count i hi x3 ex3 u v hR H locs ls hP1 hD1 hP2 hD2 hdj hS hl kk
      by_cases c11 : X = (11 : Int32)
      · refine lv_tableIn (off := 580) (tgt := 613) hx hb dL_law_33 (by rw [c11]; decide) (by rw [c11]; decide) (by rw [c11]; rfl) (by decide) ?_
        exact law_unlike hL C0 hK hG hOK h_unlike i hi x3 ex3 u v hR H locs ls hP1 hD1 hP2 hD2 hdj hS hl kk
      by_cases c12 : X = (12 : Int32)
      · refine lv_tableIn (off := 593) (tgt := 626) hx hb dL_law_33 (by rw [c12]; decide) (by rw [c12]; decide) (by rw [c12]; rfl) (by decide) ?_
        exact law_hem hL C0 hK hG hOK h_hem i hi x3 ex3 u v hR H locs ls hP1 hD1 hP2 hD2 hdj hS hl kk
      by_cases c13 : X = (13 : Int32)
      · refine lv_tableIn (off := 652) (tgt := 685) hx hb dL_law_33 (by rw [c13]; decide) (by rw [c13]; decide) (by rw [c13]; rfl) (by decide) ?_
        exact law_after hL C0 hK hG hOK h_after i hi x3 ex3 u v hR H locs ls hP1 hD1 hP2 hD2 hdj hS hl kk
      by_cases c14 : X = (14 : Int32)
      · refine lv_tableIn (off := 685) (tgt := 718) hx hb dL_law_33 (by rw [c14]; decide) (by rw [c14]; decide) (by rw [c14]; rfl) (by decide) ?_
        exact law_sand hL C0 hK hG hOK h_sand i hi x3 ex3 u v hR H locs ls hP1 hD1 hP2 hD2 hdj hS hl kk
      by_cases c15 : X = (15 : Int32)
      · refine lv_tableIn (off := 708) (tgt := 741) hx hb dL_law_33 (by rw [c15]; decide) (by rw [c15]; decide) (by rw [c15]; rfl) (by decide) ?_
        exact law_days hL C0 hK hG hOK h_days i hi x3 ex3 u v hR H locs ls hP1 hD1 hP2 hD2 hdj hS hl kk
      by_cases c16 : X = (16 : Int32)
      · refine lv_tableIn (off := 721) (tgt := 754) hx hb dL_law_33 (by rw [c16]; decide) (by rw [c16]; decide) (by rw [c16]; rfl) (by decide) ?_
        exact law_day hL C0 hK hG hOK h_day i hi x3 ex3 u v hR H locs ls hP1 hD1 hP2 hD2 hdj hS hl kk
      by_cases c17 : X = (17 : Int32)
      · refine lv_tableIn (off := 744) (tgt := 777) hx hb dL_law_33 (by rw [c17]; decide) (by rw [c17]; decide) (by rw [c17]; rfl) (by decide) ?_
        exact law_poured hL C0 hK hG hOK h_poured i hi x3 ex3 u v hR H locs ls hP1 hD1 hP2 hD2 hdj hS hl kk
      by_cases c18 : X = (18 : Int32)
      · refine lv_tableIn (off := 767) (tgt := 800) hx hb dL_law_33 (by rw [c18]; decide) (by rw [c18]; decide) (by rw [c18]; rfl) (by decide) ?_
        exact law_photo hL C0 hK hG hOK h_photo i hi x3 ex3 u v hR H locs ls hP1 hD1 hP2 hD2 hdj hS hl kk
      by_cases c19 : X = (19 : Int32)
      · refine lv_tableIn (off := 780) (tgt := 813) hx hb dL_law_33 (by rw [c19]; decide) (by rw [c19]; decide) (by rw [c19]; rfl) (by decide) ?_
        exact law_smear hL C0 hK hG hOK h_smear i hi x3 ex3 u v hR H locs ls hP1 hD1 hP2 hD2 hdj hS hl kk
      by_cases c20 : X = (20 : Int32)
      · refine lv_tableIn (off := 813) (tgt := 846) hx hb dL_law_33 (by rw [c20]; decide) (by rw [c20]; decide) (by rw [c20]; rfl) (by decide) ?_
        exact law_cat hL C0 hK hG hOK h_cat i hi x3 ex3 u v hR H locs ls hP1 hD1 hP2 hD2 hdj hS hl kk
      by_cases c21 : X = (21 : Int32)
      · refine lv_tableIn (off := 876) (tgt := 909) hx hb dL_law_33 (by rw [c21]; decide) (by rw [c21]; decide) (by rw [c21]; rfl) (by decide) ?_
        exact law_seen hL C0 hK hG hOK h_seen i hi x3 ex3 u v hR H locs ls hP1 hD1 hP2 hD2 hdj hS hl kk
      by_cases c22 : X = (22 : Int32)
      · refine lv_tableIn (off := 909) (tgt := 942) hx hb dL_law_33 (by rw [c22]; decide) (by rw [c22]; decide) (by rw [c22]; rfl) (by decide) ?_
        exact law_back hL C0 hK hG hOK h_back i hi x3 ex3 u v hR H locs ls hP1 hD1 hP2 hD2 hdj hS hl kk
      by_cases c23 : X = (23 : Int32)
      · refine lv_tableIn (off := 942) (tgt := 975) hx hb dL_law_33 (by rw [c23]; decide) (by rw [c23]; decide) (by rw [c23]; rfl) (by decide) ?_
        exact law_mend hL C0 hK hG hOK h_mend i hi x3 ex3 u v hR H locs ls hP1 hD1 hP2 hD2 hdj hS hl kk
      by_cases c24 : X = (24 : Int32)
      · refine lv_tableIn (off := 955) (tgt := 988) hx hb dL_law_33 (by rw [c24]; decide) (by rw [c24]; decide) (by rw [c24]; rfl) (by decide) ?_
        exact law_harm hL C0 hK hG hOK h_harm i hi x3 ex3 u v hR H locs ls hP1 hD1 hP2 hD2 hdj hS hl kk
      by_cases c25 : X = (25 : Int32)
      · refine lv_tableIn (off := 978) (tgt := 1011) hx hb dL_law_33 (by rw [c25]; decide) (by rw [c25]; decide) (by rw [c25]; rfl) (by decide) ?_
        exact law_again hL C0 hK hG hOK h_again i hi x3 ex3 u v hR H locs ls hP1 hD1 hP2 hD2 hdj hS hl kk
      by_cases c26 : X = (26 : Int32)
      · refine lv_tableIn (off := 991) (tgt := 1024) hx hb dL_law_33 (by rw [c26]; decide) (by rw [c26]; decide) (by rw [c26]; rfl) (by decide) ?_
        exact law_bar hL C0 hK hG hOK h_bar i hi x3 ex3 u v hR H locs ls hP1 hD1 hP2 hD2 hdj hS hl kk
      by_cases c27 : X = (27 : Int32)
      · refine lv_tableIn (off := 1014) (tgt := 1047) hx hb dL_law_33 (by rw [c27]; decide) (by rw [c27]; decide) (by rw [c27]; rfl) (by decide) ?_
        exact law_way hL C0 hK hG hOK h_way i hi x3 ex3 u v hR H locs ls hP1 hD1 hP2 hD2 hdj hS hl kk
      by_cases c28 : X = (28 : Int32)
      · refine lv_tableIn (off := 1037) (tgt := 1070) hx hb dL_law_33 (by rw [c28]; decide) (by rw [c28]; decide) (by rw [c28]; rfl) (by decide) ?_
        exact law_wayAt hL C0 hK hG hOK h_wayAt i hi x3 ex3 u v hR H locs ls hP1 hD1 hP2 hD2 hdj hS hl kk
      by_cases c29 : X = (29 : Int32)
      · refine lv_tableIn (off := 1070) (tgt := 1103) hx hb dL_law_33 (by rw [c29]; decide) (by rw [c29]; decide) (by rw [c29]; rfl) (by decide) ?_
        exact law_heap hL C0 hK hG hOK h_heap i hi x3 ex3 u v hR H locs ls hP1 hD1 hP2 hD2 hdj hS hl kk
      by_cases c30 : X = (30 : Int32)
      · refine lv_tableIn (off := 1093) (tgt := 1126) hx hb dL_law_33 (by rw [c30]; decide) (by rw [c30]; decide) (by rw [c30]; rfl) (by decide) ?_
        exact law_sheet hL C0 hK hG hOK h_sheet i hi x3 ex3 u v hR H locs ls hP1 hD1 hP2 hD2 hdj hS hl kk
      by_cases c31 : X = (31 : Int32)
      · refine lv_tableIn (off := 1136) (tgt := 1169) hx hb dL_law_33 (by rw [c31]; decide) (by rw [c31]; decide) (by rw [c31]; rfl) (by decide) ?_
        exact law_drop hL C0 hK hG hOK h_drop i hi x3 ex3 u v hR H locs ls hP1 hD1 hP2 hD2 hdj hS hl kk
      by_cases c32 : X = (32 : Int32)
      · refine lv_tableIn (off := 1159) (tgt := 1192) hx hb dL_law_33 (by rw [c32]; decide) (by rw [c32]; decide) (by rw [c32]; rfl) (by decide) ?_
        exact law_item hL C0 hK hG hOK h_item i hi x3 ex3 u v hR H locs ls hP1 hD1 hP2 hD2 hdj hS hl kk
      by_cases c33 : X = (33 : Int32)
      · refine lv_tableIn (off := 1212) (tgt := 1245) hx hb dL_law_33 (by rw [c33]; decide) (by rw [c33]; decide) (by rw [c33]; rfl) (by decide) ?_
        exact law_show hL C0 hK hG hOK h_show i hi x3 ex3 u v hR H locs ls hP1 hD1 hP2 hD2 hdj hS hl kk
      by_cases c34 : X = (34 : Int32)
      · refine lv_tableIn (off := 1275) (tgt := 1308) hx hb dL_law_33 (by rw [c34]; decide) (by rw [c34]; decide) (by rw [c34]; rfl) (by decide) ?_
        exact law_keep hL C0 hK hG hOK h_keep i hi x3 ex3 u v hR H locs ls hP1 hD1 hP2 hD2 hdj hS hl kk
      have ho : ∀ k : Int, 0 ≤ k → k ≤ 34 → ¬ Int32.toInt X = k := by
        intro k h1 h2
        rcases (show k = 0 ∨ k = 1 ∨ k = 2 ∨ k = 3 ∨ k = 4 ∨ k = 5 ∨ k = 6 ∨ k = 7 ∨ k = 8 ∨ k = 9 ∨ k = 10 ∨ k = 11 ∨ k = 12 ∨ k = 13 ∨ k = 14 ∨ k = 15 ∨ k = 16 ∨ k = 17 ∨ k = 18 ∨ k = 19 ∨ k = 20 ∨ k = 21 ∨ k = 22 ∨ k = 23 ∨ k = 24 ∨ k = 25 ∨ k = 26 ∨ k = 27 ∨ k = 28 ∨ k = 29 ∨ k = 30 ∨ k = 31 ∨ k = 32 ∨ k = 33 ∨ k = 34 by omega) with rfl | rfl | rfl | rfl | rfl | rfl | rfl | rfl | rfl | rfl | rfl | rfl | rfl | rfl | rfl | rfl | rfl | rfl | rfl | rfl | rfl | rfl | rfl | rfl | rfl | rfl | rfl | rfl | rfl | rfl | rfl | rfl | rfl | rfl | rfl
        · exact lv_neT c0 (by decide)
        · exact lv_neT c1 (by decide)
        · exact lv_neT c2 (by decide)
        · exact lv_neT c3 (by decide)
        · exact lv_neT c4 (by decide)
        · exact lv_neT c5 (by decide)
        · exact lv_neT c6 (by decide)
        · exact lv_neT c7 (by decide)
        · exact lv_neT c8 (by decide)
        · exact lv_neT c9 (by decide)
        · exact lv_neT c10 (by decide)
        · exact lv_neT c11 (by decide)
        · exact lv_neT c12 (by decide)
        · exact lv_neT c13 (by decide)
        · exact lv_neT c14 (by decide)
        · exact lv_neT c15 (by decide)
        · exact lv_neT c16 (by decide)
        · exact lv_neT c17 (by decide)
        · exact lv_neT c18 (by decide)
        · exact lv_neT c19 (by decide)
        · exact lv_neT c20 (by decide)
        · exact lv_neT c21 (by decide)
        · exact lv_neT c22 (by decide)
        · exact lv_neT c23 (by decide)
        · exact lv_neT c24 (by decide)
        · exact lv_neT c25 (by decide)
        · exact lv_neT c26 (by decide)
        · exact lv_neT c27 (by decide)
        · exact lv_neT c28 (by decide)
        · exact lv_neT c29 (by decide)
        · exact lv_neT c30 (by decide)
        · exact lv_neT c31 (by decide)
        · exact lv_neT c32 (by decide)
        · exact lv_neT c33 (by decide)
        · exact lv_neT c34 (by decide)
      refine lv_tableOut (tgt := 1371) hx hb dL_law_33 (tb_out ho) (by decide) ?_
      refine W.widen (k := 100 + (i + 7)) (n := 12000 + 3 * (i + 7)) (by omega) (by omega) ?_
      exact kk u v H locs ls hR hP1 hD1 hP2 hD2 hdj hS hl
theorem arrOfT_of {s : State} {ty : FieldType} {cA : ClassId} {kA : Class} {comp : ClassId} (h2 : s.vm.classes[cA]? = some kA) (h3 : kA.kind = .array comp ty) : ArrOfT s cA ty := fun n z => ⟨fun k h => (by cases h), kA, h2, comp, h3⟩
theorem aoa_spec {s : State} (h : va_AOA .int s) : ∃ (c : ClassId) (k : Class) (comp : ClassId), s.vm.findClass ("[" ++ (FieldType.array .int).toString) = some c ∧ s.vm.classes[c]? = some k ∧ k.kind = .array comp (.array .int) := by
  have h : (Cond.arrayOver (.array .int)).holds #[] s none s [] = true := h
  simp only [Cond.holds, Cond.value, beq_iff_eq] at h
  cases hc : s.vm.findClass (FieldType.array .int).toString with
  | none => simp [hc] at h
  | some comp =>
    simp only [hc, Option.bind_some, Option.bind_eq_some_iff, Option.map_eq_some_iff] at h
    obtain ⟨c, hi, k, hk, hb⟩ := h
    obtain ⟨hlt, hp, -⟩ := Array.findIdx?_eq_some_iff_getElem.mp hi
    have hkk : s.vm.classes[c] = k := (Array.getElem?_eq_some_iff.mp hk).2
    rw [hkk] at hp
    cases hkind : k.kind with
    | array component ty =>
      rw [hkind] at hb hp
      simp at hb hp
      exact ⟨c, k, comp, hb.2, hk, by rw [hkind, hp, hb.1]⟩
    | _ => rw [hkind] at hb; simp at hb
theorem va_Pl {D : va_G} {w1 w2 : va_W} {H : Heap} (hP : va_P D vwCl (w1 ++ w2) H) : va_P D vwCl w1 H := fun k x hx => hP k x (by rw [List.getElem?_append_left (List.getElem?_eq_some_iff.mp hx).1]; exact hx)
theorem va_Pr {D : va_G} {w1 w2 : va_W} {H : Heap} (hP : va_P D vwCl (w1 ++ w2) H) : va_P D vwCl w2 H := fun k x hx => hP (w1.length + k) x (by rw [List.getElem?_append_right (by omega), Nat.add_sub_cancel_left]; exact hx)
theorem va_Dl {A : Nat → Prop} {w1 w2 : va_W} (hD : va_D A (w1 ++ w2)) : va_D A w1 := ⟨fun i j x y hi hj e => hD.1 i j x y (by rw [List.getElem?_append_left (List.getElem?_eq_some_iff.mp hi).1]; exact hi) (by rw [List.getElem?_append_left (List.getElem?_eq_some_iff.mp hj).1]; exact hj) e, fun k x hx => hD.2 k x (by rw [List.getElem?_append_left (List.getElem?_eq_some_iff.mp hx).1]; exact hx)⟩
theorem va_Dr {A : Nat → Prop} {w1 w2 : va_W} (hD : va_D A (w1 ++ w2)) : va_D A w2 := ⟨fun i j x y hi hj e => by
    have := hD.1 (w1.length + i) (w1.length + j) x y (by rw [List.getElem?_append_right (by omega), Nat.add_sub_cancel_left]; exact hi) (by rw [List.getElem?_append_right (by omega), Nat.add_sub_cancel_left]; exact hj) e
    omega, fun k x hx => hD.2 (w1.length + k) x (by rw [List.getElem?_append_right (by omega), Nat.add_sub_cancel_left]; exact hx)⟩
theorem va_Dj {A : Nat → Prop} {w1 w2 : va_W} (hD : va_D A (w1 ++ w2)) : dj w1 w2 := fun i j x y hi hj e => by
  have hl := (List.getElem?_eq_some_iff.mp hi).1
  have := hD.1 i (w1.length + j) x y (by rw [List.getElem?_append_left hl]; exact hi) (by rw [List.getElem?_append_right (by omega), Nat.add_sub_cancel_left]; exact hj) e
  omega
set_option maxHeartbeats 8000000 in
set_option maxRecDepth 100000 in
/-- the claim out of a relation that every call keeps -/
theorem whole_open (Rel : SS → (Nat → Nat → Int32) → Prop) (hOK : ∀ u v, Rel u v → shOK u.2.1 u.2.2.1 u.2.2.2) (h0 : Rel (s0C, (fun _ => none), [], z0C) s0M) (hs : StepAll Rel) {p : Program} {e : Env} {s : State} {m : MethodId} {below : List Frame} {meth : Method} {c : Code} (l : Launch) {b L : Nat} {xs : Nat → Int32} (hL : L ≤ 3584) (C0 : lw_At p s m meth c b L xs) : W p l e room_1 s m #[Value.ref b] below meth c s.heap [] 0 0 (lw_Z below #[Value.ref b] s) (entryFrame m ([Value.ref b] : List Value).toArray 4) := by
  obtain ⟨hx, hb, hr, hml, hown, hts0, hX, hbl, hlocks, hgv⟩ := id C0
  have hts : ∀ w ∈ wsL_law, w.before #[Value.ref b] s = true := fun w h => hts0 w (wsL_law_in w h)
  have hA : ∀ q : Nat, s.heap.size ≤ q → sA s q := fun _ h => h
  have hbA : ¬ sA s b := Nat.not_le.mpr hbl
  obtain ⟨c0, iS0, hKn0⟩ := u_known (C := RX0) (T := TX0) (N := 2) (n := 2) hts0 lwxX0 (hts0 (.instantiable RX0 2) (by decide +kernel))
  obtain ⟨c1, iS1, hKn1⟩ := u_known (C := RX1) (T := TX1) (N := 2) (n := 2) hts0 lwxX1 (hts0 (.instantiable RX1 2) (by decide +kernel))
  obtain ⟨c2, iS2, hKn2⟩ := u_known (C := RX2) (T := TX2) (N := 2) (n := 2) hts0 lwxX2 (hts0 (.instantiable RX2 2) (by decide +kernel))
  obtain ⟨c3, iS3, hKn3⟩ := u_known (C := RX3) (T := TX3) (N := 2) (n := 2) hts0 lwxX3 (hts0 (.instantiable RX3 2) (by decide +kernel))
  obtain ⟨c4, iS4, hKn4⟩ := u_known (C := RX4) (T := TX4) (N := 3) (n := 3) hts0 lwxX4 (hts0 (.instantiable RX4 3) (by decide +kernel))
  obtain ⟨c5, iS5, hKn5⟩ := u_known (C := RX5) (T := TX5) (N := 2) (n := 2) hts0 lwxX5 (hts0 (.instantiable RX5 2) (by decide +kernel))
  obtain ⟨c6, iS6, hKn6⟩ := u_known (C := RX7) (T := TX7) (N := 3) (n := 3) hts0 lwxX7 (hts0 (.instantiable RX7 3) (by decide +kernel))
  obtain ⟨c7, iS7, hKn7⟩ := u_known (C := RX8) (T := TX8) (N := 3) (n := 3) hts0 lwxX8 (hts0 (.instantiable RX8 3) (by decide +kernel))
  obtain ⟨c8, iS8, hKn8⟩ := u_known (C := RX9) (T := TX9) (N := 3) (n := 3) hts0 lwxX9 (hts0 (.instantiable RX9 3) (by decide +kernel))
  obtain ⟨c9, iS9, hKn9⟩ := u_known (C := RX10) (T := TX10) (N := 14) (n := 14) hts0 lwxX10 (hts0 (.instantiable RX10 14) (by decide +kernel))
  obtain ⟨c10, iS10, hKn10⟩ := u_known (C := RX11) (T := TX11) (N := 5) (n := 5) hts0 lwxX11 (hts0 (.instantiable RX11 5) (by decide +kernel))
  obtain ⟨c11, iS11, hKn11⟩ := u_known (C := RX12) (T := TX12) (N := 27) (n := 27) hts0 lwxX12 (hts0 (.instantiable RX12 27) (by decide +kernel))
  obtain ⟨dC, dI, hKc⟩ : ∃ (dC : Nat → ClassId) (dI : Nat → Nat → Nat), ∀ (k : Nat) (q : vw_C), vwCl[k]? = some q → u_Kn s q.1 q.2.1 q.2.2 (dC k) (dI k) := by
    refine ⟨fun k => if k = 0 then c0 else if k = 1 then c1 else if k = 2 then c2 else if k = 3 then c3 else if k = 4 then c4 else if k = 5 then c5 else if k = 6 then c6 else if k = 7 then c7 else if k = 8 then c8 else if k = 9 then c9 else if k = 10 then c10 else c11, fun k => if k = 0 then iS0 else if k = 1 then iS1 else if k = 2 then iS2 else if k = 3 then iS3 else if k = 4 then iS4 else if k = 5 then iS5 else if k = 6 then iS6 else if k = 7 then iS7 else if k = 8 then iS8 else if k = 9 then iS9 else if k = 10 then iS10 else iS11, ?_⟩
    intro k q hq
    match k, hq with
    | 0, hq => cases hq; exact hKn0
    | 1, hq => cases hq; exact hKn1
    | 2, hq => cases hq; exact hKn2
    | 3, hq => cases hq; exact hKn3
    | 4, hq => cases hq; exact hKn4
    | 5, hq => cases hq; exact hKn5
    | 6, hq => cases hq; exact hKn6
    | 7, hq => cases hq; exact hKn7
    | 8, hq => cases hq; exact hKn8
    | 9, hq => cases hq; exact hKn9
    | 10, hq => cases hq; exact hKn10
    | 11, hq => cases hq; exact hKn11
    | k + 12, hq => simp [vwCl] at hq
  have hArr : ∀ w ∈ lw_tbl, w.before #[Value.ref b] s = true := hts0
  obtain ⟨d0, k0, p0', f0, g0, e0⟩ := Cond.arrayClass_spec (hts0 (.arrayClass .int) (by decide +kernel))
  obtain ⟨d1, k1, p1', f1, g1, e1⟩ := Cond.arrayClass_spec (hts0 (.arrayClass .boolean) (by decide +kernel))
  have hao2 : va_AO "SandPalace$Shape" s := va_AO.of (hts0 (.arrayOver (.object "SandPalace$Shape")) (by decide +kernel))
  have hao3 : va_AO "SandPalace$Sheet" s := va_AO.of (hts0 (.arrayOver (.object "SandPalace$Sheet")) (by decide +kernel))
  have hao4 : va_AOA .int s := hts0 (.arrayOver (.array .int)) (by decide +kernel)
  obtain ⟨p2', d2, k2, q2, -, g2, e2, f2⟩ := Cond.arrayOver_spec hao2
  obtain ⟨p3', d3, k3, q3, -, g3, e3, f3⟩ := Cond.arrayOver_spec hao3
  obtain ⟨d4, k4, p4', f4, g4, e4⟩ := aoa_spec hao4
  have hgvs := flat_of_before _ hgv
  obtain ⟨cs, hcs⟩ : ∃ cs : Nat → ClassId, cs = (fun k => if k = 0 then d0 else if k = 1 then d1 else if k = 2 then d2 else if k = 3 then d3 else d4) := ⟨_, rfl⟩
  have hK1 : va_K (dC, dI) vwCl (TY cs) s := by
    subst hcs
    refine ⟨hKc, fun k q hq => ?_⟩
    match k, hq with
    | 0, hq => cases hq; exact ⟨arrOfT_of g0 e0, f0⟩
    | 1, hq => cases hq; exact ⟨arrOfT_of g1 e1, f1⟩
    | 2, hq => cases hq; exact ⟨arrOfT_of g2 e2, k2, p2', g2, e2, q2, f2⟩
    | 3, hq => cases hq; exact ⟨arrOfT_of g3 e3, k3, p3', g3, e3, q3, f3⟩
    | 4, hq => cases hq; exact ⟨arrOfT_of g4 e4, f4⟩
    | k + 5, hq => simp [TY] at hq
  have hNm : ∀ q ∈ NWm, va_Nw (.methodLinkNest q.1 q.2.1 q.2.2.1 q.2.2.2) s := List.forall_mem_cons.mpr ⟨va_Nw.of rfl (hts0 (.methodLinkNest "SandPalace" 9 yX4_init "SandPalace") (by decide +kernel)), List.forall_mem_cons.mpr ⟨va_Nw.of rfl (hts0 (.methodLinkNest "SandPalace" 18 yX10_init "SandPalace") (by decide +kernel)), List.forall_mem_cons.mpr ⟨va_Nw.of rfl (hts0 (.methodLinkNest "SandPalace" 25 yX3_init "SandPalace") (by decide +kernel)), List.forall_mem_cons.mpr ⟨va_Nw.of rfl (hts0 (.methodLinkNest "SandPalace" 32 yX9_init "SandPalace") (by decide +kernel)), List.forall_mem_cons.mpr ⟨va_Nw.of rfl (hts0 (.methodLinkNest "SandPalace" 43 yX7_init "SandPalace") (by decide +kernel)), List.forall_mem_cons.mpr ⟨va_Nw.of rfl (hts0 (.methodLinkNest "SandPalace$Picture" 25 yX11_within "SandPalace") (by decide +kernel)), List.forall_mem_cons.mpr ⟨va_Nw.of rfl (hts0 (.methodLinkNest "SandPalace$Sign" 16 yX11_shifted "SandPalace") (by decide +kernel)), List.forall_mem_cons.mpr ⟨va_Nw.of rfl (hts0 (.methodLinkNest "SandPalace$Photo" 18 yX11_cellOf "SandPalace") (by decide +kernel)), List.forall_mem_cons.mpr ⟨va_Nw.of rfl (hts0 (.methodLinkNest "SandPalace$Photo" 31 yX11_shifted "SandPalace") (by decide +kernel)), List.forall_mem_cons.mpr ⟨va_Nw.of rfl (hts0 (.methodLinkNest "SandPalace$Photo" 45 yX11_placeOf "SandPalace") (by decide +kernel)), List.forall_mem_cons.mpr ⟨va_Nw.of rfl (hts0 (.methodLinkNest "SandPalace$Photo" 53 yX11_within "SandPalace") (by decide +kernel)), fun _ h => absurd h List.not_mem_nil⟩⟩⟩⟩⟩⟩⟩⟩⟩⟩⟩
  have hNc : ∀ q ∈ NWc, va_Nw (.castable q.1 q.2) s := List.forall_mem_cons.mpr ⟨va_Nw.of rfl (hts0 (.castable "SandPalace$Block" "SandPalace$Shape") (by decide +kernel)), List.forall_mem_cons.mpr ⟨va_Nw.of rfl (hts0 (.castable "SandPalace$Disc" "SandPalace$Shape") (by decide +kernel)), List.forall_mem_cons.mpr ⟨va_Nw.of rfl (hts0 (.castable "SandPalace$Line" "SandPalace$Shape") (by decide +kernel)), List.forall_mem_cons.mpr ⟨va_Nw.of rfl (hts0 (.castable "SandPalace$Rim" "SandPalace$Shape") (by decide +kernel)), List.forall_mem_cons.mpr ⟨va_Nw.of rfl (hts0 (.castable "SandPalace$Sign" "SandPalace$Shape") (by decide +kernel)), List.forall_mem_cons.mpr ⟨va_Nw.of rfl (hts0 (.castable "SandPalace$Sign" "SandPalace$Block") (by decide +kernel)), fun _ h => absurd h List.not_mem_nil⟩⟩⟩⟩⟩⟩
  have hNn : ∀ q ∈ NWn, va_Nc q.1 q.2 s := List.forall_mem_cons.mpr ⟨va_Nc.of (hgvs (.not (.castable "SandPalace$Block" "SandPalace$Sign")) (by decide +kernel)), List.forall_mem_cons.mpr ⟨va_Nc.of (hgvs (.not (.castable "SandPalace$Disc" "SandPalace$Sign")) (by decide +kernel)), List.forall_mem_cons.mpr ⟨va_Nc.of (hgvs (.not (.castable "SandPalace$Line" "SandPalace$Sign")) (by decide +kernel)), List.forall_mem_cons.mpr ⟨va_Nc.of (hgvs (.not (.castable "SandPalace$Rim" "SandPalace$Sign")) (by decide +kernel)), List.forall_mem_cons.mpr ⟨va_Nc.of (hgvs (.not (.castable "SandPalace$Disc" "SandPalace$Block")) (by decide +kernel)), List.forall_mem_cons.mpr ⟨va_Nc.of (hgvs (.not (.castable "SandPalace$Line" "SandPalace$Block")) (by decide +kernel)), List.forall_mem_cons.mpr ⟨va_Nc.of (hgvs (.not (.castable "SandPalace$Rim" "SandPalace$Block")) (by decide +kernel)), fun _ h => absurd h List.not_mem_nil⟩⟩⟩⟩⟩⟩⟩
  have hK : KK (dC, dI) cs s := ⟨hK1, hNm, va_Nw.of rfl (hts0 (.fieldLinkNest "SandPalace$Sweeper" 25 "SandPalace" "GATES" "[I" "SandPalace") (by decide +kernel)), hNc, hNn, hao2, hao3, va_Nw.of rfl (hts0 (.declares ⟨"SandPalace$Shape", "kind", "()I"⟩) (by decide +kernel)), hao4⟩
  have hnA : ∀ a : Nat, a < s.heap.size → ¬ sA s a := fun a h q => absurd h (Nat.not_lt.mpr q)
  obtain ⟨tg, htg, hT⟩ := va_Tof (tm := .static "SandPalace" "GATES" "[I") (ty := .int) (N := 4) (f := fun j => .int (gates j)) (A := sA s) (by decide) (hgvs (.arrayOf (.static "SandPalace" "GATES" "[I") .int) (by decide +kernel)) (va_eqt (hgvs (.eq (.length (.static "SandPalace" "GATES" "[I")) (.int 4)) (by decide +kernel))) (fun j hj => by
    rcases (show j = 0 ∨ j = 1 ∨ j = 2 ∨ j = 3 by omega) with rfl | rfl | rfl | rfl
    · exact va_eqt (hgvs (.eq (.elem (.static "SandPalace" "GATES" "[I") (.int 0)) (.int 1)) (by decide +kernel))
    · exact va_eqt (hgvs (.eq (.elem (.static "SandPalace" "GATES" "[I") (.int 1)) (.int 7)) (by decide +kernel))
    · exact va_eqt (hgvs (.eq (.elem (.static "SandPalace" "GATES" "[I") (.int 2)) (.int 14)) (by decide +kernel))
    · exact va_eqt (hgvs (.eq (.elem (.static "SandPalace" "GATES" "[I") (.int 3)) (.int 8)) (by decide +kernel))) hnA
  have hG : GT (sA s) s := ⟨tg, va_Zref (hts0 (.laysStatic "SandPalace" "GATES" "[I") (by decide +kernel)) (hts0 (.initialized "SandPalace") (by decide +kernel)) htg hnA, hT⟩
  have hS : va_S (sA s) s.heap s.heap [] := va_S.rf
  have hP : va_P (dC, dI) vwCl [] s.heap := fun k q h => by simp at h
  have hD : va_D (sA s) [] := ⟨fun i j p q h => by simp at h, fun k q h => by simp at h⟩
  refine entryW [.ref b] (n := 4) (Nat.le_of_ble_eq_true rfl) (fun ls hl => ?_)
  have hl : lv_has ls 4 [(0, .ref b)] := hl
  refine va_new (ci := 10) (fs := [.null, .null, .null, .null, .null]) (C := RX11) (T := TX11) (N := 5) hx hb hts0 lwxX11 tyX11 tyX11_ok hown (hts (.classLink RL 7 RX11) (by decide +kernel)) (hts0 (.instantiable RX11 5) (by decide +kernel)) (hts0 (.initialized RX11) (by decide +kernel)) hK.1 hP hD hS hA rfl (fun j hj => by rcases (show j = 0 ∨ j = 1 ∨ j = 2 ∨ j = 3 ∨ j = 4 by omega) with rfl | rfl | rfl | rfl | rfl <;> rfl) (Nat.le_of_ble_eq_true rfl) (Nat.le_of_ble_eq_true rfl) dL_law_0 (fun qC H hP hD hS => ?_)
  refine W.widen (k := 1) (n := 5) (Nat.le_refl _) (Nat.le_refl _) ?_
  refine lv_dup hx hb dL_law_3 rfl ?_
  refine mcallK (ws := []) (w2 := fun y : Nat → Nat => cW y cs (fun _ => none) [] z0C s0C) (va_runI (As := []) (rest := [.ref qC]) ⟨hx, hb, hml, hown, hts⟩ (kX11_init l (dC, dI) cs qC _) (cwI 0 hts gL_law_X11_init rfl rfl rfl (hts0 (.initialized RX11) (by decide +kernel)) (hts (.methodLink RL 9 yX11_init) (by decide +kernel)) (hts (.instanceMethod yX11_init) (by decide +kernel)) rfl (by decide +kernel) ⟨Nat.le_of_ble_eq_true rfl, Nat.le_of_ble_eq_true rfl⟩) (pQ_s hP hK hD) rfl rfl hl.1 rfl (lv_room (Nat.le_of_ble_eq_true rfl)) dL_law_4 ⟨Nat.le_of_ble_eq_true rfl, Nat.le_of_ble_eq_true rfl⟩) hP hD hS hA (fun aC H locs haC hP hD hS => ?_)
  refine W.widen (k := 33) (n := 4551) (Nat.le_refl _) (Nat.le_refl _) ?_
  refine lv_astore_n (lv' := [(1, .ref qC), (0, .ref b)]) hx hb dL_law_7 rfl hl (by decide) rfl (fun ls hl => ?_)
  have hP : va_P (dC, dI) vwCl (cW aC cs (fun _ => none) [] z0C s0C) H := hP
  have hD : va_D (sA s) (cW aC cs (fun _ => none) [] z0C s0C) := hD
  refine va_new (ci := 11) (fs := [.int 0, .null, .null, .null, .null, .null, .null, .null, .null, .null, .null, .null, .int 0, .int 0, .null, .null, .int 0, .null, .null, .null, .null, .int 0, .int 0, .null, .null, .null, .null]) (C := RX12) (T := TX12) (N := 27) hx hb hts0 lwxX12 tyX12 tyX12_ok hown (hts (.classLink RL 10 RX12) (by decide +kernel)) (hts0 (.instantiable RX12 27) (by decide +kernel)) (hts0 (.initialized RX12) (by decide +kernel)) hK.1 hP hD hS hA rfl (fun j hj => by rcases (show j = 0 ∨ j = 1 ∨ j = 2 ∨ j = 3 ∨ j = 4 ∨ j = 5 ∨ j = 6 ∨ j = 7 ∨ j = 8 ∨ j = 9 ∨ j = 10 ∨ j = 11 ∨ j = 12 ∨ j = 13 ∨ j = 14 ∨ j = 15 ∨ j = 16 ∨ j = 17 ∨ j = 18 ∨ j = 19 ∨ j = 20 ∨ j = 21 ∨ j = 22 ∨ j = 23 ∨ j = 24 ∨ j = 25 ∨ j = 26 by omega) with rfl | rfl | rfl | rfl | rfl | rfl | rfl | rfl | rfl | rfl | rfl | rfl | rfl | rfl | rfl | rfl | rfl | rfl | rfl | rfl | rfl | rfl | rfl | rfl | rfl | rfl | rfl <;> rfl) (Nat.le_of_ble_eq_true rfl) (Nat.le_of_ble_eq_true rfl) dL_law_8 (fun qM H hP hD hS => ?_)
  refine W.widen (k := 34) (n := 4578) (Nat.le_refl _) (Nat.le_refl _) ?_
  refine lv_dup hx hb dL_law_11 rfl ?_
  refine mcallK (ws := cW aC cs (fun _ => none) [] z0C s0C) (w2 := fun y : Nat → Nat => mW y cs s0M) (va_runI (As := []) (rest := [.ref qM]) ⟨hx, hb, hml, hown, hts⟩ (kX12_init l (dC, dI) cs qM _) (cwI 0 hts gL_law_X12_init rfl rfl rfl (hts0 (.initialized RX12) (by decide +kernel)) (hts (.methodLink RL 12 yX12_init) (by decide +kernel)) (hts (.instanceMethod yX12_init) (by decide +kernel)) rfl (by decide +kernel) ⟨Nat.le_of_ble_eq_true rfl, Nat.le_of_ble_eq_true rfl⟩) (pQ_s (subP hP) hK (subD hD)) rfl rfl hl.1 rfl (lv_room (Nat.le_of_ble_eq_true rfl)) dL_law_12 ⟨Nat.le_of_ble_eq_true rfl, Nat.le_of_ble_eq_true rfl⟩) hP hD hS hA (fun aM H locs haM hP hD hS => ?_)
  refine W.widen (k := 100 + 0) (n := 12000 + 3 * 0) (by decide) (by decide) ?_
  refine lv_astore_n (lv' := [(2, .ref qM), (1, .ref qC), (0, .ref b)]) hx hb dL_law_15 rfl hl (by decide) rfl (fun ls hl => ?_)
  refine lv_iconst (v := (0 : Int32)) hx hb dL_law_16 (by decide) ?_
  refine lv_istore_n (lv' := [(3, .int (0 : Int32)), (2, .ref qM), (1, .ref qC), (0, .ref b)]) hx hb dL_law_17 rfl hl (by decide) rfl (fun ls hl => ?_)
  have haC : aC 0 = qC := haC
  have haM : aM 0 = qM := haM
  rw [← haC, ← haM] at hl
  exact law_loop hL C0 hK hG hOK hs (L + 8) 0 0 (s0C, (fun _ => none), [], z0C) s0M H locs ls (by omega) (Nat.zero_le _) nI_0.symm h0 (va_Pl hP) (va_Dl hD) (va_Pr hP) (va_Dr hD) (va_Dj hD) hS (lv_sub hl [3, 2, 1, 0] rfl)
