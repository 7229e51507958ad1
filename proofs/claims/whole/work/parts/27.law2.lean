set_option maxHeartbeats 4000000 in
set_option maxRecDepth 100000 in
theorem law_poured {p : Program} {l : Launch} {e : Env} {s : State} {m : MethodId} {below : List Frame} {meth : Method} {c : Code} {b L : Nat} {xs : Nat → Int32} (hL : L ≤ 3584) (C0 : lw_At p s m meth c b L xs) {D : va_G} {cs : Nat → ClassId} (hK : KK D cs s) (hG : GT (sA s) s) {aC aM : Nat → Nat} {Rel : SS → (Nat → Nat → Int32) → Prop} (hOK : ∀ u v, Rel u v → shOK u.2.1 u.2.2.1 u.2.2.2) (hs : st_poured Rel) (i : Nat) (hi : i + 7 ≤ L) (x3 : Int32) (ex3 : x3 = nI i) (u : SS) (v : Nat → Nat → Int32) (hR : Rel u v) (H : Heap) (locs : List Loc) (ls : Array Slot) (hP1 : va_P D vwCl (cWs aC cs u) H) (hD1 : va_D (sA s) (cWs aC cs u)) (hP2 : va_P D vwCl (mW aM cs v) H) (hD2 : va_D (sA s) (mW aM cs v)) (hdj : dj (cWs aC cs u) (mW aM cs v)) (hS : va_S (sA s) s.heap H locs) (hl : lv_has ls 4 [(0, .ref b), (1, .ref (aC 0)), (2, .ref (aM 0)), (3, .int x3)]) (kk : ∀ (u : SS) (v : Nat → Nat → Int32) (H : Heap) (locs : List Loc) (ls : Array Slot), Rel u v → va_P D vwCl (cWs aC cs u) H → va_D (sA s) (cWs aC cs u) → va_P D vwCl (mW aM cs v) H → va_D (sA s) (mW aM cs v) → dj (cWs aC cs u) (mW aM cs v) → va_S (sA s) s.heap H locs → lv_has ls 4 [(0, .ref b), (1, .ref (aC 0)), (2, .ref (aM 0)), (3, .int x3)] → W p l e room_1 s m #[Value.ref b] below meth c H locs (100 + (i + 7)) (12000 + 3 * (i + 7)) (lw_Z below #[Value.ref b] s) (F0 m 1371 ls [])) : W p l e room_1 s m #[Value.ref b] below meth c H locs (100 + i) (12000 + 3 * i) (lw_Z below #[Value.ref b] s) (F0 m 777 ls []) := by
  obtain ⟨hx, hb, hr, hml, hown, hts0, hX, hbl, hlocks, hgv⟩ := id C0
  have hts : ∀ w ∈ wsL_law, w.before #[Value.ref b] s = true := fun w h => hts0 w (wsL_law_in w h)
  have hA : ∀ q : Nat, s.heap.size ≤ q → sA s q := fun _ h => h
  have hbA : ¬ sA s b := Nat.not_le.mpr hbl
  obtain ⟨σ, sh, LP, Z⟩ := u
  have hZ : shOK sh LP Z := hOK _ _ hR
  have hP1 : va_P D vwCl (cW aC cs sh LP Z σ) H := hP1
  have hD1 : va_D (sA s) (cW aC cs sh LP Z σ) := hD1
  obtain ⟨F, r, σ2, v2, hcx, hcm, hpost⟩ := hs (σ, sh, LP, Z) v (xs (x3 + (1 : Int32)).toNatClampNeg) hR
  refine lv_aload_n hx hb dL_law_777 rfl (lv_at hl 1 rfl) ?_
  refine lv_aload_n hx hb dL_law_778 rfl (lv_at hl 0 rfl) ?_
  refine lv_iload_n hx hb dL_law_779 rfl (lv_at hl 3 rfl) ?_
  refine lv_iconst (v := (1 : Int32)) hx hb dL_law_780 (by decide) ?_
  refine lv_iadd hx hb dL_law_781 ?_
  refine va_sld hx hb hX hbl hbA hS (lw_in ex3 hi hL (k := 1) (by decide) rfl) dL_law_782 ?_
  refine lcall (wf := (cW aC cs sh LP Z)) (wr := mW aM cs v) (va_runV (As := [.int (xs (x3 + (1 : Int32)).toNatClampNeg)]) (rest := []) ⟨hx, hb, hml, hown, hts⟩ (kX11_poured l D cs aC sh LP Z hZ σ F (xs (x3 + (1 : Int32)).toNatClampNeg) r σ2 hcx _) (cwV 1 hts gL_law_X11_poured rfl rfl rfl (by decide +kernel) ⟨Nat.le_of_ble_eq_true rfl, Nat.le_of_ble_eq_true rfl⟩) (pQ_v hP1 hK hD1 (va_recv hK.1 hP1 (ci := 10) (q0 := 0) rfl rfl)) rfl rfl hl.1 rfl (lv_room (Nat.le_of_ble_eq_true rfl)) dL_law_783 ⟨by show 100 + i + 0 ≤ 600000; omega, by show 12000 + 3 * i + 0 ≤ room_1.slots; have := rs_ge; omega⟩) hD1 hP2 hdj hS hA (fun r9 u9 H locs hw hP1 hD1 hP2 hdj hS => ?_)
  obtain ⟨rfl, rfl⟩ := hw
  refine lv_aload_n hx hb dL_law_786 rfl (lv_at hl 2 rfl) ?_
  refine lv_aload_n hx hb dL_law_787 rfl (lv_at hl 0 rfl) ?_
  refine lv_iload_n hx hb dL_law_788 rfl (lv_at hl 3 rfl) ?_
  refine lv_iconst (v := (1 : Int32)) hx hb dL_law_789 (by decide) ?_
  refine lv_iadd hx hb dL_law_790 ?_
  refine va_sld hx hb hX hbl hbA hS (lw_in ex3 hi hL (k := 1) (by decide) rfl) dL_law_791 ?_
  refine lcall (wf := (mW aM cs)) (wr := (cW aC cs sh LP Z u9)) (va_runV (As := [.int (xs (x3 + (1 : Int32)).toNatClampNeg)]) (rest := [.int r9]) ⟨hx, hb, hml, hown, hts⟩ (kX12_poured l D cs aM v F (xs (x3 + (1 : Int32)).toNatClampNeg) r9 v2 hcm _) (cwV 1 hts gL_law_X12_poured rfl rfl rfl (by decide +kernel) ⟨Nat.le_of_ble_eq_true rfl, Nat.le_of_ble_eq_true rfl⟩) (pQ_v hP2 hK hD2 (va_recv hK.1 hP2 (ci := 11) (q0 := 0) rfl rfl)) rfl rfl hl.1 rfl (lv_room (Nat.le_of_ble_eq_true rfl)) dL_law_792 ⟨by show 100 + i + 0 + 0 ≤ 600000; omega, by show 12000 + 3 * i + 0 + 0 ≤ room_1.slots; have := rs_ge; omega⟩) hD2 hP1 hdj.symm hS hA (fun r8 v8 H locs hw hP2 hD2 hP1 hdj2 hS => ?_)
  obtain ⟨rfl, rfl⟩ := hw
  have hdj := hdj2.symm
  refine lv_icmp_eq (tgt := 1371) hx hb dL_law_795 (by decide) (fun _ => ?_) (fun c9 => absurd rfl c9)
  refine W.widen (k := 100 + (i + 7)) (n := 12000 + 3 * (i + 7)) (by omega) (by omega) ?_
  exact kk _ _ _ _ _ hpost hP1 hD1 hP2 hD2 hdj hS hl
set_option maxHeartbeats 4000000 in
set_option maxRecDepth 100000 in
theorem law_photo {p : Program} {l : Launch} {e : Env} {s : State} {m : MethodId} {below : List Frame} {meth : Method} {c : Code} {b L : Nat} {xs : Nat → Int32} (hL : L ≤ 3584) (C0 : lw_At p s m meth c b L xs) {D : va_G} {cs : Nat → ClassId} (hK : KK D cs s) (hG : GT (sA s) s) {aC aM : Nat → Nat} {Rel : SS → (Nat → Nat → Int32) → Prop} (hOK : ∀ u v, Rel u v → shOK u.2.1 u.2.2.1 u.2.2.2) (hs : st_photo Rel) (i : Nat) (hi : i + 7 ≤ L) (x3 : Int32) (ex3 : x3 = nI i) (u : SS) (v : Nat → Nat → Int32) (hR : Rel u v) (H : Heap) (locs : List Loc) (ls : Array Slot) (hP1 : va_P D vwCl (cWs aC cs u) H) (hD1 : va_D (sA s) (cWs aC cs u)) (hP2 : va_P D vwCl (mW aM cs v) H) (hD2 : va_D (sA s) (mW aM cs v)) (hdj : dj (cWs aC cs u) (mW aM cs v)) (hS : va_S (sA s) s.heap H locs) (hl : lv_has ls 4 [(0, .ref b), (1, .ref (aC 0)), (2, .ref (aM 0)), (3, .int x3)]) (kk : ∀ (u : SS) (v : Nat → Nat → Int32) (H : Heap) (locs : List Loc) (ls : Array Slot), Rel u v → va_P D vwCl (cWs aC cs u) H → va_D (sA s) (cWs aC cs u) → va_P D vwCl (mW aM cs v) H → va_D (sA s) (mW aM cs v) → dj (cWs aC cs u) (mW aM cs v) → va_S (sA s) s.heap H locs → lv_has ls 4 [(0, .ref b), (1, .ref (aC 0)), (2, .ref (aM 0)), (3, .int x3)] → W p l e room_1 s m #[Value.ref b] below meth c H locs (100 + (i + 7)) (12000 + 3 * (i + 7)) (lw_Z below #[Value.ref b] s) (F0 m 1371 ls [])) : W p l e room_1 s m #[Value.ref b] below meth c H locs (100 + i) (12000 + 3 * i) (lw_Z below #[Value.ref b] s) (F0 m 800 ls []) := by
  obtain ⟨hx, hb, hr, hml, hown, hts0, hX, hbl, hlocks, hgv⟩ := id C0
  have hts : ∀ w ∈ wsL_law, w.before #[Value.ref b] s = true := fun w h => hts0 w (wsL_law_in w h)
  have hA : ∀ q : Nat, s.heap.size ≤ q → sA s q := fun _ h => h
  have hbA : ¬ sA s b := Nat.not_le.mpr hbl
  obtain ⟨σ, sh, LP, Z⟩ := u
  have hZ : shOK sh LP Z := hOK _ _ hR
  have hP1 : va_P D vwCl (cW aC cs sh LP Z σ) H := hP1
  have hD1 : va_D (sA s) (cW aC cs sh LP Z σ) := hD1
  obtain ⟨F, r, σ2, v2, hcx, hcm, hpost⟩ := hs (σ, sh, LP, Z) v  hR
  refine lv_aload_n hx hb dL_law_800 rfl (lv_at hl 1 rfl) ?_
  refine lcall (wf := (cW aC cs sh LP Z)) (wr := mW aM cs v) (va_runV (As := []) (rest := []) ⟨hx, hb, hml, hown, hts⟩ (kX11_photo l D cs aC sh LP Z hZ σ F  r σ2 hcx _) (cwV 0 hts gL_law_X11_photo rfl rfl rfl (by decide +kernel) ⟨Nat.le_of_ble_eq_true rfl, Nat.le_of_ble_eq_true rfl⟩) (pQ_v hP1 hK hD1 (va_recv hK.1 hP1 (ci := 10) (q0 := 0) rfl rfl)) rfl rfl hl.1 rfl (lv_room (Nat.le_of_ble_eq_true rfl)) dL_law_801 ⟨by show 100 + i + 0 ≤ 600000; omega, by show 12000 + 3 * i + 0 ≤ room_1.slots; have := rs_ge; omega⟩) hD1 hP2 hdj hS hA (fun r9 u9 H locs hw hP1 hD1 hP2 hdj hS => ?_)
  obtain ⟨rfl, rfl⟩ := hw
  refine lv_aload_n hx hb dL_law_804 rfl (lv_at hl 2 rfl) ?_
  refine lcall (wf := (mW aM cs)) (wr := (cW aC cs sh LP Z u9)) (va_runV (As := []) (rest := [.int r9]) ⟨hx, hb, hml, hown, hts⟩ (kX12_photo l D cs aM v F  r9 v2 hcm _) (cwV 0 hts gL_law_X12_photo rfl rfl rfl (by decide +kernel) ⟨Nat.le_of_ble_eq_true rfl, Nat.le_of_ble_eq_true rfl⟩) (pQ_v hP2 hK hD2 (va_recv hK.1 hP2 (ci := 11) (q0 := 0) rfl rfl)) rfl rfl hl.1 rfl (lv_room (Nat.le_of_ble_eq_true rfl)) dL_law_805 ⟨by show 100 + i + 0 + 0 ≤ 600000; omega, by show 12000 + 3 * i + 0 + 0 ≤ room_1.slots; have := rs_ge; omega⟩) hD2 hP1 hdj.symm hS hA (fun r8 v8 H locs hw hP2 hD2 hP1 hdj2 hS => ?_)
  obtain ⟨rfl, rfl⟩ := hw
  have hdj := hdj2.symm
  refine lv_icmp_eq (tgt := 1371) hx hb dL_law_808 (by decide) (fun _ => ?_) (fun c9 => absurd rfl c9)
  refine W.widen (k := 100 + (i + 7)) (n := 12000 + 3 * (i + 7)) (by omega) (by omega) ?_
  exact kk _ _ _ _ _ hpost hP1 hD1 hP2 hD2 hdj hS hl
set_option maxHeartbeats 4000000 in
set_option maxRecDepth 100000 in
theorem law_smear {p : Program} {l : Launch} {e : Env} {s : State} {m : MethodId} {below : List Frame} {meth : Method} {c : Code} {b L : Nat} {xs : Nat → Int32} (hL : L ≤ 3584) (C0 : lw_At p s m meth c b L xs) {D : va_G} {cs : Nat → ClassId} (hK : KK D cs s) (hG : GT (sA s) s) {aC aM : Nat → Nat} {Rel : SS → (Nat → Nat → Int32) → Prop} (hOK : ∀ u v, Rel u v → shOK u.2.1 u.2.2.1 u.2.2.2) (hs : st_smear Rel) (i : Nat) (hi : i + 7 ≤ L) (x3 : Int32) (ex3 : x3 = nI i) (u : SS) (v : Nat → Nat → Int32) (hR : Rel u v) (H : Heap) (locs : List Loc) (ls : Array Slot) (hP1 : va_P D vwCl (cWs aC cs u) H) (hD1 : va_D (sA s) (cWs aC cs u)) (hP2 : va_P D vwCl (mW aM cs v) H) (hD2 : va_D (sA s) (mW aM cs v)) (hdj : dj (cWs aC cs u) (mW aM cs v)) (hS : va_S (sA s) s.heap H locs) (hl : lv_has ls 4 [(0, .ref b), (1, .ref (aC 0)), (2, .ref (aM 0)), (3, .int x3)]) (kk : ∀ (u : SS) (v : Nat → Nat → Int32) (H : Heap) (locs : List Loc) (ls : Array Slot), Rel u v → va_P D vwCl (cWs aC cs u) H → va_D (sA s) (cWs aC cs u) → va_P D vwCl (mW aM cs v) H → va_D (sA s) (mW aM cs v) → dj (cWs aC cs u) (mW aM cs v) → va_S (sA s) s.heap H locs → lv_has ls 4 [(0, .ref b), (1, .ref (aC 0)), (2, .ref (aM 0)), (3, .int x3)] → W p l e room_1 s m #[Value.ref b] below meth c H locs (100 + (i + 7)) (12000 + 3 * (i + 7)) (lw_Z below #[Value.ref b] s) (F0 m 1371 ls [])) : W p l e room_1 s m #[Value.ref b] below meth c H locs (100 + i) (12000 + 3 * i) (lw_Z below #[Value.ref b] s) (F0 m 813 ls []) := by
  obtain ⟨hx, hb, hr, hml, hown, hts0, hX, hbl, hlocks, hgv⟩ := id C0
  have hts : ∀ w ∈ wsL_law, w.before #[Value.ref b] s = true := fun w h => hts0 w (wsL_law_in w h)
  have hA : ∀ q : Nat, s.heap.size ≤ q → sA s q := fun _ h => h
  have hbA : ¬ sA s b := Nat.not_le.mpr hbl
  obtain ⟨σ, sh, LP, Z⟩ := u
  have hZ : shOK sh LP Z := hOK _ _ hR
  have hP1 : va_P D vwCl (cW aC cs sh LP Z σ) H := hP1
  have hD1 : va_D (sA s) (cW aC cs sh LP Z σ) := hD1
  obtain ⟨F, r, σ2, v2, hcx, hcm, hpost⟩ := hs (σ, sh, LP, Z) v (xs (x3 + (1 : Int32)).toNatClampNeg) (xs (x3 + (2 : Int32)).toNatClampNeg) hR
  refine lv_aload_n hx hb dL_law_813 rfl (lv_at hl 1 rfl) ?_
  refine lv_aload_n hx hb dL_law_814 rfl (lv_at hl 0 rfl) ?_
  refine lv_iload_n hx hb dL_law_815 rfl (lv_at hl 3 rfl) ?_
  refine lv_iconst (v := (1 : Int32)) hx hb dL_law_816 (by decide) ?_
  refine lv_iadd hx hb dL_law_817 ?_
  refine va_sld hx hb hX hbl hbA hS (lw_in ex3 hi hL (k := 1) (by decide) rfl) dL_law_818 ?_
  refine lv_aload_n hx hb dL_law_819 rfl (lv_at hl 0 rfl) ?_
  refine lv_iload_n hx hb dL_law_820 rfl (lv_at hl 3 rfl) ?_
  refine lv_iconst (v := (2 : Int32)) hx hb dL_law_821 (by decide) ?_
  refine lv_iadd hx hb dL_law_822 ?_
  refine va_sld hx hb hX hbl hbA hS (lw_in ex3 hi hL (k := 2) (by decide) rfl) dL_law_823 ?_
  refine lcall (wf := (cW aC cs sh LP Z)) (wr := mW aM cs v) (va_runV (As := [.int (xs (x3 + (1 : Int32)).toNatClampNeg), .int (xs (x3 + (2 : Int32)).toNatClampNeg)]) (rest := []) ⟨hx, hb, hml, hown, hts⟩ (kX11_smear l D cs aC sh LP Z hZ σ (xs (x3 + (1 : Int32)).toNatClampNeg) (xs (x3 + (2 : Int32)).toNatClampNeg) r σ2 hcx _) (cwV 2 hts gL_law_X11_smear rfl rfl rfl (by decide +kernel) ⟨Nat.le_of_ble_eq_true rfl, Nat.le_of_ble_eq_true rfl⟩) (pQ_v hP1 hK hD1 (va_recv hK.1 hP1 (ci := 10) (q0 := 0) rfl rfl)) rfl rfl hl.1 rfl (lv_room (Nat.le_of_ble_eq_true rfl)) dL_law_824 ⟨by show 100 + i + 0 ≤ 600000; omega, by show 12000 + 3 * i + 0 ≤ room_1.slots; have := rs_ge; omega⟩) hD1 hP2 hdj hS hA (fun r9 u9 H locs hw hP1 hD1 hP2 hdj hS => ?_)
  obtain ⟨rfl, rfl⟩ := hw
  refine lv_aload_n hx hb dL_law_827 rfl (lv_at hl 2 rfl) ?_
  refine lv_aload_n hx hb dL_law_828 rfl (lv_at hl 0 rfl) ?_
  refine lv_iload_n hx hb dL_law_829 rfl (lv_at hl 3 rfl) ?_
  refine lv_iconst (v := (1 : Int32)) hx hb dL_law_830 (by decide) ?_
  refine lv_iadd hx hb dL_law_831 ?_
  refine va_sld hx hb hX hbl hbA hS (lw_in ex3 hi hL (k := 1) (by decide) rfl) dL_law_832 ?_
  refine lv_aload_n hx hb dL_law_833 rfl (lv_at hl 0 rfl) ?_
  refine lv_iload_n hx hb dL_law_834 rfl (lv_at hl 3 rfl) ?_
  refine lv_iconst (v := (2 : Int32)) hx hb dL_law_835 (by decide) ?_
  refine lv_iadd hx hb dL_law_836 ?_
  refine va_sld hx hb hX hbl hbA hS (lw_in ex3 hi hL (k := 2) (by decide) rfl) dL_law_837 ?_
  refine lcall (wf := (mW aM cs)) (wr := (cW aC cs sh LP Z u9)) (va_runV (As := [.int (xs (x3 + (1 : Int32)).toNatClampNeg), .int (xs (x3 + (2 : Int32)).toNatClampNeg)]) (rest := [.int r9]) ⟨hx, hb, hml, hown, hts⟩ (kX12_smear l D cs aM v (xs (x3 + (1 : Int32)).toNatClampNeg) (xs (x3 + (2 : Int32)).toNatClampNeg) r9 v2 hcm _) (cwV 2 hts gL_law_X12_smear rfl rfl rfl (by decide +kernel) ⟨Nat.le_of_ble_eq_true rfl, Nat.le_of_ble_eq_true rfl⟩) (pQ_v hP2 hK hD2 (va_recv hK.1 hP2 (ci := 11) (q0 := 0) rfl rfl)) rfl rfl hl.1 rfl (lv_room (Nat.le_of_ble_eq_true rfl)) dL_law_838 ⟨by show 100 + i + 0 + 0 ≤ 600000; omega, by show 12000 + 3 * i + 0 + 0 ≤ room_1.slots; have := rs_ge; omega⟩) hD2 hP1 hdj.symm hS hA (fun r8 v8 H locs hw hP2 hD2 hP1 hdj2 hS => ?_)
  obtain ⟨rfl, rfl⟩ := hw
  have hdj := hdj2.symm
  refine lv_icmp_eq (tgt := 1371) hx hb dL_law_841 (by decide) (fun _ => ?_) (fun c9 => absurd rfl c9)
  refine W.widen (k := 100 + (i + 7)) (n := 12000 + 3 * (i + 7)) (by omega) (by omega) ?_
  exact kk _ _ _ _ _ hpost hP1 hD1 hP2 hD2 hdj hS hl
set_option maxHeartbeats 4000000 in
set_option maxRecDepth 100000 in
theorem law_cat {p : Program} {l : Launch} {e : Env} {s : State} {m : MethodId} {below : List Frame} {meth : Method} {c : Code} {b L : Nat} {xs : Nat → Int32} (hL : L ≤ 3584) (C0 : lw_At p s m meth c b L xs) {D : va_G} {cs : Nat → ClassId} (hK : KK D cs s) (hG : GT (sA s) s) {aC aM : Nat → Nat} {Rel : SS → (Nat → Nat → Int32) → Prop} (hOK : ∀ u v, Rel u v → shOK u.2.1 u.2.2.1 u.2.2.2) (hs : st_cat Rel) (i : Nat) (hi : i + 7 ≤ L) (x3 : Int32) (ex3 : x3 = nI i) (u : SS) (v : Nat → Nat → Int32) (hR : Rel u v) (H : Heap) (locs : List Loc) (ls : Array Slot) (hP1 : va_P D vwCl (cWs aC cs u) H) (hD1 : va_D (sA s) (cWs aC cs u)) (hP2 : va_P D vwCl (mW aM cs v) H) (hD2 : va_D (sA s) (mW aM cs v)) (hdj : dj (cWs aC cs u) (mW aM cs v)) (hS : va_S (sA s) s.heap H locs) (hl : lv_has ls 4 [(0, .ref b), (1, .ref (aC 0)), (2, .ref (aM 0)), (3, .int x3)]) (kk : ∀ (u : SS) (v : Nat → Nat → Int32) (H : Heap) (locs : List Loc) (ls : Array Slot), Rel u v → va_P D vwCl (cWs aC cs u) H → va_D (sA s) (cWs aC cs u) → va_P D vwCl (mW aM cs v) H → va_D (sA s) (mW aM cs v) → dj (cWs aC cs u) (mW aM cs v) → va_S (sA s) s.heap H locs → lv_has ls 4 [(0, .ref b), (1, .ref (aC 0)), (2, .ref (aM 0)), (3, .int x3)] → W p l e room_1 s m #[Value.ref b] below meth c H locs (100 + (i + 7)) (12000 + 3 * (i + 7)) (lw_Z below #[Value.ref b] s) (F0 m 1371 ls [])) : W p l e room_1 s m #[Value.ref b] below meth c H locs (100 + i) (12000 + 3 * i) (lw_Z below #[Value.ref b] s) (F0 m 846 ls []) := by
  obtain ⟨hx, hb, hr, hml, hown, hts0, hX, hbl, hlocks, hgv⟩ := id C0
  have hts : ∀ w ∈ wsL_law, w.before #[Value.ref b] s = true := fun w h => hts0 w (wsL_law_in w h)
  have hA : ∀ q : Nat, s.heap.size ≤ q → sA s q := fun _ h => h
  have hbA : ¬ sA s b := Nat.not_le.mpr hbl
  obtain ⟨σ, sh, LP, Z⟩ := u
  have hZ : shOK sh LP Z := hOK _ _ hR
  have hP1 : va_P D vwCl (cW aC cs sh LP Z σ) H := hP1
  have hD1 : va_D (sA s) (cW aC cs sh LP Z σ) := hD1
  obtain ⟨F, r, σ2, v2, hcx, hcm, hpost⟩ := hs (σ, sh, LP, Z) v (xs (x3 + (1 : Int32)).toNatClampNeg) (xs (x3 + (2 : Int32)).toNatClampNeg) (xs (x3 + (3 : Int32)).toNatClampNeg) (xs (x3 + (4 : Int32)).toNatClampNeg) (xs (x3 + (5 : Int32)).toNatClampNeg) hR
  refine lv_aload_n hx hb dL_law_846 rfl (lv_at hl 1 rfl) ?_
  refine lv_aload_n hx hb dL_law_847 rfl (lv_at hl 0 rfl) ?_
  refine lv_iload_n hx hb dL_law_848 rfl (lv_at hl 3 rfl) ?_
  refine lv_iconst (v := (1 : Int32)) hx hb dL_law_849 (by decide) ?_
  refine lv_iadd hx hb dL_law_850 ?_
  refine va_sld hx hb hX hbl hbA hS (lw_in ex3 hi hL (k := 1) (by decide) rfl) dL_law_851 ?_
  refine lv_aload_n hx hb dL_law_852 rfl (lv_at hl 0 rfl) ?_
  refine lv_iload_n hx hb dL_law_853 rfl (lv_at hl 3 rfl) ?_
  refine lv_iconst (v := (2 : Int32)) hx hb dL_law_854 (by decide) ?_
  refine lv_iadd hx hb dL_law_855 ?_
  refine va_sld hx hb hX hbl hbA hS (lw_in ex3 hi hL (k := 2) (by decide) rfl) dL_law_856 ?_
  refine lv_aload_n hx hb dL_law_857 rfl (lv_at hl 0 rfl) ?_
  refine lv_iload_n hx hb dL_law_858 rfl (lv_at hl 3 rfl) ?_
  refine lv_iconst (v := (3 : Int32)) hx hb dL_law_859 (by decide) ?_
  refine lv_iadd hx hb dL_law_860 ?_
  refine va_sld hx hb hX hbl hbA hS (lw_in ex3 hi hL (k := 3) (by decide) rfl) dL_law_861 ?_
  refine lv_aload_n hx hb dL_law_862 rfl (lv_at hl 0 rfl) ?_
  refine lv_iload_n hx hb dL_law_863 rfl (lv_at hl 3 rfl) ?_
  refine lv_iconst (v := (4 : Int32)) hx hb dL_law_864 (by decide) ?_
  refine lv_iadd hx hb dL_law_865 ?_
  refine va_sld hx hb hX hbl hbA hS (lw_in ex3 hi hL (k := 4) (by decide) rfl) dL_law_866 ?_
  refine lv_aload_n hx hb dL_law_867 rfl (lv_at hl 0 rfl) ?_
  refine lv_iload_n hx hb dL_law_868 rfl (lv_at hl 3 rfl) ?_
  refine lv_iconst (v := (5 : Int32)) hx hb dL_law_869 (by decide) ?_
  refine lv_iadd hx hb dL_law_870 ?_
  refine va_sld hx hb hX hbl hbA hS (lw_in ex3 hi hL (k := 5) (by decide) rfl) dL_law_871 ?_
  refine lcall (wf := (cW aC cs sh LP Z)) (wr := mW aM cs v) (va_runV (As := [.int (xs (x3 + (1 : Int32)).toNatClampNeg), .int (xs (x3 + (2 : Int32)).toNatClampNeg), .int (xs (x3 + (3 : Int32)).toNatClampNeg), .int (xs (x3 + (4 : Int32)).toNatClampNeg), .int (xs (x3 + (5 : Int32)).toNatClampNeg)]) (rest := []) ⟨hx, hb, hml, hown, hts⟩ (kX11_cat l D cs aC sh LP Z hZ σ F (xs (x3 + (1 : Int32)).toNatClampNeg) (xs (x3 + (2 : Int32)).toNatClampNeg) (xs (x3 + (3 : Int32)).toNatClampNeg) (xs (x3 + (4 : Int32)).toNatClampNeg) (xs (x3 + (5 : Int32)).toNatClampNeg) r σ2 hcx _) (cwV 5 hts gL_law_X11_cat rfl rfl rfl (by decide +kernel) ⟨Nat.le_of_ble_eq_true rfl, Nat.le_of_ble_eq_true rfl⟩) (pQ_v hP1 hK hD1 (va_recv hK.1 hP1 (ci := 10) (q0 := 0) rfl rfl)) rfl rfl hl.1 rfl (lv_room (Nat.le_of_ble_eq_true rfl)) dL_law_872 ⟨by show 100 + i + 0 ≤ 600000; omega, by show 12000 + 3 * i + 0 ≤ room_1.slots; have := rs_ge; omega⟩) hD1 hP2 hdj hS hA (fun r9 u9 H locs hw hP1 hD1 hP2 hdj hS => ?_)
  obtain ⟨rfl, rfl⟩ := hw
  refine lv_aload_n hx hb dL_law_875 rfl (lv_at hl 2 rfl) ?_
  refine lv_aload_n hx hb dL_law_876 rfl (lv_at hl 0 rfl) ?_
  refine lv_iload_n hx hb dL_law_877 rfl (lv_at hl 3 rfl) ?_
  refine lv_iconst (v := (1 : Int32)) hx hb dL_law_878 (by decide) ?_
  refine lv_iadd hx hb dL_law_879 ?_
  refine va_sld hx hb hX hbl hbA hS (lw_in ex3 hi hL (k := 1) (by decide) rfl) dL_law_880 ?_
  refine lv_aload_n hx hb dL_law_881 rfl (lv_at hl 0 rfl) ?_
  refine lv_iload_n hx hb dL_law_882 rfl (lv_at hl 3 rfl) ?_
  refine lv_iconst (v := (2 : Int32)) hx hb dL_law_883 (by decide) ?_
  refine lv_iadd hx hb dL_law_884 ?_
  refine va_sld hx hb hX hbl hbA hS (lw_in ex3 hi hL (k := 2) (by decide) rfl) dL_law_885 ?_
  refine lv_aload_n hx hb dL_law_886 rfl (lv_at hl 0 rfl) ?_
  refine lv_iload_n hx hb dL_law_887 rfl (lv_at hl 3 rfl) ?_
  refine lv_iconst (v := (3 : Int32)) hx hb dL_law_888 (by decide) ?_
  refine lv_iadd hx hb dL_law_889 ?_
  refine va_sld hx hb hX hbl hbA hS (lw_in ex3 hi hL (k := 3) (by decide) rfl) dL_law_890 ?_
  refine lv_aload_n hx hb dL_law_891 rfl (lv_at hl 0 rfl) ?_
  refine lv_iload_n hx hb dL_law_892 rfl (lv_at hl 3 rfl) ?_
  refine lv_iconst (v := (4 : Int32)) hx hb dL_law_893 (by decide) ?_
  refine lv_iadd hx hb dL_law_894 ?_
  refine va_sld hx hb hX hbl hbA hS (lw_in ex3 hi hL (k := 4) (by decide) rfl) dL_law_895 ?_
  refine lv_aload_n hx hb dL_law_896 rfl (lv_at hl 0 rfl) ?_
  refine lv_iload_n hx hb dL_law_897 rfl (lv_at hl 3 rfl) ?_
  refine lv_iconst (v := (5 : Int32)) hx hb dL_law_898 (by decide) ?_
  refine lv_iadd hx hb dL_law_899 ?_
  refine va_sld hx hb hX hbl hbA hS (lw_in ex3 hi hL (k := 5) (by decide) rfl) dL_law_900 ?_
  refine lcall (wf := (mW aM cs)) (wr := (cW aC cs sh LP Z u9)) (va_runV (As := [.int (xs (x3 + (1 : Int32)).toNatClampNeg), .int (xs (x3 + (2 : Int32)).toNatClampNeg), .int (xs (x3 + (3 : Int32)).toNatClampNeg), .int (xs (x3 + (4 : Int32)).toNatClampNeg), .int (xs (x3 + (5 : Int32)).toNatClampNeg)]) (rest := [.int r9]) ⟨hx, hb, hml, hown, hts⟩ (kX12_cat l D cs aM v F (xs (x3 + (1 : Int32)).toNatClampNeg) (xs (x3 + (2 : Int32)).toNatClampNeg) (xs (x3 + (3 : Int32)).toNatClampNeg) (xs (x3 + (4 : Int32)).toNatClampNeg) (xs (x3 + (5 : Int32)).toNatClampNeg) r9 v2 hcm _) (cwV 5 hts gL_law_X12_cat rfl rfl rfl (by decide +kernel) ⟨Nat.le_of_ble_eq_true rfl, Nat.le_of_ble_eq_true rfl⟩) (pQ_v hP2 hK hD2 (va_recv hK.1 hP2 (ci := 11) (q0 := 0) rfl rfl)) rfl rfl hl.1 rfl (lv_room (Nat.le_of_ble_eq_true rfl)) dL_law_901 ⟨by show 100 + i + 0 + 0 ≤ 600000; omega, by show 12000 + 3 * i + 0 + 0 ≤ room_1.slots; have := rs_ge; omega⟩) hD2 hP1 hdj.symm hS hA (fun r8 v8 H locs hw hP2 hD2 hP1 hdj2 hS => ?_)
  obtain ⟨rfl, rfl⟩ := hw
  have hdj := hdj2.symm
  refine lv_icmp_eq (tgt := 1371) hx hb dL_law_904 (by decide) (fun _ => ?_) (fun c9 => absurd rfl c9)
  refine W.widen (k := 100 + (i + 7)) (n := 12000 + 3 * (i + 7)) (by omega) (by omega) ?_
  exact kk _ _ _ _ _ hpost hP1 hD1 hP2 hD2 hdj hS hl
set_option maxHeartbeats 4000000 in
set_option maxRecDepth 100000 in
theorem law_seen {p : Program} {l : Launch} {e : Env} {s : State} {m : MethodId} {below : List Frame} {meth : Method} {c : Code} {b L : Nat} {xs : Nat → Int32} (hL : L ≤ 3584) (C0 : lw_At p s m meth c b L xs) {D : va_G} {cs : Nat → ClassId} (hK : KK D cs s) (hG : GT (sA s) s) {aC aM : Nat → Nat} {Rel : SS → (Nat → Nat → Int32) → Prop} (hOK : ∀ u v, Rel u v → shOK u.2.1 u.2.2.1 u.2.2.2) (hs : st_seen Rel) (i : Nat) (hi : i + 7 ≤ L) (x3 : Int32) (ex3 : x3 = nI i) (u : SS) (v : Nat → Nat → Int32) (hR : Rel u v) (H : Heap) (locs : List Loc) (ls : Array Slot) (hP1 : va_P D vwCl (cWs aC cs u) H) (hD1 : va_D (sA s) (cWs aC cs u)) (hP2 : va_P D vwCl (mW aM cs v) H) (hD2 : va_D (sA s) (mW aM cs v)) (hdj : dj (cWs aC cs u) (mW aM cs v)) (hS : va_S (sA s) s.heap H locs) (hl : lv_has ls 4 [(0, .ref b), (1, .ref (aC 0)), (2, .ref (aM 0)), (3, .int x3)]) (kk : ∀ (u : SS) (v : Nat → Nat → Int32) (H : Heap) (locs : List Loc) (ls : Array Slot), Rel u v → va_P D vwCl (cWs aC cs u) H → va_D (sA s) (cWs aC cs u) → va_P D vwCl (mW aM cs v) H → va_D (sA s) (mW aM cs v) → dj (cWs aC cs u) (mW aM cs v) → va_S (sA s) s.heap H locs → lv_has ls 4 [(0, .ref b), (1, .ref (aC 0)), (2, .ref (aM 0)), (3, .int x3)] → W p l e room_1 s m #[Value.ref b] below meth c H locs (100 + (i + 7)) (12000 + 3 * (i + 7)) (lw_Z below #[Value.ref b] s) (F0 m 1371 ls [])) : W p l e room_1 s m #[Value.ref b] below meth c H locs (100 + i) (12000 + 3 * i) (lw_Z below #[Value.ref b] s) (F0 m 909 ls []) := by
  obtain ⟨hx, hb, hr, hml, hown, hts0, hX, hbl, hlocks, hgv⟩ := id C0
  have hts : ∀ w ∈ wsL_law, w.before #[Value.ref b] s = true := fun w h => hts0 w (wsL_law_in w h)
  have hA : ∀ q : Nat, s.heap.size ≤ q → sA s q := fun _ h => h
  have hbA : ¬ sA s b := Nat.not_le.mpr hbl
  obtain ⟨σ, sh, LP, Z⟩ := u
  have hZ : shOK sh LP Z := hOK _ _ hR
  have hP1 : va_P D vwCl (cW aC cs sh LP Z σ) H := hP1
  have hD1 : va_D (sA s) (cW aC cs sh LP Z σ) := hD1
  obtain ⟨F, r, hcx, hcm, hpost⟩ := hs (σ, sh, LP, Z) v (xs (x3 + (1 : Int32)).toNatClampNeg) (xs (x3 + (2 : Int32)).toNatClampNeg) hR
  refine lv_aload_n hx hb dL_law_909 rfl (lv_at hl 1 rfl) ?_
  refine lv_aload_n hx hb dL_law_910 rfl (lv_at hl 0 rfl) ?_
  refine lv_iload_n hx hb dL_law_911 rfl (lv_at hl 3 rfl) ?_
  refine lv_iconst (v := (1 : Int32)) hx hb dL_law_912 (by decide) ?_
  refine lv_iadd hx hb dL_law_913 ?_
  refine va_sld hx hb hX hbl hbA hS (lw_in ex3 hi hL (k := 1) (by decide) rfl) dL_law_914 ?_
  refine lv_aload_n hx hb dL_law_915 rfl (lv_at hl 0 rfl) ?_
  refine lv_iload_n hx hb dL_law_916 rfl (lv_at hl 3 rfl) ?_
  refine lv_iconst (v := (2 : Int32)) hx hb dL_law_917 (by decide) ?_
  refine lv_iadd hx hb dL_law_918 ?_
  refine va_sld hx hb hX hbl hbA hS (lw_in ex3 hi hL (k := 2) (by decide) rfl) dL_law_919 ?_
  refine mcallS (va_runV (As := [.int (xs (x3 + (1 : Int32)).toNatClampNeg), .int (xs (x3 + (2 : Int32)).toNatClampNeg)]) (rest := []) ⟨hx, hb, hml, hown, hts⟩ (kX11_seen l D cs aC sh LP Z hZ σ (xs (x3 + (1 : Int32)).toNatClampNeg) (xs (x3 + (2 : Int32)).toNatClampNeg) r hcx) (cwV 2 hts gL_law_X11_seen rfl rfl rfl (by decide +kernel) ⟨Nat.le_of_ble_eq_true rfl, Nat.le_of_ble_eq_true rfl⟩) (pR_v hP1 hK (va_recv hK.1 hP1 (ci := 10) (q0 := 0) rfl rfl)) rfl rfl hl.1 rfl (lv_room (Nat.le_of_ble_eq_true rfl)) dL_law_920 ⟨by show 100 + i + 0 ≤ 600000; omega, by show 12000 + 3 * i + 0 ≤ room_1.slots; have := rs_ge; omega⟩) ?_
  refine lv_aload_n hx hb dL_law_923 rfl (lv_at hl 2 rfl) ?_
  refine lv_aload_n hx hb dL_law_924 rfl (lv_at hl 0 rfl) ?_
  refine lv_iload_n hx hb dL_law_925 rfl (lv_at hl 3 rfl) ?_
  refine lv_iconst (v := (1 : Int32)) hx hb dL_law_926 (by decide) ?_
  refine lv_iadd hx hb dL_law_927 ?_
  refine va_sld hx hb hX hbl hbA hS (lw_in ex3 hi hL (k := 1) (by decide) rfl) dL_law_928 ?_
  refine lv_aload_n hx hb dL_law_929 rfl (lv_at hl 0 rfl) ?_
  refine lv_iload_n hx hb dL_law_930 rfl (lv_at hl 3 rfl) ?_
  refine lv_iconst (v := (2 : Int32)) hx hb dL_law_931 (by decide) ?_
  refine lv_iadd hx hb dL_law_932 ?_
  refine va_sld hx hb hX hbl hbA hS (lw_in ex3 hi hL (k := 2) (by decide) rfl) dL_law_933 ?_
  refine mcallS (va_runV (As := [.int (xs (x3 + (1 : Int32)).toNatClampNeg), .int (xs (x3 + (2 : Int32)).toNatClampNeg)]) (rest := [.int r]) ⟨hx, hb, hml, hown, hts⟩ (kX12_seen l D cs aM v (xs (x3 + (1 : Int32)).toNatClampNeg) (xs (x3 + (2 : Int32)).toNatClampNeg) r hcm) (cwV 2 hts gL_law_X12_seen rfl rfl rfl (by decide +kernel) ⟨Nat.le_of_ble_eq_true rfl, Nat.le_of_ble_eq_true rfl⟩) (pR_v hP2 hK (va_recv hK.1 hP2 (ci := 11) (q0 := 0) rfl rfl)) rfl rfl hl.1 rfl (lv_room (Nat.le_of_ble_eq_true rfl)) dL_law_934 ⟨by show 100 + i + 0 ≤ 600000; omega, by show 12000 + 3 * i + 0 ≤ room_1.slots; have := rs_ge; omega⟩) ?_
  refine lv_icmp_eq (tgt := 1371) hx hb dL_law_937 (by decide) (fun _ => ?_) (fun c9 => absurd rfl c9)
  refine W.widen (k := 100 + (i + 7)) (n := 12000 + 3 * (i + 7)) (by omega) (by omega) ?_
  exact kk _ _ _ _ _ hpost hP1 hD1 hP2 hD2 hdj hS hl
set_option maxHeartbeats 4000000 in
set_option maxRecDepth 100000 in
theorem law_back {p : Program} {l : Launch} {e : Env} {s : State} {m : MethodId} {below : List Frame} {meth : Method} {c : Code} {b L : Nat} {xs : Nat → Int32} (hL : L ≤ 3584) (C0 : lw_At p s m meth c b L xs) {D : va_G} {cs : Nat → ClassId} (hK : KK D cs s) (hG : GT (sA s) s) {aC aM : Nat → Nat} {Rel : SS → (Nat → Nat → Int32) → Prop} (hOK : ∀ u v, Rel u v → shOK u.2.1 u.2.2.1 u.2.2.2) (hs : st_back Rel) (i : Nat) (hi : i + 7 ≤ L) (x3 : Int32) (ex3 : x3 = nI i) (u : SS) (v : Nat → Nat → Int32) (hR : Rel u v) (H : Heap) (locs : List Loc) (ls : Array Slot) (hP1 : va_P D vwCl (cWs aC cs u) H) (hD1 : va_D (sA s) (cWs aC cs u)) (hP2 : va_P D vwCl (mW aM cs v) H) (hD2 : va_D (sA s) (mW aM cs v)) (hdj : dj (cWs aC cs u) (mW aM cs v)) (hS : va_S (sA s) s.heap H locs) (hl : lv_has ls 4 [(0, .ref b), (1, .ref (aC 0)), (2, .ref (aM 0)), (3, .int x3)]) (kk : ∀ (u : SS) (v : Nat → Nat → Int32) (H : Heap) (locs : List Loc) (ls : Array Slot), Rel u v → va_P D vwCl (cWs aC cs u) H → va_D (sA s) (cWs aC cs u) → va_P D vwCl (mW aM cs v) H → va_D (sA s) (mW aM cs v) → dj (cWs aC cs u) (mW aM cs v) → va_S (sA s) s.heap H locs → lv_has ls 4 [(0, .ref b), (1, .ref (aC 0)), (2, .ref (aM 0)), (3, .int x3)] → W p l e room_1 s m #[Value.ref b] below meth c H locs (100 + (i + 7)) (12000 + 3 * (i + 7)) (lw_Z below #[Value.ref b] s) (F0 m 1371 ls [])) : W p l e room_1 s m #[Value.ref b] below meth c H locs (100 + i) (12000 + 3 * i) (lw_Z below #[Value.ref b] s) (F0 m 942 ls []) := by
  obtain ⟨hx, hb, hr, hml, hown, hts0, hX, hbl, hlocks, hgv⟩ := id C0
  have hts : ∀ w ∈ wsL_law, w.before #[Value.ref b] s = true := fun w h => hts0 w (wsL_law_in w h)
  have hA : ∀ q : Nat, s.heap.size ≤ q → sA s q := fun _ h => h
  have hbA : ¬ sA s b := Nat.not_le.mpr hbl
  obtain ⟨σ, sh, LP, Z⟩ := u
  have hZ : shOK sh LP Z := hOK _ _ hR
  have hP1 : va_P D vwCl (cW aC cs sh LP Z σ) H := hP1
  have hD1 : va_D (sA s) (cW aC cs sh LP Z σ) := hD1
  obtain ⟨F, r, hcx, hcm, hpost⟩ := hs (σ, sh, LP, Z) v (xs (x3 + (1 : Int32)).toNatClampNeg) (xs (x3 + (2 : Int32)).toNatClampNeg) hR
  refine lv_aload_n hx hb dL_law_942 rfl (lv_at hl 1 rfl) ?_
  refine lv_aload_n hx hb dL_law_943 rfl (lv_at hl 0 rfl) ?_
  refine lv_iload_n hx hb dL_law_944 rfl (lv_at hl 3 rfl) ?_
  refine lv_iconst (v := (1 : Int32)) hx hb dL_law_945 (by decide) ?_
  refine lv_iadd hx hb dL_law_946 ?_
  refine va_sld hx hb hX hbl hbA hS (lw_in ex3 hi hL (k := 1) (by decide) rfl) dL_law_947 ?_
  refine lv_aload_n hx hb dL_law_948 rfl (lv_at hl 0 rfl) ?_
  refine lv_iload_n hx hb dL_law_949 rfl (lv_at hl 3 rfl) ?_
  refine lv_iconst (v := (2 : Int32)) hx hb dL_law_950 (by decide) ?_
  refine lv_iadd hx hb dL_law_951 ?_
  refine va_sld hx hb hX hbl hbA hS (lw_in ex3 hi hL (k := 2) (by decide) rfl) dL_law_952 ?_
  refine mcallS (va_runV (As := [.int (xs (x3 + (1 : Int32)).toNatClampNeg), .int (xs (x3 + (2 : Int32)).toNatClampNeg)]) (rest := []) ⟨hx, hb, hml, hown, hts⟩ (kX11_back l D cs aC sh LP Z hZ σ F (xs (x3 + (1 : Int32)).toNatClampNeg) (xs (x3 + (2 : Int32)).toNatClampNeg) r hcx) (cwV 2 hts gL_law_X11_back rfl rfl rfl (by decide +kernel) ⟨Nat.le_of_ble_eq_true rfl, Nat.le_of_ble_eq_true rfl⟩) (pR_v hP1 hK (va_recv hK.1 hP1 (ci := 10) (q0 := 0) rfl rfl)) rfl rfl hl.1 rfl (lv_room (Nat.le_of_ble_eq_true rfl)) dL_law_953 ⟨by show 100 + i + 0 ≤ 600000; omega, by show 12000 + 3 * i + 0 ≤ room_1.slots; have := rs_ge; omega⟩) ?_
  refine lv_aload_n hx hb dL_law_956 rfl (lv_at hl 2 rfl) ?_
  refine lv_aload_n hx hb dL_law_957 rfl (lv_at hl 0 rfl) ?_
  refine lv_iload_n hx hb dL_law_958 rfl (lv_at hl 3 rfl) ?_
  refine lv_iconst (v := (1 : Int32)) hx hb dL_law_959 (by decide) ?_
  refine lv_iadd hx hb dL_law_960 ?_
  refine va_sld hx hb hX hbl hbA hS (lw_in ex3 hi hL (k := 1) (by decide) rfl) dL_law_961 ?_
  refine lv_aload_n hx hb dL_law_962 rfl (lv_at hl 0 rfl) ?_
  refine lv_iload_n hx hb dL_law_963 rfl (lv_at hl 3 rfl) ?_
  refine lv_iconst (v := (2 : Int32)) hx hb dL_law_964 (by decide) ?_
  refine lv_iadd hx hb dL_law_965 ?_
  refine va_sld hx hb hX hbl hbA hS (lw_in ex3 hi hL (k := 2) (by decide) rfl) dL_law_966 ?_
  refine mcallS (va_runV (As := [.int (xs (x3 + (1 : Int32)).toNatClampNeg), .int (xs (x3 + (2 : Int32)).toNatClampNeg)]) (rest := [.int r]) ⟨hx, hb, hml, hown, hts⟩ (kX12_back l D cs aM v F (xs (x3 + (1 : Int32)).toNatClampNeg) (xs (x3 + (2 : Int32)).toNatClampNeg) r hcm) (cwV 2 hts gL_law_X12_back rfl rfl rfl (by decide +kernel) ⟨Nat.le_of_ble_eq_true rfl, Nat.le_of_ble_eq_true rfl⟩) (pR_v hP2 hK (va_recv hK.1 hP2 (ci := 11) (q0 := 0) rfl rfl)) rfl rfl hl.1 rfl (lv_room (Nat.le_of_ble_eq_true rfl)) dL_law_967 ⟨by show 100 + i + 0 ≤ 600000; omega, by show 12000 + 3 * i + 0 ≤ room_1.slots; have := rs_ge; omega⟩) ?_
  refine lv_icmp_eq (tgt := 1371) hx hb dL_law_970 (by decide) (fun _ => ?_) (fun c9 => absurd rfl c9)
  refine W.widen (k := 100 + (i + 7)) (n := 12000 + 3 * (i + 7)) (by omega) (by omega) ?_
  exact kk _ _ _ _ _ hpost hP1 hD1 hP2 hD2 hdj hS hl
set_option maxHeartbeats 4000000 in
set_option maxRecDepth 100000 in
theorem law_mend {p : Program} {l : Launch} {e : Env} {s : State} {m : MethodId} {below : List Frame} {meth : Method} {c : Code} {b L : Nat} {xs : Nat → Int32} (hL : L ≤ 3584) (C0 : lw_At p s m meth c b L xs) {D : va_G} {cs : Nat → ClassId} (hK : KK D cs s) (hG : GT (sA s) s) {aC aM : Nat → Nat} {Rel : SS → (Nat → Nat → Int32) → Prop} (hOK : ∀ u v, Rel u v → shOK u.2.1 u.2.2.1 u.2.2.2) (hs : st_mend Rel) (i : Nat) (hi : i + 7 ≤ L) (x3 : Int32) (ex3 : x3 = nI i) (u : SS) (v : Nat → Nat → Int32) (hR : Rel u v) (H : Heap) (locs : List Loc) (ls : Array Slot) (hP1 : va_P D vwCl (cWs aC cs u) H) (hD1 : va_D (sA s) (cWs aC cs u)) (hP2 : va_P D vwCl (mW aM cs v) H) (hD2 : va_D (sA s) (mW aM cs v)) (hdj : dj (cWs aC cs u) (mW aM cs v)) (hS : va_S (sA s) s.heap H locs) (hl : lv_has ls 4 [(0, .ref b), (1, .ref (aC 0)), (2, .ref (aM 0)), (3, .int x3)]) (kk : ∀ (u : SS) (v : Nat → Nat → Int32) (H : Heap) (locs : List Loc) (ls : Array Slot), Rel u v → va_P D vwCl (cWs aC cs u) H → va_D (sA s) (cWs aC cs u) → va_P D vwCl (mW aM cs v) H → va_D (sA s) (mW aM cs v) → dj (cWs aC cs u) (mW aM cs v) → va_S (sA s) s.heap H locs → lv_has ls 4 [(0, .ref b), (1, .ref (aC 0)), (2, .ref (aM 0)), (3, .int x3)] → W p l e room_1 s m #[Value.ref b] below meth c H locs (100 + (i + 7)) (12000 + 3 * (i + 7)) (lw_Z below #[Value.ref b] s) (F0 m 1371 ls [])) : W p l e room_1 s m #[Value.ref b] below meth c H locs (100 + i) (12000 + 3 * i) (lw_Z below #[Value.ref b] s) (F0 m 975 ls []) := by
  obtain ⟨hx, hb, hr, hml, hown, hts0, hX, hbl, hlocks, hgv⟩ := id C0
  have hts : ∀ w ∈ wsL_law, w.before #[Value.ref b] s = true := fun w h => hts0 w (wsL_law_in w h)
  have hA : ∀ q : Nat, s.heap.size ≤ q → sA s q := fun _ h => h
  have hbA : ¬ sA s b := Nat.not_le.mpr hbl
  obtain ⟨σ, sh, LP, Z⟩ := u
  have hZ : shOK sh LP Z := hOK _ _ hR
  have hP1 : va_P D vwCl (cW aC cs sh LP Z σ) H := hP1
  have hD1 : va_D (sA s) (cW aC cs sh LP Z σ) := hD1
  obtain ⟨F, r, σ2, v2, hcx, hcm, hpost⟩ := hs (σ, sh, LP, Z) v  hR
  refine lv_aload_n hx hb dL_law_975 rfl (lv_at hl 1 rfl) ?_
  refine lcall (wf := (cW aC cs sh LP Z)) (wr := mW aM cs v) (va_runV (As := []) (rest := []) ⟨hx, hb, hml, hown, hts⟩ (kX11_mend l D cs aC sh LP Z hZ σ F  r σ2 hcx _) (cwV 0 hts gL_law_X11_mend rfl rfl rfl (by decide +kernel) ⟨Nat.le_of_ble_eq_true rfl, Nat.le_of_ble_eq_true rfl⟩) (pQ_v hP1 hK hD1 (va_recv hK.1 hP1 (ci := 10) (q0 := 0) rfl rfl)) rfl rfl hl.1 rfl (lv_room (Nat.le_of_ble_eq_true rfl)) dL_law_976 ⟨by show 100 + i + 0 ≤ 600000; omega, by show 12000 + 3 * i + 0 ≤ room_1.slots; have := rs_ge; omega⟩) hD1 hP2 hdj hS hA (fun r9 u9 H locs hw hP1 hD1 hP2 hdj hS => ?_)
  obtain ⟨rfl, rfl⟩ := hw
  refine lv_aload_n hx hb dL_law_979 rfl (lv_at hl 2 rfl) ?_
  refine lcall (wf := (mW aM cs)) (wr := (cW aC cs sh LP Z u9)) (va_runV (As := []) (rest := [.int r9]) ⟨hx, hb, hml, hown, hts⟩ (kX12_mend l D cs aM v F  r9 v2 hcm _) (cwV 0 hts gL_law_X12_mend rfl rfl rfl (by decide +kernel) ⟨Nat.le_of_ble_eq_true rfl, Nat.le_of_ble_eq_true rfl⟩) (pQ_v hP2 hK hD2 (va_recv hK.1 hP2 (ci := 11) (q0 := 0) rfl rfl)) rfl rfl hl.1 rfl (lv_room (Nat.le_of_ble_eq_true rfl)) dL_law_980 ⟨by show 100 + i + 0 + 0 ≤ 600000; omega, by show 12000 + 3 * i + 0 + 0 ≤ room_1.slots; have := rs_ge; omega⟩) hD2 hP1 hdj.symm hS hA (fun r8 v8 H locs hw hP2 hD2 hP1 hdj2 hS => ?_)
  obtain ⟨rfl, rfl⟩ := hw
  have hdj := hdj2.symm
  refine lv_icmp_eq (tgt := 1371) hx hb dL_law_983 (by decide) (fun _ => ?_) (fun c9 => absurd rfl c9)
  refine W.widen (k := 100 + (i + 7)) (n := 12000 + 3 * (i + 7)) (by omega) (by omega) ?_
  exact kk _ _ _ _ _ hpost hP1 hD1 hP2 hD2 hdj hS hl
set_option maxHeartbeats 4000000 in
set_option maxRecDepth 100000 in
theorem law_harm {p : Program} {l : Launch} {e : Env} {s : State} {m : MethodId} {below : List Frame} {meth : Method} {c : Code} {b L : Nat} {xs : Nat → Int32} (hL : L ≤ 3584) (C0 : lw_At p s m meth c b L xs) {D : va_G} {cs : Nat → ClassId} (hK : KK D cs s) (hG : GT (sA s) s) {aC aM : Nat → Nat} {Rel : SS → (Nat → Nat → Int32) → Prop} (hOK : ∀ u v, Rel u v → shOK u.2.1 u.2.2.1 u.2.2.2) (hs : st_harm Rel) (i : Nat) (hi : i + 7 ≤ L) (x3 : Int32) (ex3 : x3 = nI i) (u : SS) (v : Nat → Nat → Int32) (hR : Rel u v) (H : Heap) (locs : List Loc) (ls : Array Slot) (hP1 : va_P D vwCl (cWs aC cs u) H) (hD1 : va_D (sA s) (cWs aC cs u)) (hP2 : va_P D vwCl (mW aM cs v) H) (hD2 : va_D (sA s) (mW aM cs v)) (hdj : dj (cWs aC cs u) (mW aM cs v)) (hS : va_S (sA s) s.heap H locs) (hl : lv_has ls 4 [(0, .ref b), (1, .ref (aC 0)), (2, .ref (aM 0)), (3, .int x3)]) (kk : ∀ (u : SS) (v : Nat → Nat → Int32) (H : Heap) (locs : List Loc) (ls : Array Slot), Rel u v → va_P D vwCl (cWs aC cs u) H → va_D (sA s) (cWs aC cs u) → va_P D vwCl (mW aM cs v) H → va_D (sA s) (mW aM cs v) → dj (cWs aC cs u) (mW aM cs v) → va_S (sA s) s.heap H locs → lv_has ls 4 [(0, .ref b), (1, .ref (aC 0)), (2, .ref (aM 0)), (3, .int x3)] → W p l e room_1 s m #[Value.ref b] below meth c H locs (100 + (i + 7)) (12000 + 3 * (i + 7)) (lw_Z below #[Value.ref b] s) (F0 m 1371 ls [])) : W p l e room_1 s m #[Value.ref b] below meth c H locs (100 + i) (12000 + 3 * i) (lw_Z below #[Value.ref b] s) (F0 m 988 ls []) := by
  obtain ⟨hx, hb, hr, hml, hown, hts0, hX, hbl, hlocks, hgv⟩ := id C0
  have hts : ∀ w ∈ wsL_law, w.before #[Value.ref b] s = true := fun w h => hts0 w (wsL_law_in w h)
  have hA : ∀ q : Nat, s.heap.size ≤ q → sA s q := fun _ h => h
  have hbA : ¬ sA s b := Nat.not_le.mpr hbl
  obtain ⟨σ, sh, LP, Z⟩ := u
  have hZ : shOK sh LP Z := hOK _ _ hR
  have hP1 : va_P D vwCl (cW aC cs sh LP Z σ) H := hP1
  have hD1 : va_D (sA s) (cW aC cs sh LP Z σ) := hD1
  obtain ⟨F, r, hcx, hcm, hpost⟩ := hs (σ, sh, LP, Z) v (xs (x3 + (1 : Int32)).toNatClampNeg) hR
  refine lv_aload_n hx hb dL_law_988 rfl (lv_at hl 1 rfl) ?_
  refine lv_aload_n hx hb dL_law_989 rfl (lv_at hl 0 rfl) ?_
  refine lv_iload_n hx hb dL_law_990 rfl (lv_at hl 3 rfl) ?_
  refine lv_iconst (v := (1 : Int32)) hx hb dL_law_991 (by decide) ?_
  refine lv_iadd hx hb dL_law_992 ?_
  refine va_sld hx hb hX hbl hbA hS (lw_in ex3 hi hL (k := 1) (by decide) rfl) dL_law_993 ?_
  refine mcallS (va_runV (As := [.int (xs (x3 + (1 : Int32)).toNatClampNeg)]) (rest := []) ⟨hx, hb, hml, hown, hts⟩ (kX11_harm l D cs aC sh LP Z hZ σ F (xs (x3 + (1 : Int32)).toNatClampNeg) r hcx) (cwV 1 hts gL_law_X11_harm rfl rfl rfl (by decide +kernel) ⟨Nat.le_of_ble_eq_true rfl, Nat.le_of_ble_eq_true rfl⟩) (pR_v hP1 hK (va_recv hK.1 hP1 (ci := 10) (q0 := 0) rfl rfl)) rfl rfl hl.1 rfl (lv_room (Nat.le_of_ble_eq_true rfl)) dL_law_994 ⟨by show 100 + i + 0 ≤ 600000; omega, by show 12000 + 3 * i + 0 ≤ room_1.slots; have := rs_ge; omega⟩) ?_
  refine lv_aload_n hx hb dL_law_997 rfl (lv_at hl 2 rfl) ?_
  refine lv_aload_n hx hb dL_law_998 rfl (lv_at hl 0 rfl) ?_
  refine lv_iload_n hx hb dL_law_999 rfl (lv_at hl 3 rfl) ?_
  refine lv_iconst (v := (1 : Int32)) hx hb dL_law_1000 (by decide) ?_
  refine lv_iadd hx hb dL_law_1001 ?_
  refine va_sld hx hb hX hbl hbA hS (lw_in ex3 hi hL (k := 1) (by decide) rfl) dL_law_1002 ?_
  refine mcallS (va_runV (As := [.int (xs (x3 + (1 : Int32)).toNatClampNeg)]) (rest := [.int r]) ⟨hx, hb, hml, hown, hts⟩ (kX12_harm l D cs aM v F (xs (x3 + (1 : Int32)).toNatClampNeg) r hcm) (cwV 1 hts gL_law_X12_harm rfl rfl rfl (by decide +kernel) ⟨Nat.le_of_ble_eq_true rfl, Nat.le_of_ble_eq_true rfl⟩) (pR_v hP2 hK (va_recv hK.1 hP2 (ci := 11) (q0 := 0) rfl rfl)) rfl rfl hl.1 rfl (lv_room (Nat.le_of_ble_eq_true rfl)) dL_law_1003 ⟨by show 100 + i + 0 ≤ 600000; omega, by show 12000 + 3 * i + 0 ≤ room_1.slots; have := rs_ge; omega⟩) ?_
  refine lv_icmp_eq (tgt := 1371) hx hb dL_law_1006 (by decide) (fun _ => ?_) (fun c9 => absurd rfl c9)
  refine W.widen (k := 100 + (i + 7)) (n := 12000 + 3 * (i + 7)) (by omega) (by omega) ?_
  exact kk _ _ _ _ _ hpost hP1 hD1 hP2 hD2 hdj hS hl
set_option maxHeartbeats 4000000 in
set_option maxRecDepth 100000 in
theorem law_again {p : Program} {l : Launch} {e : Env} {s : State} {m : MethodId} {below : List Frame} {meth : Method} {c : Code} {b L : Nat} {xs : Nat → Int32} (hL : L ≤ 3584) (C0 : lw_At p s m meth c b L xs) {D : va_G} {cs : Nat → ClassId} (hK : KK D cs s) (hG : GT (sA s) s) {aC aM : Nat → Nat} {Rel : SS → (Nat → Nat → Int32) → Prop} (hOK : ∀ u v, Rel u v → shOK u.2.1 u.2.2.1 u.2.2.2) (hs : st_again Rel) (i : Nat) (hi : i + 7 ≤ L) (x3 : Int32) (ex3 : x3 = nI i) (u : SS) (v : Nat → Nat → Int32) (hR : Rel u v) (H : Heap) (locs : List Loc) (ls : Array Slot) (hP1 : va_P D vwCl (cWs aC cs u) H) (hD1 : va_D (sA s) (cWs aC cs u)) (hP2 : va_P D vwCl (mW aM cs v) H) (hD2 : va_D (sA s) (mW aM cs v)) (hdj : dj (cWs aC cs u) (mW aM cs v)) (hS : va_S (sA s) s.heap H locs) (hl : lv_has ls 4 [(0, .ref b), (1, .ref (aC 0)), (2, .ref (aM 0)), (3, .int x3)]) (kk : ∀ (u : SS) (v : Nat → Nat → Int32) (H : Heap) (locs : List Loc) (ls : Array Slot), Rel u v → va_P D vwCl (cWs aC cs u) H → va_D (sA s) (cWs aC cs u) → va_P D vwCl (mW aM cs v) H → va_D (sA s) (mW aM cs v) → dj (cWs aC cs u) (mW aM cs v) → va_S (sA s) s.heap H locs → lv_has ls 4 [(0, .ref b), (1, .ref (aC 0)), (2, .ref (aM 0)), (3, .int x3)] → W p l e room_1 s m #[Value.ref b] below meth c H locs (100 + (i + 7)) (12000 + 3 * (i + 7)) (lw_Z below #[Value.ref b] s) (F0 m 1371 ls [])) : W p l e room_1 s m #[Value.ref b] below meth c H locs (100 + i) (12000 + 3 * i) (lw_Z below #[Value.ref b] s) (F0 m 1011 ls []) := by
  obtain ⟨hx, hb, hr, hml, hown, hts0, hX, hbl, hlocks, hgv⟩ := id C0
  have hts : ∀ w ∈ wsL_law, w.before #[Value.ref b] s = true := fun w h => hts0 w (wsL_law_in w h)
  have hA : ∀ q : Nat, s.heap.size ≤ q → sA s q := fun _ h => h
  have hbA : ¬ sA s b := Nat.not_le.mpr hbl
  obtain ⟨σ, sh, LP, Z⟩ := u
  have hZ : shOK sh LP Z := hOK _ _ hR
  have hP1 : va_P D vwCl (cW aC cs sh LP Z σ) H := hP1
  have hD1 : va_D (sA s) (cW aC cs sh LP Z σ) := hD1
  obtain ⟨F, r, hcx, hcm, hpost⟩ := hs (σ, sh, LP, Z) v  hR
  refine lv_aload_n hx hb dL_law_1011 rfl (lv_at hl 1 rfl) ?_
  refine mcallS (va_runV (As := []) (rest := []) ⟨hx, hb, hml, hown, hts⟩ (kX11_again l D cs aC sh LP Z hZ σ F  r hcx) (cwV 0 hts gL_law_X11_again rfl rfl rfl (by decide +kernel) ⟨Nat.le_of_ble_eq_true rfl, Nat.le_of_ble_eq_true rfl⟩) (pR_v hP1 hK (va_recv hK.1 hP1 (ci := 10) (q0 := 0) rfl rfl)) rfl rfl hl.1 rfl (lv_room (Nat.le_of_ble_eq_true rfl)) dL_law_1012 ⟨by show 100 + i + 0 ≤ 600000; omega, by show 12000 + 3 * i + 0 ≤ room_1.slots; have := rs_ge; omega⟩) ?_
  refine lv_aload_n hx hb dL_law_1015 rfl (lv_at hl 2 rfl) ?_
  refine mcallS (va_runV (As := []) (rest := [.int r]) ⟨hx, hb, hml, hown, hts⟩ (kX12_again l D cs aM v F  r hcm) (cwV 0 hts gL_law_X12_again rfl rfl rfl (by decide +kernel) ⟨Nat.le_of_ble_eq_true rfl, Nat.le_of_ble_eq_true rfl⟩) (pR_v hP2 hK (va_recv hK.1 hP2 (ci := 11) (q0 := 0) rfl rfl)) rfl rfl hl.1 rfl (lv_room (Nat.le_of_ble_eq_true rfl)) dL_law_1016 ⟨by show 100 + i + 0 ≤ 600000; omega, by show 12000 + 3 * i + 0 ≤ room_1.slots; have := rs_ge; omega⟩) ?_
  refine lv_icmp_eq (tgt := 1371) hx hb dL_law_1019 (by decide) (fun _ => ?_) (fun c9 => absurd rfl c9)
  refine W.widen (k := 100 + (i + 7)) (n := 12000 + 3 * (i + 7)) (by omega) (by omega) ?_
  exact kk _ _ _ _ _ hpost hP1 hD1 hP2 hD2 hdj hS hl
set_option maxHeartbeats 4000000 in
set_option maxRecDepth 100000 in
theorem law_bar {p : Program} {l : Launch} {e : Env} {s : State} {m : MethodId} {below : List Frame} {meth : Method} {c : Code} {b L : Nat} {xs : Nat → Int32} (hL : L ≤ 3584) (C0 : lw_At p s m meth c b L xs) {D : va_G} {cs : Nat → ClassId} (hK : KK D cs s) (hG : GT (sA s) s) {aC aM : Nat → Nat} {Rel : SS → (Nat → Nat → Int32) → Prop} (hOK : ∀ u v, Rel u v → shOK u.2.1 u.2.2.1 u.2.2.2) (hs : st_bar Rel) (i : Nat) (hi : i + 7 ≤ L) (x3 : Int32) (ex3 : x3 = nI i) (u : SS) (v : Nat → Nat → Int32) (hR : Rel u v) (H : Heap) (locs : List Loc) (ls : Array Slot) (hP1 : va_P D vwCl (cWs aC cs u) H) (hD1 : va_D (sA s) (cWs aC cs u)) (hP2 : va_P D vwCl (mW aM cs v) H) (hD2 : va_D (sA s) (mW aM cs v)) (hdj : dj (cWs aC cs u) (mW aM cs v)) (hS : va_S (sA s) s.heap H locs) (hl : lv_has ls 4 [(0, .ref b), (1, .ref (aC 0)), (2, .ref (aM 0)), (3, .int x3)]) (kk : ∀ (u : SS) (v : Nat → Nat → Int32) (H : Heap) (locs : List Loc) (ls : Array Slot), Rel u v → va_P D vwCl (cWs aC cs u) H → va_D (sA s) (cWs aC cs u) → va_P D vwCl (mW aM cs v) H → va_D (sA s) (mW aM cs v) → dj (cWs aC cs u) (mW aM cs v) → va_S (sA s) s.heap H locs → lv_has ls 4 [(0, .ref b), (1, .ref (aC 0)), (2, .ref (aM 0)), (3, .int x3)] → W p l e room_1 s m #[Value.ref b] below meth c H locs (100 + (i + 7)) (12000 + 3 * (i + 7)) (lw_Z below #[Value.ref b] s) (F0 m 1371 ls [])) : W p l e room_1 s m #[Value.ref b] below meth c H locs (100 + i) (12000 + 3 * i) (lw_Z below #[Value.ref b] s) (F0 m 1024 ls []) := by
  obtain ⟨hx, hb, hr, hml, hown, hts0, hX, hbl, hlocks, hgv⟩ := id C0
  have hts : ∀ w ∈ wsL_law, w.before #[Value.ref b] s = true := fun w h => hts0 w (wsL_law_in w h)
  have hA : ∀ q : Nat, s.heap.size ≤ q → sA s q := fun _ h => h
  have hbA : ¬ sA s b := Nat.not_le.mpr hbl
  obtain ⟨σ, sh, LP, Z⟩ := u
  have hZ : shOK sh LP Z := hOK _ _ hR
  have hP1 : va_P D vwCl (cW aC cs sh LP Z σ) H := hP1
  have hD1 : va_D (sA s) (cW aC cs sh LP Z σ) := hD1
  obtain ⟨F, r, σ2, v2, hcx, hcm, hpost⟩ := hs (σ, sh, LP, Z) v (xs (x3 + (1 : Int32)).toNatClampNeg) hR
  refine lv_aload_n hx hb dL_law_1024 rfl (lv_at hl 1 rfl) ?_
  refine lv_aload_n hx hb dL_law_1025 rfl (lv_at hl 0 rfl) ?_
  refine lv_iload_n hx hb dL_law_1026 rfl (lv_at hl 3 rfl) ?_
  refine lv_iconst (v := (1 : Int32)) hx hb dL_law_1027 (by decide) ?_
  refine lv_iadd hx hb dL_law_1028 ?_
  refine va_sld hx hb hX hbl hbA hS (lw_in ex3 hi hL (k := 1) (by decide) rfl) dL_law_1029 ?_
  refine lcall (wf := (cW aC cs sh LP Z)) (wr := mW aM cs v) (va_runV (As := [.int (xs (x3 + (1 : Int32)).toNatClampNeg)]) (rest := []) ⟨hx, hb, hml, hown, hts⟩ (kX11_bar l D cs aC sh LP Z hZ σ F (xs (x3 + (1 : Int32)).toNatClampNeg) r σ2 hcx _) (cwV 1 hts gL_law_X11_bar rfl rfl rfl (by decide +kernel) ⟨Nat.le_of_ble_eq_true rfl, Nat.le_of_ble_eq_true rfl⟩) (pQ_v hP1 hK hD1 (va_recv hK.1 hP1 (ci := 10) (q0 := 0) rfl rfl)) rfl rfl hl.1 rfl (lv_room (Nat.le_of_ble_eq_true rfl)) dL_law_1030 ⟨by show 100 + i + 0 ≤ 600000; omega, by show 12000 + 3 * i + 0 ≤ room_1.slots; have := rs_ge; omega⟩) hD1 hP2 hdj hS hA (fun r9 u9 H locs hw hP1 hD1 hP2 hdj hS => ?_)
  obtain ⟨rfl, rfl⟩ := hw
  refine lv_aload_n hx hb dL_law_1033 rfl (lv_at hl 2 rfl) ?_
  refine lv_aload_n hx hb dL_law_1034 rfl (lv_at hl 0 rfl) ?_
  refine lv_iload_n hx hb dL_law_1035 rfl (lv_at hl 3 rfl) ?_
  refine lv_iconst (v := (1 : Int32)) hx hb dL_law_1036 (by decide) ?_
  refine lv_iadd hx hb dL_law_1037 ?_
  refine va_sld hx hb hX hbl hbA hS (lw_in ex3 hi hL (k := 1) (by decide) rfl) dL_law_1038 ?_
  refine lcall (wf := (mW aM cs)) (wr := (cW aC cs sh LP Z u9)) (va_runV (As := [.int (xs (x3 + (1 : Int32)).toNatClampNeg)]) (rest := [.int r9]) ⟨hx, hb, hml, hown, hts⟩ (kX12_bar l D cs aM v (xs (x3 + (1 : Int32)).toNatClampNeg) r9 v2 hcm _) (cwV 1 hts gL_law_X12_bar rfl rfl rfl (by decide +kernel) ⟨Nat.le_of_ble_eq_true rfl, Nat.le_of_ble_eq_true rfl⟩) (pQ_v hP2 hK hD2 (va_recv hK.1 hP2 (ci := 11) (q0 := 0) rfl rfl)) rfl rfl hl.1 rfl (lv_room (Nat.le_of_ble_eq_true rfl)) dL_law_1039 ⟨by show 100 + i + 0 + 0 ≤ 600000; omega, by show 12000 + 3 * i + 0 + 0 ≤ room_1.slots; have := rs_ge; omega⟩) hD2 hP1 hdj.symm hS hA (fun r8 v8 H locs hw hP2 hD2 hP1 hdj2 hS => ?_)
  obtain ⟨rfl, rfl⟩ := hw
  have hdj := hdj2.symm
  refine lv_icmp_eq (tgt := 1371) hx hb dL_law_1042 (by decide) (fun _ => ?_) (fun c9 => absurd rfl c9)
  refine W.widen (k := 100 + (i + 7)) (n := 12000 + 3 * (i + 7)) (by omega) (by omega) ?_
  exact kk _ _ _ _ _ hpost hP1 hD1 hP2 hD2 hdj hS hl
set_option maxHeartbeats 4000000 in
set_option maxRecDepth 100000 in
theorem law_way {p : Program} {l : Launch} {e : Env} {s : State} {m : MethodId} {below : List Frame} {meth : Method} {c : Code} {b L : Nat} {xs : Nat → Int32} (hL : L ≤ 3584) (C0 : lw_At p s m meth c b L xs) {D : va_G} {cs : Nat → ClassId} (hK : KK D cs s) (hG : GT (sA s) s) {aC aM : Nat → Nat} {Rel : SS → (Nat → Nat → Int32) → Prop} (hOK : ∀ u v, Rel u v → shOK u.2.1 u.2.2.1 u.2.2.2) (hs : st_way Rel) (i : Nat) (hi : i + 7 ≤ L) (x3 : Int32) (ex3 : x3 = nI i) (u : SS) (v : Nat → Nat → Int32) (hR : Rel u v) (H : Heap) (locs : List Loc) (ls : Array Slot) (hP1 : va_P D vwCl (cWs aC cs u) H) (hD1 : va_D (sA s) (cWs aC cs u)) (hP2 : va_P D vwCl (mW aM cs v) H) (hD2 : va_D (sA s) (mW aM cs v)) (hdj : dj (cWs aC cs u) (mW aM cs v)) (hS : va_S (sA s) s.heap H locs) (hl : lv_has ls 4 [(0, .ref b), (1, .ref (aC 0)), (2, .ref (aM 0)), (3, .int x3)]) (kk : ∀ (u : SS) (v : Nat → Nat → Int32) (H : Heap) (locs : List Loc) (ls : Array Slot), Rel u v → va_P D vwCl (cWs aC cs u) H → va_D (sA s) (cWs aC cs u) → va_P D vwCl (mW aM cs v) H → va_D (sA s) (mW aM cs v) → dj (cWs aC cs u) (mW aM cs v) → va_S (sA s) s.heap H locs → lv_has ls 4 [(0, .ref b), (1, .ref (aC 0)), (2, .ref (aM 0)), (3, .int x3)] → W p l e room_1 s m #[Value.ref b] below meth c H locs (100 + (i + 7)) (12000 + 3 * (i + 7)) (lw_Z below #[Value.ref b] s) (F0 m 1371 ls [])) : W p l e room_1 s m #[Value.ref b] below meth c H locs (100 + i) (12000 + 3 * i) (lw_Z below #[Value.ref b] s) (F0 m 1047 ls []) := by
  obtain ⟨hx, hb, hr, hml, hown, hts0, hX, hbl, hlocks, hgv⟩ := id C0
  have hts : ∀ w ∈ wsL_law, w.before #[Value.ref b] s = true := fun w h => hts0 w (wsL_law_in w h)
  have hA : ∀ q : Nat, s.heap.size ≤ q → sA s q := fun _ h => h
  have hbA : ¬ sA s b := Nat.not_le.mpr hbl
  obtain ⟨σ, sh, LP, Z⟩ := u
  have hZ : shOK sh LP Z := hOK _ _ hR
  have hP1 : va_P D vwCl (cW aC cs sh LP Z σ) H := hP1
  have hD1 : va_D (sA s) (cW aC cs sh LP Z σ) := hD1
  obtain ⟨F, r, σ2, v2, hcx, hcm, hpost⟩ := hs (σ, sh, LP, Z) v (xs (x3 + (1 : Int32)).toNatClampNeg) hR
  refine lv_aload_n hx hb dL_law_1047 rfl (lv_at hl 1 rfl) ?_
  refine lv_aload_n hx hb dL_law_1048 rfl (lv_at hl 0 rfl) ?_
  refine lv_iload_n hx hb dL_law_1049 rfl (lv_at hl 3 rfl) ?_
  refine lv_iconst (v := (1 : Int32)) hx hb dL_law_1050 (by decide) ?_
  refine lv_iadd hx hb dL_law_1051 ?_
  refine va_sld hx hb hX hbl hbA hS (lw_in ex3 hi hL (k := 1) (by decide) rfl) dL_law_1052 ?_
  refine lcall (wf := (cW aC cs sh LP Z)) (wr := mW aM cs v) (va_runV (As := [.int (xs (x3 + (1 : Int32)).toNatClampNeg)]) (rest := []) ⟨hx, hb, hml, hown, hts⟩ (kX11_way l D cs aC sh LP Z hZ σ (xs (x3 + (1 : Int32)).toNatClampNeg) r σ2 hcx _) (cwV 1 hts gL_law_X11_way rfl rfl rfl (by decide +kernel) ⟨Nat.le_of_ble_eq_true rfl, Nat.le_of_ble_eq_true rfl⟩) (pG_v hP1 hK hD1 hS hA hG (va_recv hK.1 hP1 (ci := 10) (q0 := 0) rfl rfl)) rfl rfl hl.1 rfl (lv_room (Nat.le_of_ble_eq_true rfl)) dL_law_1053 ⟨by show 100 + i + 0 ≤ 600000; omega, by show 12000 + 3 * i + 0 ≤ room_1.slots; have := rs_ge; omega⟩) hD1 hP2 hdj hS hA (fun r9 u9 H locs hw hP1 hD1 hP2 hdj hS => ?_)
  obtain ⟨rfl, rfl⟩ := hw
  refine lv_aload_n hx hb dL_law_1056 rfl (lv_at hl 2 rfl) ?_
  refine lv_aload_n hx hb dL_law_1057 rfl (lv_at hl 0 rfl) ?_
  refine lv_iload_n hx hb dL_law_1058 rfl (lv_at hl 3 rfl) ?_
  refine lv_iconst (v := (1 : Int32)) hx hb dL_law_1059 (by decide) ?_
  refine lv_iadd hx hb dL_law_1060 ?_
  refine va_sld hx hb hX hbl hbA hS (lw_in ex3 hi hL (k := 1) (by decide) rfl) dL_law_1061 ?_
  refine lcall (wf := (mW aM cs)) (wr := (cW aC cs sh LP Z u9)) (va_runV (As := [.int (xs (x3 + (1 : Int32)).toNatClampNeg)]) (rest := [.int r9]) ⟨hx, hb, hml, hown, hts⟩ (kX12_way l D cs aM v F (xs (x3 + (1 : Int32)).toNatClampNeg) r9 v2 hcm _) (cwV 1 hts gL_law_X12_way rfl rfl rfl (by decide +kernel) ⟨Nat.le_of_ble_eq_true rfl, Nat.le_of_ble_eq_true rfl⟩) (pQ_v hP2 hK hD2 (va_recv hK.1 hP2 (ci := 11) (q0 := 0) rfl rfl)) rfl rfl hl.1 rfl (lv_room (Nat.le_of_ble_eq_true rfl)) dL_law_1062 ⟨by show 100 + i + 0 + 0 ≤ 600000; omega, by show 12000 + 3 * i + 0 + 0 ≤ room_1.slots; have := rs_ge; omega⟩) hD2 hP1 hdj.symm hS hA (fun r8 v8 H locs hw hP2 hD2 hP1 hdj2 hS => ?_)
  obtain ⟨rfl, rfl⟩ := hw
  have hdj := hdj2.symm
  refine lv_icmp_eq (tgt := 1371) hx hb dL_law_1065 (by decide) (fun _ => ?_) (fun c9 => absurd rfl c9)
  refine W.widen (k := 100 + (i + 7)) (n := 12000 + 3 * (i + 7)) (by omega) (by omega) ?_
  exact kk _ _ _ _ _ hpost hP1 hD1 hP2 hD2 hdj hS hl
set_option maxHeartbeats 4000000 in
set_option maxRecDepth 100000 in
theorem law_wayAt {p : Program} {l : Launch} {e : Env} {s : State} {m : MethodId} {below : List Frame} {meth : Method} {c : Code} {b L : Nat} {xs : Nat → Int32} (hL : L ≤ 3584) (C0 : lw_At p s m meth c b L xs) {D : va_G} {cs : Nat → ClassId} (hK : KK D cs s) (hG : GT (sA s) s) {aC aM : Nat → Nat} {Rel : SS → (Nat → Nat → Int32) → Prop} (hOK : ∀ u v, Rel u v → shOK u.2.1 u.2.2.1 u.2.2.2) (hs : st_wayAt Rel) (i : Nat) (hi : i + 7 ≤ L) (x3 : Int32) (ex3 : x3 = nI i) (u : SS) (v : Nat → Nat → Int32) (hR : Rel u v) (H : Heap) (locs : List Loc) (ls : Array Slot) (hP1 : va_P D vwCl (cWs aC cs u) H) (hD1 : va_D (sA s) (cWs aC cs u)) (hP2 : va_P D vwCl (mW aM cs v) H) (hD2 : va_D (sA s) (mW aM cs v)) (hdj : dj (cWs aC cs u) (mW aM cs v)) (hS : va_S (sA s) s.heap H locs) (hl : lv_has ls 4 [(0, .ref b), (1, .ref (aC 0)), (2, .ref (aM 0)), (3, .int x3)]) (kk : ∀ (u : SS) (v : Nat → Nat → Int32) (H : Heap) (locs : List Loc) (ls : Array Slot), Rel u v → va_P D vwCl (cWs aC cs u) H → va_D (sA s) (cWs aC cs u) → va_P D vwCl (mW aM cs v) H → va_D (sA s) (mW aM cs v) → dj (cWs aC cs u) (mW aM cs v) → va_S (sA s) s.heap H locs → lv_has ls 4 [(0, .ref b), (1, .ref (aC 0)), (2, .ref (aM 0)), (3, .int x3)] → W p l e room_1 s m #[Value.ref b] below meth c H locs (100 + (i + 7)) (12000 + 3 * (i + 7)) (lw_Z below #[Value.ref b] s) (F0 m 1371 ls [])) : W p l e room_1 s m #[Value.ref b] below meth c H locs (100 + i) (12000 + 3 * i) (lw_Z below #[Value.ref b] s) (F0 m 1070 ls []) := by
  obtain ⟨hx, hb, hr, hml, hown, hts0, hX, hbl, hlocks, hgv⟩ := id C0
  have hts : ∀ w ∈ wsL_law, w.before #[Value.ref b] s = true := fun w h => hts0 w (wsL_law_in w h)
  have hA : ∀ q : Nat, s.heap.size ≤ q → sA s q := fun _ h => h
  have hbA : ¬ sA s b := Nat.not_le.mpr hbl
  obtain ⟨σ, sh, LP, Z⟩ := u
  have hZ : shOK sh LP Z := hOK _ _ hR
  have hP1 : va_P D vwCl (cW aC cs sh LP Z σ) H := hP1
  have hD1 : va_D (sA s) (cW aC cs sh LP Z σ) := hD1
  obtain ⟨F, r, σ2, v2, hcx, hcm, hpost⟩ := hs (σ, sh, LP, Z) v (xs (x3 + (1 : Int32)).toNatClampNeg) (xs (x3 + (2 : Int32)).toNatClampNeg) hR
  refine lv_aload_n hx hb dL_law_1070 rfl (lv_at hl 1 rfl) ?_
  refine lv_aload_n hx hb dL_law_1071 rfl (lv_at hl 0 rfl) ?_
  refine lv_iload_n hx hb dL_law_1072 rfl (lv_at hl 3 rfl) ?_
  refine lv_iconst (v := (1 : Int32)) hx hb dL_law_1073 (by decide) ?_
  refine lv_iadd hx hb dL_law_1074 ?_
  refine va_sld hx hb hX hbl hbA hS (lw_in ex3 hi hL (k := 1) (by decide) rfl) dL_law_1075 ?_
  refine lv_aload_n hx hb dL_law_1076 rfl (lv_at hl 0 rfl) ?_
  refine lv_iload_n hx hb dL_law_1077 rfl (lv_at hl 3 rfl) ?_
  refine lv_iconst (v := (2 : Int32)) hx hb dL_law_1078 (by decide) ?_
  refine lv_iadd hx hb dL_law_1079 ?_
  refine va_sld hx hb hX hbl hbA hS (lw_in ex3 hi hL (k := 2) (by decide) rfl) dL_law_1080 ?_
  refine lcall (wf := (cW aC cs sh LP Z)) (wr := mW aM cs v) (va_runV (As := [.int (xs (x3 + (1 : Int32)).toNatClampNeg), .int (xs (x3 + (2 : Int32)).toNatClampNeg)]) (rest := []) ⟨hx, hb, hml, hown, hts⟩ (kX11_wayAt l D cs aC sh LP Z hZ σ (xs (x3 + (1 : Int32)).toNatClampNeg) (xs (x3 + (2 : Int32)).toNatClampNeg) r σ2 hcx _) (cwV 2 hts gL_law_X11_wayAt rfl rfl rfl (by decide +kernel) ⟨Nat.le_of_ble_eq_true rfl, Nat.le_of_ble_eq_true rfl⟩) (pG_v hP1 hK hD1 hS hA hG (va_recv hK.1 hP1 (ci := 10) (q0 := 0) rfl rfl)) rfl rfl hl.1 rfl (lv_room (Nat.le_of_ble_eq_true rfl)) dL_law_1081 ⟨by show 100 + i + 0 ≤ 600000; omega, by show 12000 + 3 * i + 0 ≤ room_1.slots; have := rs_ge; omega⟩) hD1 hP2 hdj hS hA (fun r9 u9 H locs hw hP1 hD1 hP2 hdj hS => ?_)
  obtain ⟨rfl, rfl⟩ := hw
  refine lv_aload_n hx hb dL_law_1084 rfl (lv_at hl 2 rfl) ?_
  refine lv_aload_n hx hb dL_law_1085 rfl (lv_at hl 0 rfl) ?_
  refine lv_iload_n hx hb dL_law_1086 rfl (lv_at hl 3 rfl) ?_
  refine lv_iconst (v := (1 : Int32)) hx hb dL_law_1087 (by decide) ?_
  refine lv_iadd hx hb dL_law_1088 ?_
  refine va_sld hx hb hX hbl hbA hS (lw_in ex3 hi hL (k := 1) (by decide) rfl) dL_law_1089 ?_
  refine lv_aload_n hx hb dL_law_1090 rfl (lv_at hl 0 rfl) ?_
  refine lv_iload_n hx hb dL_law_1091 rfl (lv_at hl 3 rfl) ?_
  refine lv_iconst (v := (2 : Int32)) hx hb dL_law_1092 (by decide) ?_
  refine lv_iadd hx hb dL_law_1093 ?_
  refine va_sld hx hb hX hbl hbA hS (lw_in ex3 hi hL (k := 2) (by decide) rfl) dL_law_1094 ?_
  refine lcall (wf := (mW aM cs)) (wr := (cW aC cs sh LP Z u9)) (va_runV (As := [.int (xs (x3 + (1 : Int32)).toNatClampNeg), .int (xs (x3 + (2 : Int32)).toNatClampNeg)]) (rest := [.int r9]) ⟨hx, hb, hml, hown, hts⟩ (kX12_wayAt l D cs aM v F (xs (x3 + (1 : Int32)).toNatClampNeg) (xs (x3 + (2 : Int32)).toNatClampNeg) r9 v2 hcm _) (cwV 2 hts gL_law_X12_wayAt rfl rfl rfl (by decide +kernel) ⟨Nat.le_of_ble_eq_true rfl, Nat.le_of_ble_eq_true rfl⟩) (pQ_v hP2 hK hD2 (va_recv hK.1 hP2 (ci := 11) (q0 := 0) rfl rfl)) rfl rfl hl.1 rfl (lv_room (Nat.le_of_ble_eq_true rfl)) dL_law_1095 ⟨by show 100 + i + 0 + 0 ≤ 600000; omega, by show 12000 + 3 * i + 0 + 0 ≤ room_1.slots; have := rs_ge; omega⟩) hD2 hP1 hdj.symm hS hA (fun r8 v8 H locs hw hP2 hD2 hP1 hdj2 hS => ?_)
  obtain ⟨rfl, rfl⟩ := hw
  have hdj := hdj2.symm
  refine lv_icmp_eq (tgt := 1371) hx hb dL_law_1098 (by decide) (fun _ => ?_) (fun c9 => absurd rfl c9)
  refine W.widen (k := 100 + (i + 7)) (n := 12000 + 3 * (i + 7)) (by omega) (by omega) ?_
  exact kk _ _ _ _ _ hpost hP1 hD1 hP2 hD2 hdj hS hl
set_option maxHeartbeats 4000000 in
set_option maxRecDepth 100000 in
theorem law_heap {p : Program} {l : Launch} {e : Env} {s : State} {m : MethodId} {below : List Frame} {meth : Method} {c : Code} {b L : Nat} {xs : Nat → Int32} (hL : L ≤ 3584) (C0 : lw_At p s m meth c b L xs) {D : va_G} {cs : Nat → ClassId} (hK : KK D cs s) (hG : GT (sA s) s) {aC aM : Nat → Nat} {Rel : SS → (Nat → Nat → Int32) → Prop} (hOK : ∀ u v, Rel u v → shOK u.2.1 u.2.2.1 u.2.2.2) (hs : st_heap Rel) (i : Nat) (hi : i + 7 ≤ L) (x3 : Int32) (ex3 : x3 = nI i) (u : SS) (v : Nat → Nat → Int32) (hR : Rel u v) (H : Heap) (locs : List Loc) (ls : Array Slot) (hP1 : va_P D vwCl (cWs aC cs u) H) (hD1 : va_D (sA s) (cWs aC cs u)) (hP2 : va_P D vwCl (mW aM cs v) H) (hD2 : va_D (sA s) (mW aM cs v)) (hdj : dj (cWs aC cs u) (mW aM cs v)) (hS : va_S (sA s) s.heap H locs) (hl : lv_has ls 4 [(0, .ref b), (1, .ref (aC 0)), (2, .ref (aM 0)), (3, .int x3)]) (kk : ∀ (u : SS) (v : Nat → Nat → Int32) (H : Heap) (locs : List Loc) (ls : Array Slot), Rel u v → va_P D vwCl (cWs aC cs u) H → va_D (sA s) (cWs aC cs u) → va_P D vwCl (mW aM cs v) H → va_D (sA s) (mW aM cs v) → dj (cWs aC cs u) (mW aM cs v) → va_S (sA s) s.heap H locs → lv_has ls 4 [(0, .ref b), (1, .ref (aC 0)), (2, .ref (aM 0)), (3, .int x3)] → W p l e room_1 s m #[Value.ref b] below meth c H locs (100 + (i + 7)) (12000 + 3 * (i + 7)) (lw_Z below #[Value.ref b] s) (F0 m 1371 ls [])) : W p l e room_1 s m #[Value.ref b] below meth c H locs (100 + i) (12000 + 3 * i) (lw_Z below #[Value.ref b] s) (F0 m 1103 ls []) := by
  obtain ⟨hx, hb, hr, hml, hown, hts0, hX, hbl, hlocks, hgv⟩ := id C0
  have hts : ∀ w ∈ wsL_law, w.before #[Value.ref b] s = true := fun w h => hts0 w (wsL_law_in w h)
  have hA : ∀ q : Nat, s.heap.size ≤ q → sA s q := fun _ h => h
  have hbA : ¬ sA s b := Nat.not_le.mpr hbl
  obtain ⟨σ, sh, LP, Z⟩ := u
  have hZ : shOK sh LP Z := hOK _ _ hR
  have hP1 : va_P D vwCl (cW aC cs sh LP Z σ) H := hP1
  have hD1 : va_D (sA s) (cW aC cs sh LP Z σ) := hD1
  obtain ⟨F, r, hcx, hcm, hpost⟩ := hs (σ, sh, LP, Z) v (xs (x3 + (1 : Int32)).toNatClampNeg) hR
  refine lv_aload_n hx hb dL_law_1103 rfl (lv_at hl 1 rfl) ?_
  refine lv_aload_n hx hb dL_law_1104 rfl (lv_at hl 0 rfl) ?_
  refine lv_iload_n hx hb dL_law_1105 rfl (lv_at hl 3 rfl) ?_
  refine lv_iconst (v := (1 : Int32)) hx hb dL_law_1106 (by decide) ?_
  refine lv_iadd hx hb dL_law_1107 ?_
  refine va_sld hx hb hX hbl hbA hS (lw_in ex3 hi hL (k := 1) (by decide) rfl) dL_law_1108 ?_
  refine mcallS (va_runV (As := [.int (xs (x3 + (1 : Int32)).toNatClampNeg)]) (rest := []) ⟨hx, hb, hml, hown, hts⟩ (kX11_heap l D cs aC sh LP Z hZ σ F (xs (x3 + (1 : Int32)).toNatClampNeg) r hcx) (cwV 1 hts gL_law_X11_heap rfl rfl rfl (by decide +kernel) ⟨Nat.le_of_ble_eq_true rfl, Nat.le_of_ble_eq_true rfl⟩) (pR_v hP1 hK (va_recv hK.1 hP1 (ci := 10) (q0 := 0) rfl rfl)) rfl rfl hl.1 rfl (lv_room (Nat.le_of_ble_eq_true rfl)) dL_law_1109 ⟨by show 100 + i + 0 ≤ 600000; omega, by show 12000 + 3 * i + 0 ≤ room_1.slots; have := rs_ge; omega⟩) ?_
  refine lv_aload_n hx hb dL_law_1112 rfl (lv_at hl 2 rfl) ?_
  refine lv_aload_n hx hb dL_law_1113 rfl (lv_at hl 0 rfl) ?_
  refine lv_iload_n hx hb dL_law_1114 rfl (lv_at hl 3 rfl) ?_
  refine lv_iconst (v := (1 : Int32)) hx hb dL_law_1115 (by decide) ?_
  refine lv_iadd hx hb dL_law_1116 ?_
  refine va_sld hx hb hX hbl hbA hS (lw_in ex3 hi hL (k := 1) (by decide) rfl) dL_law_1117 ?_
  refine mcallS (va_runV (As := [.int (xs (x3 + (1 : Int32)).toNatClampNeg)]) (rest := [.int r]) ⟨hx, hb, hml, hown, hts⟩ (kX12_heap l D cs aM v F (xs (x3 + (1 : Int32)).toNatClampNeg) r hcm) (cwV 1 hts gL_law_X12_heap rfl rfl rfl (by decide +kernel) ⟨Nat.le_of_ble_eq_true rfl, Nat.le_of_ble_eq_true rfl⟩) (pR_v hP2 hK (va_recv hK.1 hP2 (ci := 11) (q0 := 0) rfl rfl)) rfl rfl hl.1 rfl (lv_room (Nat.le_of_ble_eq_true rfl)) dL_law_1118 ⟨by show 100 + i + 0 ≤ 600000; omega, by show 12000 + 3 * i + 0 ≤ room_1.slots; have := rs_ge; omega⟩) ?_
  refine lv_icmp_eq (tgt := 1371) hx hb dL_law_1121 (by decide) (fun _ => ?_) (fun c9 => absurd rfl c9)
  refine W.widen (k := 100 + (i + 7)) (n := 12000 + 3 * (i + 7)) (by omega) (by omega) ?_
  exact kk _ _ _ _ _ hpost hP1 hD1 hP2 hD2 hdj hS hl
set_option maxHeartbeats 4000000 in
set_option maxRecDepth 100000 in
theorem law_sheet {p : Program} {l : Launch} {e : Env} {s : State} {m : MethodId} {below : List Frame} {meth : Method} {c : Code} {b L : Nat} {xs : Nat → Int32} (hL : L ≤ 3584) (C0 : lw_At p s m meth c b L xs) {D : va_G} {cs : Nat → ClassId} (hK : KK D cs s) (hG : GT (sA s) s) {aC aM : Nat → Nat} {Rel : SS → (Nat → Nat → Int32) → Prop} (hOK : ∀ u v, Rel u v → shOK u.2.1 u.2.2.1 u.2.2.2) (hs : st_sheet Rel) (i : Nat) (hi : i + 7 ≤ L) (x3 : Int32) (ex3 : x3 = nI i) (u : SS) (v : Nat → Nat → Int32) (hR : Rel u v) (H : Heap) (locs : List Loc) (ls : Array Slot) (hP1 : va_P D vwCl (cWs aC cs u) H) (hD1 : va_D (sA s) (cWs aC cs u)) (hP2 : va_P D vwCl (mW aM cs v) H) (hD2 : va_D (sA s) (mW aM cs v)) (hdj : dj (cWs aC cs u) (mW aM cs v)) (hS : va_S (sA s) s.heap H locs) (hl : lv_has ls 4 [(0, .ref b), (1, .ref (aC 0)), (2, .ref (aM 0)), (3, .int x3)]) (kk : ∀ (u : SS) (v : Nat → Nat → Int32) (H : Heap) (locs : List Loc) (ls : Array Slot), Rel u v → va_P D vwCl (cWs aC cs u) H → va_D (sA s) (cWs aC cs u) → va_P D vwCl (mW aM cs v) H → va_D (sA s) (mW aM cs v) → dj (cWs aC cs u) (mW aM cs v) → va_S (sA s) s.heap H locs → lv_has ls 4 [(0, .ref b), (1, .ref (aC 0)), (2, .ref (aM 0)), (3, .int x3)] → W p l e room_1 s m #[Value.ref b] below meth c H locs (100 + (i + 7)) (12000 + 3 * (i + 7)) (lw_Z below #[Value.ref b] s) (F0 m 1371 ls [])) : W p l e room_1 s m #[Value.ref b] below meth c H locs (100 + i) (12000 + 3 * i) (lw_Z below #[Value.ref b] s) (F0 m 1126 ls []) := by
  obtain ⟨hx, hb, hr, hml, hown, hts0, hX, hbl, hlocks, hgv⟩ := id C0
  have hts : ∀ w ∈ wsL_law, w.before #[Value.ref b] s = true := fun w h => hts0 w (wsL_law_in w h)
  have hA : ∀ q : Nat, s.heap.size ≤ q → sA s q := fun _ h => h
  have hbA : ¬ sA s b := Nat.not_le.mpr hbl
  obtain ⟨σ, sh, LP, Z⟩ := u
  have hZ : shOK sh LP Z := hOK _ _ hR
  have hP1 : va_P D vwCl (cW aC cs sh LP Z σ) H := hP1
  have hD1 : va_D (sA s) (cW aC cs sh LP Z σ) := hD1
  obtain ⟨F, r, σ2, v2, hcx, hcm, hpost⟩ := hs (σ, sh, LP, Z) v (xs (x3 + (1 : Int32)).toNatClampNeg) (xs (x3 + (2 : Int32)).toNatClampNeg) (xs (x3 + (3 : Int32)).toNatClampNeg) hR
  refine lv_aload_n hx hb dL_law_1126 rfl (lv_at hl 1 rfl) ?_
  refine lv_aload_n hx hb dL_law_1127 rfl (lv_at hl 0 rfl) ?_
  refine lv_iload_n hx hb dL_law_1128 rfl (lv_at hl 3 rfl) ?_
  refine lv_iconst (v := (1 : Int32)) hx hb dL_law_1129 (by decide) ?_
  refine lv_iadd hx hb dL_law_1130 ?_
  refine va_sld hx hb hX hbl hbA hS (lw_in ex3 hi hL (k := 1) (by decide) rfl) dL_law_1131 ?_
  refine lv_aload_n hx hb dL_law_1132 rfl (lv_at hl 0 rfl) ?_
  refine lv_iload_n hx hb dL_law_1133 rfl (lv_at hl 3 rfl) ?_
  refine lv_iconst (v := (2 : Int32)) hx hb dL_law_1134 (by decide) ?_
  refine lv_iadd hx hb dL_law_1135 ?_
  refine va_sld hx hb hX hbl hbA hS (lw_in ex3 hi hL (k := 2) (by decide) rfl) dL_law_1136 ?_
  refine lv_aload_n hx hb dL_law_1137 rfl (lv_at hl 0 rfl) ?_
  refine lv_iload_n hx hb dL_law_1138 rfl (lv_at hl 3 rfl) ?_
  refine lv_iconst (v := (3 : Int32)) hx hb dL_law_1139 (by decide) ?_
  refine lv_iadd hx hb dL_law_1140 ?_
  refine va_sld hx hb hX hbl hbA hS (lw_in ex3 hi hL (k := 3) (by decide) rfl) dL_law_1141 ?_
  refine lcall (wf := (cW aC cs sh LP Z)) (wr := mW aM cs v) (va_runV (As := [.int (xs (x3 + (1 : Int32)).toNatClampNeg), .int (xs (x3 + (2 : Int32)).toNatClampNeg), .int (xs (x3 + (3 : Int32)).toNatClampNeg)]) (rest := []) ⟨hx, hb, hml, hown, hts⟩ (kX11_sheet l D cs aC sh LP Z hZ σ F (xs (x3 + (1 : Int32)).toNatClampNeg) (xs (x3 + (2 : Int32)).toNatClampNeg) (xs (x3 + (3 : Int32)).toNatClampNeg) r σ2 hcx _) (cwV 3 hts gL_law_X11_sheet rfl rfl rfl (by decide +kernel) ⟨Nat.le_of_ble_eq_true rfl, Nat.le_of_ble_eq_true rfl⟩) (pQ_v hP1 hK hD1 (va_recv hK.1 hP1 (ci := 10) (q0 := 0) rfl rfl)) rfl rfl hl.1 rfl (lv_room (Nat.le_of_ble_eq_true rfl)) dL_law_1142 ⟨by show 100 + i + 0 ≤ 600000; omega, by show 12000 + 3 * i + 0 ≤ room_1.slots; have := rs_ge; omega⟩) hD1 hP2 hdj hS hA (fun r9 u9 H locs hw hP1 hD1 hP2 hdj hS => ?_)
  obtain ⟨rfl, rfl⟩ := hw
  refine lv_aload_n hx hb dL_law_1145 rfl (lv_at hl 2 rfl) ?_
  refine lv_aload_n hx hb dL_law_1146 rfl (lv_at hl 0 rfl) ?_
  refine lv_iload_n hx hb dL_law_1147 rfl (lv_at hl 3 rfl) ?_
  refine lv_iconst (v := (1 : Int32)) hx hb dL_law_1148 (by decide) ?_
  refine lv_iadd hx hb dL_law_1149 ?_
  refine va_sld hx hb hX hbl hbA hS (lw_in ex3 hi hL (k := 1) (by decide) rfl) dL_law_1150 ?_
  refine lv_aload_n hx hb dL_law_1151 rfl (lv_at hl 0 rfl) ?_
  refine lv_iload_n hx hb dL_law_1152 rfl (lv_at hl 3 rfl) ?_
  refine lv_iconst (v := (2 : Int32)) hx hb dL_law_1153 (by decide) ?_
  refine lv_iadd hx hb dL_law_1154 ?_
  refine va_sld hx hb hX hbl hbA hS (lw_in ex3 hi hL (k := 2) (by decide) rfl) dL_law_1155 ?_
  refine lv_aload_n hx hb dL_law_1156 rfl (lv_at hl 0 rfl) ?_
  refine lv_iload_n hx hb dL_law_1157 rfl (lv_at hl 3 rfl) ?_
  refine lv_iconst (v := (3 : Int32)) hx hb dL_law_1158 (by decide) ?_
  refine lv_iadd hx hb dL_law_1159 ?_
  refine va_sld hx hb hX hbl hbA hS (lw_in ex3 hi hL (k := 3) (by decide) rfl) dL_law_1160 ?_
  refine lcall (wf := (mW aM cs)) (wr := (cW aC cs sh LP Z u9)) (va_runV (As := [.int (xs (x3 + (1 : Int32)).toNatClampNeg), .int (xs (x3 + (2 : Int32)).toNatClampNeg), .int (xs (x3 + (3 : Int32)).toNatClampNeg)]) (rest := [.int r9]) ⟨hx, hb, hml, hown, hts⟩ (kX12_sheet l D cs aM v F (xs (x3 + (1 : Int32)).toNatClampNeg) (xs (x3 + (2 : Int32)).toNatClampNeg) (xs (x3 + (3 : Int32)).toNatClampNeg) r9 v2 hcm _) (cwV 3 hts gL_law_X12_sheet rfl rfl rfl (by decide +kernel) ⟨Nat.le_of_ble_eq_true rfl, Nat.le_of_ble_eq_true rfl⟩) (pQ_v hP2 hK hD2 (va_recv hK.1 hP2 (ci := 11) (q0 := 0) rfl rfl)) rfl rfl hl.1 rfl (lv_room (Nat.le_of_ble_eq_true rfl)) dL_law_1161 ⟨by show 100 + i + 0 + 0 ≤ 600000; omega, by show 12000 + 3 * i + 0 + 0 ≤ room_1.slots; have := rs_ge; omega⟩) hD2 hP1 hdj.symm hS hA (fun r8 v8 H locs hw hP2 hD2 hP1 hdj2 hS => ?_)
  obtain ⟨rfl, rfl⟩ := hw
  have hdj := hdj2.symm
  refine lv_icmp_eq (tgt := 1371) hx hb dL_law_1164 (by decide) (fun _ => ?_) (fun c9 => absurd rfl c9)
  refine W.widen (k := 100 + (i + 7)) (n := 12000 + 3 * (i + 7)) (by omega) (by omega) ?_
  exact kk _ _ _ _ _ hpost hP1 hD1 hP2 hD2 hdj hS hl
set_option maxHeartbeats 4000000 in
set_option maxRecDepth 100000 in
theorem law_drop {p : Program} {l : Launch} {e : Env} {s : State} {m : MethodId} {below : List Frame} {meth : Method} {c : Code} {b L : Nat} {xs : Nat → Int32} (hL : L ≤ 3584) (C0 : lw_At p s m meth c b L xs) {D : va_G} {cs : Nat → ClassId} (hK : KK D cs s) (hG : GT (sA s) s) {aC aM : Nat → Nat} {Rel : SS → (Nat → Nat → Int32) → Prop} (hOK : ∀ u v, Rel u v → shOK u.2.1 u.2.2.1 u.2.2.2) (hs : st_drop Rel) (i : Nat) (hi : i + 7 ≤ L) (x3 : Int32) (ex3 : x3 = nI i) (u : SS) (v : Nat → Nat → Int32) (hR : Rel u v) (H : Heap) (locs : List Loc) (ls : Array Slot) (hP1 : va_P D vwCl (cWs aC cs u) H) (hD1 : va_D (sA s) (cWs aC cs u)) (hP2 : va_P D vwCl (mW aM cs v) H) (hD2 : va_D (sA s) (mW aM cs v)) (hdj : dj (cWs aC cs u) (mW aM cs v)) (hS : va_S (sA s) s.heap H locs) (hl : lv_has ls 4 [(0, .ref b), (1, .ref (aC 0)), (2, .ref (aM 0)), (3, .int x3)]) (kk : ∀ (u : SS) (v : Nat → Nat → Int32) (H : Heap) (locs : List Loc) (ls : Array Slot), Rel u v → va_P D vwCl (cWs aC cs u) H → va_D (sA s) (cWs aC cs u) → va_P D vwCl (mW aM cs v) H → va_D (sA s) (mW aM cs v) → dj (cWs aC cs u) (mW aM cs v) → va_S (sA s) s.heap H locs → lv_has ls 4 [(0, .ref b), (1, .ref (aC 0)), (2, .ref (aM 0)), (3, .int x3)] → W p l e room_1 s m #[Value.ref b] below meth c H locs (100 + (i + 7)) (12000 + 3 * (i + 7)) (lw_Z below #[Value.ref b] s) (F0 m 1371 ls [])) : W p l e room_1 s m #[Value.ref b] below meth c H locs (100 + i) (12000 + 3 * i) (lw_Z below #[Value.ref b] s) (F0 m 1169 ls []) := by
  obtain ⟨hx, hb, hr, hml, hown, hts0, hX, hbl, hlocks, hgv⟩ := id C0
  have hts : ∀ w ∈ wsL_law, w.before #[Value.ref b] s = true := fun w h => hts0 w (wsL_law_in w h)
  have hA : ∀ q : Nat, s.heap.size ≤ q → sA s q := fun _ h => h
  have hbA : ¬ sA s b := Nat.not_le.mpr hbl
  obtain ⟨σ, sh, LP, Z⟩ := u
  have hZ : shOK sh LP Z := hOK _ _ hR
  have hP1 : va_P D vwCl (cW aC cs sh LP Z σ) H := hP1
  have hD1 : va_D (sA s) (cW aC cs sh LP Z σ) := hD1
  obtain ⟨F, r, σ2, v2, hcx, hcm, hpost⟩ := hs (σ, sh, LP, Z) v (xs (x3 + (1 : Int32)).toNatClampNeg) hR
  refine lv_aload_n hx hb dL_law_1169 rfl (lv_at hl 1 rfl) ?_
  refine lv_aload_n hx hb dL_law_1170 rfl (lv_at hl 0 rfl) ?_
  refine lv_iload_n hx hb dL_law_1171 rfl (lv_at hl 3 rfl) ?_
  refine lv_iconst (v := (1 : Int32)) hx hb dL_law_1172 (by decide) ?_
  refine lv_iadd hx hb dL_law_1173 ?_
  refine va_sld hx hb hX hbl hbA hS (lw_in ex3 hi hL (k := 1) (by decide) rfl) dL_law_1174 ?_
  refine lcall (wf := (cW aC cs sh LP Z)) (wr := mW aM cs v) (va_runV (As := [.int (xs (x3 + (1 : Int32)).toNatClampNeg)]) (rest := []) ⟨hx, hb, hml, hown, hts⟩ (kX11_drop l D cs aC sh LP Z hZ σ (xs (x3 + (1 : Int32)).toNatClampNeg) r σ2 hcx _) (cwV 1 hts gL_law_X11_drop rfl rfl rfl (by decide +kernel) ⟨Nat.le_of_ble_eq_true rfl, Nat.le_of_ble_eq_true rfl⟩) (pQ_v hP1 hK hD1 (va_recv hK.1 hP1 (ci := 10) (q0 := 0) rfl rfl)) rfl rfl hl.1 rfl (lv_room (Nat.le_of_ble_eq_true rfl)) dL_law_1175 ⟨by show 100 + i + 0 ≤ 600000; omega, by show 12000 + 3 * i + 0 ≤ room_1.slots; have := rs_ge; omega⟩) hD1 hP2 hdj hS hA (fun r9 u9 H locs hw hP1 hD1 hP2 hdj hS => ?_)
  obtain ⟨rfl, rfl⟩ := hw
  refine lv_aload_n hx hb dL_law_1178 rfl (lv_at hl 2 rfl) ?_
  refine lv_aload_n hx hb dL_law_1179 rfl (lv_at hl 0 rfl) ?_
  refine lv_iload_n hx hb dL_law_1180 rfl (lv_at hl 3 rfl) ?_
  refine lv_iconst (v := (1 : Int32)) hx hb dL_law_1181 (by decide) ?_
  refine lv_iadd hx hb dL_law_1182 ?_
  refine va_sld hx hb hX hbl hbA hS (lw_in ex3 hi hL (k := 1) (by decide) rfl) dL_law_1183 ?_
  refine lcall (wf := (mW aM cs)) (wr := (cW aC cs sh LP Z u9)) (va_runV (As := [.int (xs (x3 + (1 : Int32)).toNatClampNeg)]) (rest := [.int r9]) ⟨hx, hb, hml, hown, hts⟩ (kX12_drop l D cs aM v (xs (x3 + (1 : Int32)).toNatClampNeg) r9 v2 hcm _) (cwV 1 hts gL_law_X12_drop rfl rfl rfl (by decide +kernel) ⟨Nat.le_of_ble_eq_true rfl, Nat.le_of_ble_eq_true rfl⟩) (pQ_v hP2 hK hD2 (va_recv hK.1 hP2 (ci := 11) (q0 := 0) rfl rfl)) rfl rfl hl.1 rfl (lv_room (Nat.le_of_ble_eq_true rfl)) dL_law_1184 ⟨by show 100 + i + 0 + 0 ≤ 600000; omega, by show 12000 + 3 * i + 0 + 0 ≤ room_1.slots; have := rs_ge; omega⟩) hD2 hP1 hdj.symm hS hA (fun r8 v8 H locs hw hP2 hD2 hP1 hdj2 hS => ?_)
  obtain ⟨rfl, rfl⟩ := hw
  have hdj := hdj2.symm
  refine lv_icmp_eq (tgt := 1371) hx hb dL_law_1187 (by decide) (fun _ => ?_) (fun c9 => absurd rfl c9)
  refine W.widen (k := 100 + (i + 7)) (n := 12000 + 3 * (i + 7)) (by omega) (by omega) ?_
  exact kk _ _ _ _ _ hpost hP1 hD1 hP2 hD2 hdj hS hl
set_option maxHeartbeats 4000000 in
set_option maxRecDepth 100000 in
theorem law_item {p : Program} {l : Launch} {e : Env} {s : State} {m : MethodId} {below : List Frame} {meth : Method} {c : Code} {b L : Nat} {xs : Nat → Int32} (hL : L ≤ 3584) (C0 : lw_At p s m meth c b L xs) {D : va_G} {cs : Nat → ClassId} (hK : KK D cs s) (hG : GT (sA s) s) {aC aM : Nat → Nat} {Rel : SS → (Nat → Nat → Int32) → Prop} (hOK : ∀ u v, Rel u v → shOK u.2.1 u.2.2.1 u.2.2.2) (hs : st_item Rel) (i : Nat) (hi : i + 7 ≤ L) (x3 : Int32) (ex3 : x3 = nI i) (u : SS) (v : Nat → Nat → Int32) (hR : Rel u v) (H : Heap) (locs : List Loc) (ls : Array Slot) (hP1 : va_P D vwCl (cWs aC cs u) H) (hD1 : va_D (sA s) (cWs aC cs u)) (hP2 : va_P D vwCl (mW aM cs v) H) (hD2 : va_D (sA s) (mW aM cs v)) (hdj : dj (cWs aC cs u) (mW aM cs v)) (hS : va_S (sA s) s.heap H locs) (hl : lv_has ls 4 [(0, .ref b), (1, .ref (aC 0)), (2, .ref (aM 0)), (3, .int x3)]) (kk : ∀ (u : SS) (v : Nat → Nat → Int32) (H : Heap) (locs : List Loc) (ls : Array Slot), Rel u v → va_P D vwCl (cWs aC cs u) H → va_D (sA s) (cWs aC cs u) → va_P D vwCl (mW aM cs v) H → va_D (sA s) (mW aM cs v) → dj (cWs aC cs u) (mW aM cs v) → va_S (sA s) s.heap H locs → lv_has ls 4 [(0, .ref b), (1, .ref (aC 0)), (2, .ref (aM 0)), (3, .int x3)] → W p l e room_1 s m #[Value.ref b] below meth c H locs (100 + (i + 7)) (12000 + 3 * (i + 7)) (lw_Z below #[Value.ref b] s) (F0 m 1371 ls [])) : W p l e room_1 s m #[Value.ref b] below meth c H locs (100 + i) (12000 + 3 * i) (lw_Z below #[Value.ref b] s) (F0 m 1192 ls []) := by
  obtain ⟨hx, hb, hr, hml, hown, hts0, hX, hbl, hlocks, hgv⟩ := id C0
  have hts : ∀ w ∈ wsL_law, w.before #[Value.ref b] s = true := fun w h => hts0 w (wsL_law_in w h)
  have hA : ∀ q : Nat, s.heap.size ≤ q → sA s q := fun _ h => h
  have hbA : ¬ sA s b := Nat.not_le.mpr hbl
  obtain ⟨σ, sh, LP, Z⟩ := u
  have hZ : shOK sh LP Z := hOK _ _ hR
  have hP1 : va_P D vwCl (cW aC cs sh LP Z σ) H := hP1
  have hD1 : va_D (sA s) (cW aC cs sh LP Z σ) := hD1
  obtain ⟨F, r, σ2, v2, hcx, hcm, hpost⟩ := hs (σ, sh, LP, Z) v (xs (x3 + (1 : Int32)).toNatClampNeg) (xs (x3 + (2 : Int32)).toNatClampNeg) (xs (x3 + (3 : Int32)).toNatClampNeg) (xs (x3 + (4 : Int32)).toNatClampNeg) hR
  refine lv_aload_n hx hb dL_law_1192 rfl (lv_at hl 1 rfl) ?_
  refine lv_aload_n hx hb dL_law_1193 rfl (lv_at hl 0 rfl) ?_
  refine lv_iload_n hx hb dL_law_1194 rfl (lv_at hl 3 rfl) ?_
  refine lv_iconst (v := (1 : Int32)) hx hb dL_law_1195 (by decide) ?_
  refine lv_iadd hx hb dL_law_1196 ?_
  refine va_sld hx hb hX hbl hbA hS (lw_in ex3 hi hL (k := 1) (by decide) rfl) dL_law_1197 ?_
  refine lv_aload_n hx hb dL_law_1198 rfl (lv_at hl 0 rfl) ?_
  refine lv_iload_n hx hb dL_law_1199 rfl (lv_at hl 3 rfl) ?_
  refine lv_iconst (v := (2 : Int32)) hx hb dL_law_1200 (by decide) ?_
  refine lv_iadd hx hb dL_law_1201 ?_
  refine va_sld hx hb hX hbl hbA hS (lw_in ex3 hi hL (k := 2) (by decide) rfl) dL_law_1202 ?_
  refine lv_aload_n hx hb dL_law_1203 rfl (lv_at hl 0 rfl) ?_
  refine lv_iload_n hx hb dL_law_1204 rfl (lv_at hl 3 rfl) ?_
  refine lv_iconst (v := (3 : Int32)) hx hb dL_law_1205 (by decide) ?_
  refine lv_iadd hx hb dL_law_1206 ?_
  refine va_sld hx hb hX hbl hbA hS (lw_in ex3 hi hL (k := 3) (by decide) rfl) dL_law_1207 ?_
  refine lv_aload_n hx hb dL_law_1208 rfl (lv_at hl 0 rfl) ?_
  refine lv_iload_n hx hb dL_law_1209 rfl (lv_at hl 3 rfl) ?_
  refine lv_iconst (v := (4 : Int32)) hx hb dL_law_1210 (by decide) ?_
  refine lv_iadd hx hb dL_law_1211 ?_
  refine va_sld hx hb hX hbl hbA hS (lw_in ex3 hi hL (k := 4) (by decide) rfl) dL_law_1212 ?_
  refine lcall (wf := (cW aC cs sh LP Z)) (wr := mW aM cs v) (va_runV (As := [.int (xs (x3 + (1 : Int32)).toNatClampNeg), .int (xs (x3 + (2 : Int32)).toNatClampNeg), .int (xs (x3 + (3 : Int32)).toNatClampNeg), .int (xs (x3 + (4 : Int32)).toNatClampNeg)]) (rest := []) ⟨hx, hb, hml, hown, hts⟩ (kX11_item l D cs aC sh LP Z hZ σ (xs (x3 + (1 : Int32)).toNatClampNeg) (xs (x3 + (2 : Int32)).toNatClampNeg) (xs (x3 + (3 : Int32)).toNatClampNeg) (xs (x3 + (4 : Int32)).toNatClampNeg) r σ2 hcx _) (cwV 4 hts gL_law_X11_item rfl rfl rfl (by decide +kernel) ⟨Nat.le_of_ble_eq_true rfl, Nat.le_of_ble_eq_true rfl⟩) (pQ_v hP1 hK hD1 (va_recv hK.1 hP1 (ci := 10) (q0 := 0) rfl rfl)) rfl rfl hl.1 rfl (lv_room (Nat.le_of_ble_eq_true rfl)) dL_law_1213 ⟨by show 100 + i + 0 ≤ 600000; omega, by show 12000 + 3 * i + 0 ≤ room_1.slots; have := rs_ge; omega⟩) hD1 hP2 hdj hS hA (fun r9 u9 H locs hw hP1 hD1 hP2 hdj hS => ?_)
  obtain ⟨rfl, rfl⟩ := hw
  refine lv_aload_n hx hb dL_law_1216 rfl (lv_at hl 2 rfl) ?_
  refine lv_aload_n hx hb dL_law_1217 rfl (lv_at hl 0 rfl) ?_
  refine lv_iload_n hx hb dL_law_1218 rfl (lv_at hl 3 rfl) ?_
  refine lv_iconst (v := (1 : Int32)) hx hb dL_law_1219 (by decide) ?_
  refine lv_iadd hx hb dL_law_1220 ?_
  refine va_sld hx hb hX hbl hbA hS (lw_in ex3 hi hL (k := 1) (by decide) rfl) dL_law_1221 ?_
  refine lv_aload_n hx hb dL_law_1222 rfl (lv_at hl 0 rfl) ?_
  refine lv_iload_n hx hb dL_law_1223 rfl (lv_at hl 3 rfl) ?_
  refine lv_iconst (v := (2 : Int32)) hx hb dL_law_1224 (by decide) ?_
  refine lv_iadd hx hb dL_law_1225 ?_
  refine va_sld hx hb hX hbl hbA hS (lw_in ex3 hi hL (k := 2) (by decide) rfl) dL_law_1226 ?_
  refine lv_aload_n hx hb dL_law_1227 rfl (lv_at hl 0 rfl) ?_
  refine lv_iload_n hx hb dL_law_1228 rfl (lv_at hl 3 rfl) ?_
  refine lv_iconst (v := (3 : Int32)) hx hb dL_law_1229 (by decide) ?_
  refine lv_iadd hx hb dL_law_1230 ?_
  refine va_sld hx hb hX hbl hbA hS (lw_in ex3 hi hL (k := 3) (by decide) rfl) dL_law_1231 ?_
  refine lv_aload_n hx hb dL_law_1232 rfl (lv_at hl 0 rfl) ?_
  refine lv_iload_n hx hb dL_law_1233 rfl (lv_at hl 3 rfl) ?_
  refine lv_iconst (v := (4 : Int32)) hx hb dL_law_1234 (by decide) ?_
  refine lv_iadd hx hb dL_law_1235 ?_
  refine va_sld hx hb hX hbl hbA hS (lw_in ex3 hi hL (k := 4) (by decide) rfl) dL_law_1236 ?_
  refine lcall (wf := (mW aM cs)) (wr := (cW aC cs sh LP Z u9)) (va_runV (As := [.int (xs (x3 + (1 : Int32)).toNatClampNeg), .int (xs (x3 + (2 : Int32)).toNatClampNeg), .int (xs (x3 + (3 : Int32)).toNatClampNeg), .int (xs (x3 + (4 : Int32)).toNatClampNeg)]) (rest := [.int r9]) ⟨hx, hb, hml, hown, hts⟩ (kX12_item l D cs aM v (xs (x3 + (1 : Int32)).toNatClampNeg) (xs (x3 + (2 : Int32)).toNatClampNeg) (xs (x3 + (3 : Int32)).toNatClampNeg) (xs (x3 + (4 : Int32)).toNatClampNeg) r9 v2 hcm _) (cwV 4 hts gL_law_X12_item rfl rfl rfl (by decide +kernel) ⟨Nat.le_of_ble_eq_true rfl, Nat.le_of_ble_eq_true rfl⟩) (pQ_v hP2 hK hD2 (va_recv hK.1 hP2 (ci := 11) (q0 := 0) rfl rfl)) rfl rfl hl.1 rfl (lv_room (Nat.le_of_ble_eq_true rfl)) dL_law_1237 ⟨by show 100 + i + 0 + 0 ≤ 600000; omega, by show 12000 + 3 * i + 0 + 0 ≤ room_1.slots; have := rs_ge; omega⟩) hD2 hP1 hdj.symm hS hA (fun r8 v8 H locs hw hP2 hD2 hP1 hdj2 hS => ?_)
  obtain ⟨rfl, rfl⟩ := hw
  have hdj := hdj2.symm
  refine lv_icmp_eq (tgt := 1371) hx hb dL_law_1240 (by decide) (fun _ => ?_) (fun c9 => absurd rfl c9)
  refine W.widen (k := 100 + (i + 7)) (n := 12000 + 3 * (i + 7)) (by omega) (by omega) ?_
  exact kk _ _ _ _ _ hpost hP1 hD1 hP2 hD2 hdj hS hl
set_option maxHeartbeats 4000000 in
set_option maxRecDepth 100000 in
theorem law_show {p : Program} {l : Launch} {e : Env} {s : State} {m : MethodId} {below : List Frame} {meth : Method} {c : Code} {b L : Nat} {xs : Nat → Int32} (hL : L ≤ 3584) (C0 : lw_At p s m meth c b L xs) {D : va_G} {cs : Nat → ClassId} (hK : KK D cs s) (hG : GT (sA s) s) {aC aM : Nat → Nat} {Rel : SS → (Nat → Nat → Int32) → Prop} (hOK : ∀ u v, Rel u v → shOK u.2.1 u.2.2.1 u.2.2.2) (hs : st_show Rel) (i : Nat) (hi : i + 7 ≤ L) (x3 : Int32) (ex3 : x3 = nI i) (u : SS) (v : Nat → Nat → Int32) (hR : Rel u v) (H : Heap) (locs : List Loc) (ls : Array Slot) (hP1 : va_P D vwCl (cWs aC cs u) H) (hD1 : va_D (sA s) (cWs aC cs u)) (hP2 : va_P D vwCl (mW aM cs v) H) (hD2 : va_D (sA s) (mW aM cs v)) (hdj : dj (cWs aC cs u) (mW aM cs v)) (hS : va_S (sA s) s.heap H locs) (hl : lv_has ls 4 [(0, .ref b), (1, .ref (aC 0)), (2, .ref (aM 0)), (3, .int x3)]) (kk : ∀ (u : SS) (v : Nat → Nat → Int32) (H : Heap) (locs : List Loc) (ls : Array Slot), Rel u v → va_P D vwCl (cWs aC cs u) H → va_D (sA s) (cWs aC cs u) → va_P D vwCl (mW aM cs v) H → va_D (sA s) (mW aM cs v) → dj (cWs aC cs u) (mW aM cs v) → va_S (sA s) s.heap H locs → lv_has ls 4 [(0, .ref b), (1, .ref (aC 0)), (2, .ref (aM 0)), (3, .int x3)] → W p l e room_1 s m #[Value.ref b] below meth c H locs (100 + (i + 7)) (12000 + 3 * (i + 7)) (lw_Z below #[Value.ref b] s) (F0 m 1371 ls [])) : W p l e room_1 s m #[Value.ref b] below meth c H locs (100 + i) (12000 + 3 * i) (lw_Z below #[Value.ref b] s) (F0 m 1245 ls []) := by
  obtain ⟨hx, hb, hr, hml, hown, hts0, hX, hbl, hlocks, hgv⟩ := id C0
  have hts : ∀ w ∈ wsL_law, w.before #[Value.ref b] s = true := fun w h => hts0 w (wsL_law_in w h)
  have hA : ∀ q : Nat, s.heap.size ≤ q → sA s q := fun _ h => h
  have hbA : ¬ sA s b := Nat.not_le.mpr hbl
  obtain ⟨σ, sh, LP, Z⟩ := u
  have hZ : shOK sh LP Z := hOK _ _ hR
  have hP1 : va_P D vwCl (cW aC cs sh LP Z σ) H := hP1
  have hD1 : va_D (sA s) (cW aC cs sh LP Z σ) := hD1
  obtain ⟨F, r, σ2, v2, hcx, hcm, hpost⟩ := hs (σ, sh, LP, Z) v (xs (x3 + (1 : Int32)).toNatClampNeg) (xs (x3 + (2 : Int32)).toNatClampNeg) (xs (x3 + (3 : Int32)).toNatClampNeg) (xs (x3 + (4 : Int32)).toNatClampNeg) (xs (x3 + (5 : Int32)).toNatClampNeg) hR
  refine lv_aload_n hx hb dL_law_1245 rfl (lv_at hl 1 rfl) ?_
  refine lv_aload_n hx hb dL_law_1246 rfl (lv_at hl 0 rfl) ?_
  refine lv_iload_n hx hb dL_law_1247 rfl (lv_at hl 3 rfl) ?_
  refine lv_iconst (v := (1 : Int32)) hx hb dL_law_1248 (by decide) ?_
  refine lv_iadd hx hb dL_law_1249 ?_
  refine va_sld hx hb hX hbl hbA hS (lw_in ex3 hi hL (k := 1) (by decide) rfl) dL_law_1250 ?_
  refine lv_aload_n hx hb dL_law_1251 rfl (lv_at hl 0 rfl) ?_
  refine lv_iload_n hx hb dL_law_1252 rfl (lv_at hl 3 rfl) ?_
  refine lv_iconst (v := (2 : Int32)) hx hb dL_law_1253 (by decide) ?_
  refine lv_iadd hx hb dL_law_1254 ?_
  refine va_sld hx hb hX hbl hbA hS (lw_in ex3 hi hL (k := 2) (by decide) rfl) dL_law_1255 ?_
  refine lv_aload_n hx hb dL_law_1256 rfl (lv_at hl 0 rfl) ?_
  refine lv_iload_n hx hb dL_law_1257 rfl (lv_at hl 3 rfl) ?_
  refine lv_iconst (v := (3 : Int32)) hx hb dL_law_1258 (by decide) ?_
  refine lv_iadd hx hb dL_law_1259 ?_
  refine va_sld hx hb hX hbl hbA hS (lw_in ex3 hi hL (k := 3) (by decide) rfl) dL_law_1260 ?_
  refine lv_aload_n hx hb dL_law_1261 rfl (lv_at hl 0 rfl) ?_
  refine lv_iload_n hx hb dL_law_1262 rfl (lv_at hl 3 rfl) ?_
  refine lv_iconst (v := (4 : Int32)) hx hb dL_law_1263 (by decide) ?_
  refine lv_iadd hx hb dL_law_1264 ?_
  refine va_sld hx hb hX hbl hbA hS (lw_in ex3 hi hL (k := 4) (by decide) rfl) dL_law_1265 ?_
  refine lv_aload_n hx hb dL_law_1266 rfl (lv_at hl 0 rfl) ?_
  refine lv_iload_n hx hb dL_law_1267 rfl (lv_at hl 3 rfl) ?_
  refine lv_iconst (v := (5 : Int32)) hx hb dL_law_1268 (by decide) ?_
  refine lv_iadd hx hb dL_law_1269 ?_
  refine va_sld hx hb hX hbl hbA hS (lw_in ex3 hi hL (k := 5) (by decide) rfl) dL_law_1270 ?_
  refine lcall (wf := (cW aC cs sh LP Z)) (wr := mW aM cs v) (va_runV (As := [.int (xs (x3 + (1 : Int32)).toNatClampNeg), .int (xs (x3 + (2 : Int32)).toNatClampNeg), .int (xs (x3 + (3 : Int32)).toNatClampNeg), .int (xs (x3 + (4 : Int32)).toNatClampNeg), .int (xs (x3 + (5 : Int32)).toNatClampNeg)]) (rest := []) ⟨hx, hb, hml, hown, hts⟩ (kX11_show l D cs aC sh LP Z hZ σ F (xs (x3 + (1 : Int32)).toNatClampNeg) (xs (x3 + (2 : Int32)).toNatClampNeg) (xs (x3 + (3 : Int32)).toNatClampNeg) (xs (x3 + (4 : Int32)).toNatClampNeg) (xs (x3 + (5 : Int32)).toNatClampNeg) r σ2 hcx _) (cwV 5 hts gL_law_X11_show rfl rfl rfl (by decide +kernel) ⟨Nat.le_of_ble_eq_true rfl, Nat.le_of_ble_eq_true rfl⟩) (pQ_v hP1 hK hD1 (va_recv hK.1 hP1 (ci := 10) (q0 := 0) rfl rfl)) rfl rfl hl.1 rfl (lv_room (Nat.le_of_ble_eq_true rfl)) dL_law_1271 ⟨by show 100 + i + 0 ≤ 600000; omega, by show 12000 + 3 * i + 0 ≤ room_1.slots; have := rs_ge; omega⟩) hD1 hP2 hdj hS hA (fun r9 u9 H locs hw hP1 hD1 hP2 hdj hS => ?_)
  obtain ⟨rfl, rfl⟩ := hw
  refine lv_aload_n hx hb dL_law_1274 rfl (lv_at hl 2 rfl) ?_
  refine lv_aload_n hx hb dL_law_1275 rfl (lv_at hl 0 rfl) ?_
  refine lv_iload_n hx hb dL_law_1276 rfl (lv_at hl 3 rfl) ?_
  refine lv_iconst (v := (1 : Int32)) hx hb dL_law_1277 (by decide) ?_
  refine lv_iadd hx hb dL_law_1278 ?_
  refine va_sld hx hb hX hbl hbA hS (lw_in ex3 hi hL (k := 1) (by decide) rfl) dL_law_1279 ?_
  refine lv_aload_n hx hb dL_law_1280 rfl (lv_at hl 0 rfl) ?_
  refine lv_iload_n hx hb dL_law_1281 rfl (lv_at hl 3 rfl) ?_
  refine lv_iconst (v := (2 : Int32)) hx hb dL_law_1282 (by decide) ?_
  refine lv_iadd hx hb dL_law_1283 ?_
  refine va_sld hx hb hX hbl hbA hS (lw_in ex3 hi hL (k := 2) (by decide) rfl) dL_law_1284 ?_
  refine lv_aload_n hx hb dL_law_1285 rfl (lv_at hl 0 rfl) ?_
  refine lv_iload_n hx hb dL_law_1286 rfl (lv_at hl 3 rfl) ?_
  refine lv_iconst (v := (3 : Int32)) hx hb dL_law_1287 (by decide) ?_
  refine lv_iadd hx hb dL_law_1288 ?_
  refine va_sld hx hb hX hbl hbA hS (lw_in ex3 hi hL (k := 3) (by decide) rfl) dL_law_1289 ?_
  refine lv_aload_n hx hb dL_law_1290 rfl (lv_at hl 0 rfl) ?_
  refine lv_iload_n hx hb dL_law_1291 rfl (lv_at hl 3 rfl) ?_
  refine lv_iconst (v := (4 : Int32)) hx hb dL_law_1292 (by decide) ?_
  refine lv_iadd hx hb dL_law_1293 ?_
  refine va_sld hx hb hX hbl hbA hS (lw_in ex3 hi hL (k := 4) (by decide) rfl) dL_law_1294 ?_
  refine lv_aload_n hx hb dL_law_1295 rfl (lv_at hl 0 rfl) ?_
  refine lv_iload_n hx hb dL_law_1296 rfl (lv_at hl 3 rfl) ?_
  refine lv_iconst (v := (5 : Int32)) hx hb dL_law_1297 (by decide) ?_
  refine lv_iadd hx hb dL_law_1298 ?_
  refine va_sld hx hb hX hbl hbA hS (lw_in ex3 hi hL (k := 5) (by decide) rfl) dL_law_1299 ?_
  refine lcall (wf := (mW aM cs)) (wr := (cW aC cs sh LP Z u9)) (va_runV (As := [.int (xs (x3 + (1 : Int32)).toNatClampNeg), .int (xs (x3 + (2 : Int32)).toNatClampNeg), .int (xs (x3 + (3 : Int32)).toNatClampNeg), .int (xs (x3 + (4 : Int32)).toNatClampNeg), .int (xs (x3 + (5 : Int32)).toNatClampNeg)]) (rest := [.int r9]) ⟨hx, hb, hml, hown, hts⟩ (kX12_show l D cs aM v F (xs (x3 + (1 : Int32)).toNatClampNeg) (xs (x3 + (2 : Int32)).toNatClampNeg) (xs (x3 + (3 : Int32)).toNatClampNeg) (xs (x3 + (4 : Int32)).toNatClampNeg) (xs (x3 + (5 : Int32)).toNatClampNeg) r9 v2 hcm _) (cwV 5 hts gL_law_X12_show rfl rfl rfl (by decide +kernel) ⟨Nat.le_of_ble_eq_true rfl, Nat.le_of_ble_eq_true rfl⟩) (pQ_v hP2 hK hD2 (va_recv hK.1 hP2 (ci := 11) (q0 := 0) rfl rfl)) rfl rfl hl.1 rfl (lv_room (Nat.le_of_ble_eq_true rfl)) dL_law_1300 ⟨by show 100 + i + 0 + 0 ≤ 600000; omega, by show 12000 + 3 * i + 0 + 0 ≤ room_1.slots; have := rs_ge; omega⟩) hD2 hP1 hdj.symm hS hA (fun r8 v8 H locs hw hP2 hD2 hP1 hdj2 hS => ?_)
  obtain ⟨rfl, rfl⟩ := hw
  have hdj := hdj2.symm
  refine lv_icmp_eq (tgt := 1371) hx hb dL_law_1303 (by decide) (fun _ => ?_) (fun c9 => absurd rfl c9)
  refine W.widen (k := 100 + (i + 7)) (n := 12000 + 3 * (i + 7)) (by omega) (by omega) ?_
  exact kk _ _ _ _ _ hpost hP1 hD1 hP2 hD2 hdj hS hl
set_option maxHeartbeats 4000000 in
set_option maxRecDepth 100000 in
theorem law_keep {p : Program} {l : Launch} {e : Env} {s : State} {m : MethodId} {below : List Frame} {meth : Method} {c : Code} {b L : Nat} {xs : Nat → Int32} (hL : L ≤ 3584) (C0 : lw_At p s m meth c b L xs) {D : va_G} {cs : Nat → ClassId} (hK : KK D cs s) (hG : GT (sA s) s) {aC aM : Nat → Nat} {Rel : SS → (Nat → Nat → Int32) → Prop} (hOK : ∀ u v, Rel u v → shOK u.2.1 u.2.2.1 u.2.2.2) (hs : st_keep Rel) (i : Nat) (hi : i + 7 ≤ L) (x3 : Int32) (ex3 : x3 = nI i) (u : SS) (v : Nat → Nat → Int32) (hR : Rel u v) (H : Heap) (locs : List Loc) (ls : Array Slot) (hP1 : va_P D vwCl (cWs aC cs u) H) (hD1 : va_D (sA s) (cWs aC cs u)) (hP2 : va_P D vwCl (mW aM cs v) H) (hD2 : va_D (sA s) (mW aM cs v)) (hdj : dj (cWs aC cs u) (mW aM cs v)) (hS : va_S (sA s) s.heap H locs) (hl : lv_has ls 4 [(0, .ref b), (1, .ref (aC 0)), (2, .ref (aM 0)), (3, .int x3)]) (kk : ∀ (u : SS) (v : Nat → Nat → Int32) (H : Heap) (locs : List Loc) (ls : Array Slot), Rel u v → va_P D vwCl (cWs aC cs u) H → va_D (sA s) (cWs aC cs u) → va_P D vwCl (mW aM cs v) H → va_D (sA s) (mW aM cs v) → dj (cWs aC cs u) (mW aM cs v) → va_S (sA s) s.heap H locs → lv_has ls 4 [(0, .ref b), (1, .ref (aC 0)), (2, .ref (aM 0)), (3, .int x3)] → W p l e room_1 s m #[Value.ref b] below meth c H locs (100 + (i + 7)) (12000 + 3 * (i + 7)) (lw_Z below #[Value.ref b] s) (F0 m 1371 ls [])) : W p l e room_1 s m #[Value.ref b] below meth c H locs (100 + i) (12000 + 3 * i) (lw_Z below #[Value.ref b] s) (F0 m 1308 ls []) := by
  obtain ⟨hx, hb, hr, hml, hown, hts0, hX, hbl, hlocks, hgv⟩ := id C0
  have hts : ∀ w ∈ wsL_law, w.before #[Value.ref b] s = true := fun w h => hts0 w (wsL_law_in w h)
  have hA : ∀ q : Nat, s.heap.size ≤ q → sA s q := fun _ h => h
  have hbA : ¬ sA s b := Nat.not_le.mpr hbl
  obtain ⟨σ, sh, LP, Z⟩ := u
  have hZ : shOK sh LP Z := hOK _ _ hR
  have hP1 : va_P D vwCl (cW aC cs sh LP Z σ) H := hP1
  have hD1 : va_D (sA s) (cW aC cs sh LP Z σ) := hD1
  obtain ⟨F, r, σ2, v2, hcx, hcm, hpost⟩ := hs (σ, sh, LP, Z) v (xs (x3 + (1 : Int32)).toNatClampNeg) (xs (x3 + (2 : Int32)).toNatClampNeg) (xs (x3 + (3 : Int32)).toNatClampNeg) (xs (x3 + (4 : Int32)).toNatClampNeg) (xs (x3 + (5 : Int32)).toNatClampNeg) hR
  refine lv_aload_n hx hb dL_law_1308 rfl (lv_at hl 1 rfl) ?_
  refine lv_aload_n hx hb dL_law_1309 rfl (lv_at hl 0 rfl) ?_
  refine lv_iload_n hx hb dL_law_1310 rfl (lv_at hl 3 rfl) ?_
  refine lv_iconst (v := (1 : Int32)) hx hb dL_law_1311 (by decide) ?_
  refine lv_iadd hx hb dL_law_1312 ?_
  refine va_sld hx hb hX hbl hbA hS (lw_in ex3 hi hL (k := 1) (by decide) rfl) dL_law_1313 ?_
  refine lv_aload_n hx hb dL_law_1314 rfl (lv_at hl 0 rfl) ?_
  refine lv_iload_n hx hb dL_law_1315 rfl (lv_at hl 3 rfl) ?_
  refine lv_iconst (v := (2 : Int32)) hx hb dL_law_1316 (by decide) ?_
  refine lv_iadd hx hb dL_law_1317 ?_
  refine va_sld hx hb hX hbl hbA hS (lw_in ex3 hi hL (k := 2) (by decide) rfl) dL_law_1318 ?_
  refine lv_aload_n hx hb dL_law_1319 rfl (lv_at hl 0 rfl) ?_
  refine lv_iload_n hx hb dL_law_1320 rfl (lv_at hl 3 rfl) ?_
  refine lv_iconst (v := (3 : Int32)) hx hb dL_law_1321 (by decide) ?_
  refine lv_iadd hx hb dL_law_1322 ?_
  refine va_sld hx hb hX hbl hbA hS (lw_in ex3 hi hL (k := 3) (by decide) rfl) dL_law_1323 ?_
  refine lv_aload_n hx hb dL_law_1324 rfl (lv_at hl 0 rfl) ?_
  refine lv_iload_n hx hb dL_law_1325 rfl (lv_at hl 3 rfl) ?_
  refine lv_iconst (v := (4 : Int32)) hx hb dL_law_1326 (by decide) ?_
  refine lv_iadd hx hb dL_law_1327 ?_
  refine va_sld hx hb hX hbl hbA hS (lw_in ex3 hi hL (k := 4) (by decide) rfl) dL_law_1328 ?_
  refine lv_aload_n hx hb dL_law_1329 rfl (lv_at hl 0 rfl) ?_
  refine lv_iload_n hx hb dL_law_1330 rfl (lv_at hl 3 rfl) ?_
  refine lv_iconst (v := (5 : Int32)) hx hb dL_law_1331 (by decide) ?_
  refine lv_iadd hx hb dL_law_1332 ?_
  refine va_sld hx hb hX hbl hbA hS (lw_in ex3 hi hL (k := 5) (by decide) rfl) dL_law_1333 ?_
  refine lcall (wf := (cW aC cs sh LP Z)) (wr := mW aM cs v) (va_runV (As := [.int (xs (x3 + (1 : Int32)).toNatClampNeg), .int (xs (x3 + (2 : Int32)).toNatClampNeg), .int (xs (x3 + (3 : Int32)).toNatClampNeg), .int (xs (x3 + (4 : Int32)).toNatClampNeg), .int (xs (x3 + (5 : Int32)).toNatClampNeg)]) (rest := []) ⟨hx, hb, hml, hown, hts⟩ (kX11_keep l D cs aC sh LP Z hZ σ F (xs (x3 + (1 : Int32)).toNatClampNeg) (xs (x3 + (2 : Int32)).toNatClampNeg) (xs (x3 + (3 : Int32)).toNatClampNeg) (xs (x3 + (4 : Int32)).toNatClampNeg) (xs (x3 + (5 : Int32)).toNatClampNeg) r σ2 hcx _) (cwV 5 hts gL_law_X11_keep rfl rfl rfl (by decide +kernel) ⟨Nat.le_of_ble_eq_true rfl, Nat.le_of_ble_eq_true rfl⟩) (pQ_v hP1 hK hD1 (va_recv hK.1 hP1 (ci := 10) (q0 := 0) rfl rfl)) rfl rfl hl.1 rfl (lv_room (Nat.le_of_ble_eq_true rfl)) dL_law_1334 ⟨by show 100 + i + 0 ≤ 600000; omega, by show 12000 + 3 * i + 0 ≤ room_1.slots; have := rs_ge; omega⟩) hD1 hP2 hdj hS hA (fun r9 u9 H locs hw hP1 hD1 hP2 hdj hS => ?_)
  obtain ⟨rfl, rfl⟩ := hw
  refine lv_aload_n hx hb dL_law_1337 rfl (lv_at hl 2 rfl) ?_
  refine lv_aload_n hx hb dL_law_1338 rfl (lv_at hl 0 rfl) ?_
  refine lv_iload_n hx hb dL_law_1339 rfl (lv_at hl 3 rfl) ?_
  refine lv_iconst (v := (1 : Int32)) hx hb dL_law_1340 (by decide) ?_
  refine lv_iadd hx hb dL_law_1341 ?_
  refine va_sld hx hb hX hbl hbA hS (lw_in ex3 hi hL (k := 1) (by decide) rfl) dL_law_1342 ?_
  refine lv_aload_n hx hb dL_law_1343 rfl (lv_at hl 0 rfl) ?_
  refine lv_iload_n hx hb dL_law_1344 rfl (lv_at hl 3 rfl) ?_
  refine lv_iconst (v := (2 : Int32)) hx hb dL_law_1345 (by decide) ?_
  refine lv_iadd hx hb dL_law_1346 ?_
  refine va_sld hx hb hX hbl hbA hS (lw_in ex3 hi hL (k := 2) (by decide) rfl) dL_law_1347 ?_
  refine lv_aload_n hx hb dL_law_1348 rfl (lv_at hl 0 rfl) ?_
  refine lv_iload_n hx hb dL_law_1349 rfl (lv_at hl 3 rfl) ?_
  refine lv_iconst (v := (3 : Int32)) hx hb dL_law_1350 (by decide) ?_
  refine lv_iadd hx hb dL_law_1351 ?_
  refine va_sld hx hb hX hbl hbA hS (lw_in ex3 hi hL (k := 3) (by decide) rfl) dL_law_1352 ?_
  refine lv_aload_n hx hb dL_law_1353 rfl (lv_at hl 0 rfl) ?_
  refine lv_iload_n hx hb dL_law_1354 rfl (lv_at hl 3 rfl) ?_
  refine lv_iconst (v := (4 : Int32)) hx hb dL_law_1355 (by decide) ?_
  refine lv_iadd hx hb dL_law_1356 ?_
  refine va_sld hx hb hX hbl hbA hS (lw_in ex3 hi hL (k := 4) (by decide) rfl) dL_law_1357 ?_
  refine lv_aload_n hx hb dL_law_1358 rfl (lv_at hl 0 rfl) ?_
  refine lv_iload_n hx hb dL_law_1359 rfl (lv_at hl 3 rfl) ?_
  refine lv_iconst (v := (5 : Int32)) hx hb dL_law_1360 (by decide) ?_
  refine lv_iadd hx hb dL_law_1361 ?_
  refine va_sld hx hb hX hbl hbA hS (lw_in ex3 hi hL (k := 5) (by decide) rfl) dL_law_1362 ?_
  refine lcall (wf := (mW aM cs)) (wr := (cW aC cs sh LP Z u9)) (va_runV (As := [.int (xs (x3 + (1 : Int32)).toNatClampNeg), .int (xs (x3 + (2 : Int32)).toNatClampNeg), .int (xs (x3 + (3 : Int32)).toNatClampNeg), .int (xs (x3 + (4 : Int32)).toNatClampNeg), .int (xs (x3 + (5 : Int32)).toNatClampNeg)]) (rest := [.int r9]) ⟨hx, hb, hml, hown, hts⟩ (kX12_keep l D cs aM v F (xs (x3 + (1 : Int32)).toNatClampNeg) (xs (x3 + (2 : Int32)).toNatClampNeg) (xs (x3 + (3 : Int32)).toNatClampNeg) (xs (x3 + (4 : Int32)).toNatClampNeg) (xs (x3 + (5 : Int32)).toNatClampNeg) r9 v2 hcm _) (cwV 5 hts gL_law_X12_keep rfl rfl rfl (by decide +kernel) ⟨Nat.le_of_ble_eq_true rfl, Nat.le_of_ble_eq_true rfl⟩) (pQ_v hP2 hK hD2 (va_recv hK.1 hP2 (ci := 11) (q0 := 0) rfl rfl)) rfl rfl hl.1 rfl (lv_room (Nat.le_of_ble_eq_true rfl)) dL_law_1363 ⟨by show 100 + i + 0 + 0 ≤ 600000; omega, by show 12000 + 3 * i + 0 + 0 ≤ room_1.slots; have := rs_ge; omega⟩) hD2 hP1 hdj.symm hS hA (fun r8 v8 H locs hw hP2 hD2 hP1 hdj2 hS => ?_)
  obtain ⟨rfl, rfl⟩ := hw
  have hdj := hdj2.symm
  refine lv_icmp_eq (tgt := 1371) hx hb dL_law_1366 (by decide) (fun _ => ?_) (fun c9 => absurd rfl c9)
  refine W.widen (k := 100 + (i + 7)) (n := 12000 + 3 * (i + 7)) (by omega) (by omega) ?_
  exact kk _ _ _ _ _ hpost hP1 hD1 hP2 hD2 hdj hS hl
