set_option maxHeartbeats 4000000 in
set_option maxRecDepth 100000 in
theorem law_disc {p : Program} {l : Launch} {e : Env} {s : State} {m : MethodId} {below : List Frame} {meth : Method} {c : Code} {b L : Nat} {xs : Nat → Int32} (hL : L ≤ 3584) (C0 : lw_At p s m meth c b L xs) {D : va_G} {cs : Nat → ClassId} (hK : KK D cs s) (hG : GT (sA s) s) {aC aM : Nat → Nat} {Rel : SS → (Nat → Nat → Int32) → Prop} (hOK : ∀ u v, Rel u v → shOK u.2.1 u.2.2.1 u.2.2.2) (hs : st_disc Rel) (i : Nat) (hi : i + 7 ≤ L) (x3 : Int32) (ex3 : x3 = nI i) (u : SS) (v : Nat → Nat → Int32) (hR : Rel u v) (H : Heap) (locs : List Loc) (ls : Array Slot) (hP1 : va_P D vwCl (cWs aC cs u) H) (hD1 : va_D (sA s) (cWs aC cs u)) (hP2 : va_P D vwCl (mW aM cs v) H) (hD2 : va_D (sA s) (mW aM cs v)) (hdj : dj (cWs aC cs u) (mW aM cs v)) (hS : va_S (sA s) s.heap H locs) (hl : lv_has ls 4 [(0, .ref b), (1, .ref (aC 0)), (2, .ref (aM 0)), (3, .int x3)]) (kk : ∀ (u : SS) (v : Nat → Nat → Int32) (H : Heap) (locs : List Loc) (ls : Array Slot), Rel u v → va_P D vwCl (cWs aC cs u) H → va_D (sA s) (cWs aC cs u) → va_P D vwCl (mW aM cs v) H → va_D (sA s) (mW aM cs v) → dj (cWs aC cs u) (mW aM cs v) → va_S (sA s) s.heap H locs → lv_has ls 4 [(0, .ref b), (1, .ref (aC 0)), (2, .ref (aM 0)), (3, .int x3)] → W p l e room_1 s m #[Value.ref b] below meth c H locs (100 + (i + 7)) (12000 + 3 * (i + 7)) (lw_Z below #[Value.ref b] s) (F0 m 1371 ls [])) : W p l e room_1 s m #[Value.ref b] below meth c H locs (100 + i) (12000 + 3 * i) (lw_Z below #[Value.ref b] s) (F0 m 188 ls []) := by
  obtain ⟨hx, hb, hr, hml, hown, hts0, hX, hbl, hlocks, hgv⟩ := id C0
  have hts : ∀ w ∈ wsL_law, w.before #[Value.ref b] s = true := fun w h => hts0 w (wsL_law_in w h)
  have hA : ∀ q : Nat, s.heap.size ≤ q → sA s q := fun _ h => h
  have hbA : ¬ sA s b := Nat.not_le.mpr hbl
  obtain ⟨σ, sh, LP, Z⟩ := u
  have hZ : shOK sh LP Z := hOK _ _ hR
  have hP1 : va_P D vwCl (cW aC cs sh LP Z σ) H := hP1
  have hD1 : va_D (sA s) (cW aC cs sh LP Z σ) := hD1
  obtain ⟨F, r, o, v2, hcx, hcm, hpost⟩ := hs (σ, sh, LP, Z) v (xs (x3 + (1 : Int32)).toNatClampNeg) (xs (x3 + (2 : Int32)).toNatClampNeg) hR
  refine lv_aload_n hx hb dL_law_188 rfl (lv_at hl 1 rfl) ?_
  refine lv_aload_n hx hb dL_law_189 rfl (lv_at hl 0 rfl) ?_
  refine lv_iload_n hx hb dL_law_190 rfl (lv_at hl 3 rfl) ?_
  refine lv_iconst (v := (1 : Int32)) hx hb dL_law_191 (by decide) ?_
  refine lv_iadd hx hb dL_law_192 ?_
  refine va_sld hx hb hX hbl hbA hS (lw_in ex3 hi hL (k := 1) (by decide) rfl) dL_law_193 ?_
  refine lv_aload_n hx hb dL_law_194 rfl (lv_at hl 0 rfl) ?_
  refine lv_iload_n hx hb dL_law_195 rfl (lv_at hl 3 rfl) ?_
  refine lv_iconst (v := (2 : Int32)) hx hb dL_law_196 (by decide) ?_
  refine lv_iadd hx hb dL_law_197 ?_
  refine va_sld hx hb hX hbl hbA hS (lw_in ex3 hi hL (k := 2) (by decide) rfl) dL_law_198 ?_
  refine lcall (wf := (cWs aC cs)) (wr := mW aM cs v) (va_runV (As := [.int (xs (x3 + (1 : Int32)).toNatClampNeg), .int (xs (x3 + (2 : Int32)).toNatClampNeg)]) (rest := []) ⟨hx, hb, hml, hown, hts⟩ (kX11_disc l D cs aC sh LP Z hZ σ F (xs (x3 + (1 : Int32)).toNatClampNeg) (xs (x3 + (2 : Int32)).toNatClampNeg) r o hcx _) (cwV 2 hts gL_law_X11_disc rfl rfl rfl (by decide +kernel) ⟨Nat.le_of_ble_eq_true rfl, Nat.le_of_ble_eq_true rfl⟩) (pQ_v hP1 hK hD1 (va_recv hK.1 hP1 (ci := 10) (q0 := 0) rfl rfl)) rfl rfl hl.1 rfl (lv_room (Nat.le_of_ble_eq_true rfl)) dL_law_199 ⟨by show 100 + i + 1 ≤ 600000; omega, by show 12000 + 3 * i + 2 ≤ room_1.slots; have := rs_ge; omega⟩) hD1 hP2 hdj hS hA (fun r9 u9 H locs hw hP1 hD1 hP2 hdj hS => ?_)
  have hR2 := hpost u9 ⟨rfl, hw.2⟩
  obtain ⟨rfl, -⟩ := hw
  refine lv_aload_n hx hb dL_law_202 rfl (lv_at hl 2 rfl) ?_
  refine lv_aload_n hx hb dL_law_203 rfl (lv_at hl 0 rfl) ?_
  refine lv_iload_n hx hb dL_law_204 rfl (lv_at hl 3 rfl) ?_
  refine lv_iconst (v := (1 : Int32)) hx hb dL_law_205 (by decide) ?_
  refine lv_iadd hx hb dL_law_206 ?_
  refine va_sld hx hb hX hbl hbA hS (lw_in ex3 hi hL (k := 1) (by decide) rfl) dL_law_207 ?_
  refine lv_aload_n hx hb dL_law_208 rfl (lv_at hl 0 rfl) ?_
  refine lv_iload_n hx hb dL_law_209 rfl (lv_at hl 3 rfl) ?_
  refine lv_iconst (v := (2 : Int32)) hx hb dL_law_210 (by decide) ?_
  refine lv_iadd hx hb dL_law_211 ?_
  refine va_sld hx hb hX hbl hbA hS (lw_in ex3 hi hL (k := 2) (by decide) rfl) dL_law_212 ?_
  refine lcall (wf := (mW aM cs)) (wr := (cWs aC cs u9)) (va_runV (As := [.int (xs (x3 + (1 : Int32)).toNatClampNeg), .int (xs (x3 + (2 : Int32)).toNatClampNeg)]) (rest := [.int r9]) ⟨hx, hb, hml, hown, hts⟩ (kX12_disc l D cs aM v F (xs (x3 + (1 : Int32)).toNatClampNeg) (xs (x3 + (2 : Int32)).toNatClampNeg) r9 v2 hcm _) (cwV 2 hts gL_law_X12_disc rfl rfl rfl (by decide +kernel) ⟨Nat.le_of_ble_eq_true rfl, Nat.le_of_ble_eq_true rfl⟩) (pQ_v hP2 hK hD2 (va_recv hK.1 hP2 (ci := 11) (q0 := 0) rfl rfl)) rfl rfl hl.1 rfl (lv_room (Nat.le_of_ble_eq_true rfl)) dL_law_213 ⟨by show 100 + i + 1 + 0 ≤ 600000; omega, by show 12000 + 3 * i + 2 + 0 ≤ room_1.slots; have := rs_ge; omega⟩) hD2 hP1 hdj.symm hS hA (fun r8 v8 H locs hw hP2 hD2 hP1 hdj2 hS => ?_)
  obtain ⟨rfl, rfl⟩ := hw
  have hdj := hdj2.symm
  refine lv_icmp_eq (tgt := 1371) hx hb dL_law_216 (by decide) (fun _ => ?_) (fun c9 => absurd rfl c9)
  refine W.widen (k := 100 + (i + 7)) (n := 12000 + 3 * (i + 7)) (by omega) (by omega) ?_
  exact kk _ _ _ _ _ hR2 hP1 hD1 hP2 hD2 hdj hS hl
set_option maxHeartbeats 4000000 in
set_option maxRecDepth 100000 in
theorem law_rim {p : Program} {l : Launch} {e : Env} {s : State} {m : MethodId} {below : List Frame} {meth : Method} {c : Code} {b L : Nat} {xs : Nat → Int32} (hL : L ≤ 3584) (C0 : lw_At p s m meth c b L xs) {D : va_G} {cs : Nat → ClassId} (hK : KK D cs s) (hG : GT (sA s) s) {aC aM : Nat → Nat} {Rel : SS → (Nat → Nat → Int32) → Prop} (hOK : ∀ u v, Rel u v → shOK u.2.1 u.2.2.1 u.2.2.2) (hs : st_rim Rel) (i : Nat) (hi : i + 7 ≤ L) (x3 : Int32) (ex3 : x3 = nI i) (u : SS) (v : Nat → Nat → Int32) (hR : Rel u v) (H : Heap) (locs : List Loc) (ls : Array Slot) (hP1 : va_P D vwCl (cWs aC cs u) H) (hD1 : va_D (sA s) (cWs aC cs u)) (hP2 : va_P D vwCl (mW aM cs v) H) (hD2 : va_D (sA s) (mW aM cs v)) (hdj : dj (cWs aC cs u) (mW aM cs v)) (hS : va_S (sA s) s.heap H locs) (hl : lv_has ls 4 [(0, .ref b), (1, .ref (aC 0)), (2, .ref (aM 0)), (3, .int x3)]) (kk : ∀ (u : SS) (v : Nat → Nat → Int32) (H : Heap) (locs : List Loc) (ls : Array Slot), Rel u v → va_P D vwCl (cWs aC cs u) H → va_D (sA s) (cWs aC cs u) → va_P D vwCl (mW aM cs v) H → va_D (sA s) (mW aM cs v) → dj (cWs aC cs u) (mW aM cs v) → va_S (sA s) s.heap H locs → lv_has ls 4 [(0, .ref b), (1, .ref (aC 0)), (2, .ref (aM 0)), (3, .int x3)] → W p l e room_1 s m #[Value.ref b] below meth c H locs (100 + (i + 7)) (12000 + 3 * (i + 7)) (lw_Z below #[Value.ref b] s) (F0 m 1371 ls [])) : W p l e room_1 s m #[Value.ref b] below meth c H locs (100 + i) (12000 + 3 * i) (lw_Z below #[Value.ref b] s) (F0 m 221 ls []) := by
  obtain ⟨hx, hb, hr, hml, hown, hts0, hX, hbl, hlocks, hgv⟩ := id C0
  have hts : ∀ w ∈ wsL_law, w.before #[Value.ref b] s = true := fun w h => hts0 w (wsL_law_in w h)
  have hA : ∀ q : Nat, s.heap.size ≤ q → sA s q := fun _ h => h
  have hbA : ¬ sA s b := Nat.not_le.mpr hbl
  obtain ⟨σ, sh, LP, Z⟩ := u
  have hZ : shOK sh LP Z := hOK _ _ hR
  have hP1 : va_P D vwCl (cW aC cs sh LP Z σ) H := hP1
  have hD1 : va_D (sA s) (cW aC cs sh LP Z σ) := hD1
  obtain ⟨F, r, o, v2, hcx, hcm, hpost⟩ := hs (σ, sh, LP, Z) v (xs (x3 + (1 : Int32)).toNatClampNeg) (xs (x3 + (2 : Int32)).toNatClampNeg) hR
  refine lv_aload_n hx hb dL_law_221 rfl (lv_at hl 1 rfl) ?_
  refine lv_aload_n hx hb dL_law_222 rfl (lv_at hl 0 rfl) ?_
  refine lv_iload_n hx hb dL_law_223 rfl (lv_at hl 3 rfl) ?_
  refine lv_iconst (v := (1 : Int32)) hx hb dL_law_224 (by decide) ?_
  refine lv_iadd hx hb dL_law_225 ?_
  refine va_sld hx hb hX hbl hbA hS (lw_in ex3 hi hL (k := 1) (by decide) rfl) dL_law_226 ?_
  refine lv_aload_n hx hb dL_law_227 rfl (lv_at hl 0 rfl) ?_
  refine lv_iload_n hx hb dL_law_228 rfl (lv_at hl 3 rfl) ?_
  refine lv_iconst (v := (2 : Int32)) hx hb dL_law_229 (by decide) ?_
  refine lv_iadd hx hb dL_law_230 ?_
  refine va_sld hx hb hX hbl hbA hS (lw_in ex3 hi hL (k := 2) (by decide) rfl) dL_law_231 ?_
  refine lcall (wf := (cWs aC cs)) (wr := mW aM cs v) (va_runV (As := [.int (xs (x3 + (1 : Int32)).toNatClampNeg), .int (xs (x3 + (2 : Int32)).toNatClampNeg)]) (rest := []) ⟨hx, hb, hml, hown, hts⟩ (kX11_rim l D cs aC sh LP Z hZ σ F (xs (x3 + (1 : Int32)).toNatClampNeg) (xs (x3 + (2 : Int32)).toNatClampNeg) r o hcx _) (cwV 2 hts gL_law_X11_rim rfl rfl rfl (by decide +kernel) ⟨Nat.le_of_ble_eq_true rfl, Nat.le_of_ble_eq_true rfl⟩) (pQ_v hP1 hK hD1 (va_recv hK.1 hP1 (ci := 10) (q0 := 0) rfl rfl)) rfl rfl hl.1 rfl (lv_room (Nat.le_of_ble_eq_true rfl)) dL_law_232 ⟨by show 100 + i + 1 ≤ 600000; omega, by show 12000 + 3 * i + 2 ≤ room_1.slots; have := rs_ge; omega⟩) hD1 hP2 hdj hS hA (fun r9 u9 H locs hw hP1 hD1 hP2 hdj hS => ?_)
  have hR2 := hpost u9 ⟨rfl, hw.2⟩
  obtain ⟨rfl, -⟩ := hw
  refine lv_aload_n hx hb dL_law_235 rfl (lv_at hl 2 rfl) ?_
  refine lv_aload_n hx hb dL_law_236 rfl (lv_at hl 0 rfl) ?_
  refine lv_iload_n hx hb dL_law_237 rfl (lv_at hl 3 rfl) ?_
  refine lv_iconst (v := (1 : Int32)) hx hb dL_law_238 (by decide) ?_
  refine lv_iadd hx hb dL_law_239 ?_
  refine va_sld hx hb hX hbl hbA hS (lw_in ex3 hi hL (k := 1) (by decide) rfl) dL_law_240 ?_
  refine lv_aload_n hx hb dL_law_241 rfl (lv_at hl 0 rfl) ?_
  refine lv_iload_n hx hb dL_law_242 rfl (lv_at hl 3 rfl) ?_
  refine lv_iconst (v := (2 : Int32)) hx hb dL_law_243 (by decide) ?_
  refine lv_iadd hx hb dL_law_244 ?_
  refine va_sld hx hb hX hbl hbA hS (lw_in ex3 hi hL (k := 2) (by decide) rfl) dL_law_245 ?_
  refine lcall (wf := (mW aM cs)) (wr := (cWs aC cs u9)) (va_runV (As := [.int (xs (x3 + (1 : Int32)).toNatClampNeg), .int (xs (x3 + (2 : Int32)).toNatClampNeg)]) (rest := [.int r9]) ⟨hx, hb, hml, hown, hts⟩ (kX12_rim l D cs aM v F (xs (x3 + (1 : Int32)).toNatClampNeg) (xs (x3 + (2 : Int32)).toNatClampNeg) r9 v2 hcm _) (cwV 2 hts gL_law_X12_rim rfl rfl rfl (by decide +kernel) ⟨Nat.le_of_ble_eq_true rfl, Nat.le_of_ble_eq_true rfl⟩) (pQ_v hP2 hK hD2 (va_recv hK.1 hP2 (ci := 11) (q0 := 0) rfl rfl)) rfl rfl hl.1 rfl (lv_room (Nat.le_of_ble_eq_true rfl)) dL_law_246 ⟨by show 100 + i + 1 + 0 ≤ 600000; omega, by show 12000 + 3 * i + 2 + 0 ≤ room_1.slots; have := rs_ge; omega⟩) hD2 hP1 hdj.symm hS hA (fun r8 v8 H locs hw hP2 hD2 hP1 hdj2 hS => ?_)
  obtain ⟨rfl, rfl⟩ := hw
  have hdj := hdj2.symm
  refine lv_icmp_eq (tgt := 1371) hx hb dL_law_249 (by decide) (fun _ => ?_) (fun c9 => absurd rfl c9)
  refine W.widen (k := 100 + (i + 7)) (n := 12000 + 3 * (i + 7)) (by omega) (by omega) ?_
  exact kk _ _ _ _ _ hR2 hP1 hD1 hP2 hD2 hdj hS hl
set_option maxHeartbeats 4000000 in
set_option maxRecDepth 100000 in
theorem law_line {p : Program} {l : Launch} {e : Env} {s : State} {m : MethodId} {below : List Frame} {meth : Method} {c : Code} {b L : Nat} {xs : Nat → Int32} (hL : L ≤ 3584) (C0 : lw_At p s m meth c b L xs) {D : va_G} {cs : Nat → ClassId} (hK : KK D cs s) (hG : GT (sA s) s) {aC aM : Nat → Nat} {Rel : SS → (Nat → Nat → Int32) → Prop} (hOK : ∀ u v, Rel u v → shOK u.2.1 u.2.2.1 u.2.2.2) (hs : st_line Rel) (i : Nat) (hi : i + 7 ≤ L) (x3 : Int32) (ex3 : x3 = nI i) (u : SS) (v : Nat → Nat → Int32) (hR : Rel u v) (H : Heap) (locs : List Loc) (ls : Array Slot) (hP1 : va_P D vwCl (cWs aC cs u) H) (hD1 : va_D (sA s) (cWs aC cs u)) (hP2 : va_P D vwCl (mW aM cs v) H) (hD2 : va_D (sA s) (mW aM cs v)) (hdj : dj (cWs aC cs u) (mW aM cs v)) (hS : va_S (sA s) s.heap H locs) (hl : lv_has ls 4 [(0, .ref b), (1, .ref (aC 0)), (2, .ref (aM 0)), (3, .int x3)]) (kk : ∀ (u : SS) (v : Nat → Nat → Int32) (H : Heap) (locs : List Loc) (ls : Array Slot), Rel u v → va_P D vwCl (cWs aC cs u) H → va_D (sA s) (cWs aC cs u) → va_P D vwCl (mW aM cs v) H → va_D (sA s) (mW aM cs v) → dj (cWs aC cs u) (mW aM cs v) → va_S (sA s) s.heap H locs → lv_has ls 4 [(0, .ref b), (1, .ref (aC 0)), (2, .ref (aM 0)), (3, .int x3)] → W p l e room_1 s m #[Value.ref b] below meth c H locs (100 + (i + 7)) (12000 + 3 * (i + 7)) (lw_Z below #[Value.ref b] s) (F0 m 1371 ls [])) : W p l e room_1 s m #[Value.ref b] below meth c H locs (100 + i) (12000 + 3 * i) (lw_Z below #[Value.ref b] s) (F0 m 254 ls []) := by
  obtain ⟨hx, hb, hr, hml, hown, hts0, hX, hbl, hlocks, hgv⟩ := id C0
  have hts : ∀ w ∈ wsL_law, w.before #[Value.ref b] s = true := fun w h => hts0 w (wsL_law_in w h)
  have hA : ∀ q : Nat, s.heap.size ≤ q → sA s q := fun _ h => h
  have hbA : ¬ sA s b := Nat.not_le.mpr hbl
  obtain ⟨σ, sh, LP, Z⟩ := u
  have hZ : shOK sh LP Z := hOK _ _ hR
  have hP1 : va_P D vwCl (cW aC cs sh LP Z σ) H := hP1
  have hD1 : va_D (sA s) (cW aC cs sh LP Z σ) := hD1
  obtain ⟨F, r, o, v2, hcx, hcm, hpost⟩ := hs (σ, sh, LP, Z) v (xs (x3 + (1 : Int32)).toNatClampNeg) (xs (x3 + (2 : Int32)).toNatClampNeg) (xs (x3 + (3 : Int32)).toNatClampNeg) (xs (x3 + (4 : Int32)).toNatClampNeg) (xs (x3 + (5 : Int32)).toNatClampNeg) hR
  refine lv_aload_n hx hb dL_law_254 rfl (lv_at hl 1 rfl) ?_
  refine lv_aload_n hx hb dL_law_255 rfl (lv_at hl 0 rfl) ?_
  refine lv_iload_n hx hb dL_law_256 rfl (lv_at hl 3 rfl) ?_
  refine lv_iconst (v := (1 : Int32)) hx hb dL_law_257 (by decide) ?_
  refine lv_iadd hx hb dL_law_258 ?_
  refine va_sld hx hb hX hbl hbA hS (lw_in ex3 hi hL (k := 1) (by decide) rfl) dL_law_259 ?_
  refine lv_aload_n hx hb dL_law_260 rfl (lv_at hl 0 rfl) ?_
  refine lv_iload_n hx hb dL_law_261 rfl (lv_at hl 3 rfl) ?_
  refine lv_iconst (v := (2 : Int32)) hx hb dL_law_262 (by decide) ?_
  refine lv_iadd hx hb dL_law_263 ?_
  refine va_sld hx hb hX hbl hbA hS (lw_in ex3 hi hL (k := 2) (by decide) rfl) dL_law_264 ?_
  refine lv_aload_n hx hb dL_law_265 rfl (lv_at hl 0 rfl) ?_
  refine lv_iload_n hx hb dL_law_266 rfl (lv_at hl 3 rfl) ?_
  refine lv_iconst (v := (3 : Int32)) hx hb dL_law_267 (by decide) ?_
  refine lv_iadd hx hb dL_law_268 ?_
  refine va_sld hx hb hX hbl hbA hS (lw_in ex3 hi hL (k := 3) (by decide) rfl) dL_law_269 ?_
  refine lv_aload_n hx hb dL_law_270 rfl (lv_at hl 0 rfl) ?_
  refine lv_iload_n hx hb dL_law_271 rfl (lv_at hl 3 rfl) ?_
  refine lv_iconst (v := (4 : Int32)) hx hb dL_law_272 (by decide) ?_
  refine lv_iadd hx hb dL_law_273 ?_
  refine va_sld hx hb hX hbl hbA hS (lw_in ex3 hi hL (k := 4) (by decide) rfl) dL_law_274 ?_
  refine lv_aload_n hx hb dL_law_275 rfl (lv_at hl 0 rfl) ?_
  refine lv_iload_n hx hb dL_law_276 rfl (lv_at hl 3 rfl) ?_
  refine lv_iconst (v := (5 : Int32)) hx hb dL_law_277 (by decide) ?_
  refine lv_iadd hx hb dL_law_278 ?_
  refine va_sld hx hb hX hbl hbA hS (lw_in ex3 hi hL (k := 5) (by decide) rfl) dL_law_279 ?_
  refine lcall (wf := (cWs aC cs)) (wr := mW aM cs v) (va_runV (As := [.int (xs (x3 + (1 : Int32)).toNatClampNeg), .int (xs (x3 + (2 : Int32)).toNatClampNeg), .int (xs (x3 + (3 : Int32)).toNatClampNeg), .int (xs (x3 + (4 : Int32)).toNatClampNeg), .int (xs (x3 + (5 : Int32)).toNatClampNeg)]) (rest := []) ⟨hx, hb, hml, hown, hts⟩ (kX11_line l D cs aC sh LP Z hZ σ F (xs (x3 + (1 : Int32)).toNatClampNeg) (xs (x3 + (2 : Int32)).toNatClampNeg) (xs (x3 + (3 : Int32)).toNatClampNeg) (xs (x3 + (4 : Int32)).toNatClampNeg) (xs (x3 + (5 : Int32)).toNatClampNeg) r o hcx _) (cwV 5 hts gL_law_X11_line rfl rfl rfl (by decide +kernel) ⟨Nat.le_of_ble_eq_true rfl, Nat.le_of_ble_eq_true rfl⟩) (pQ_v hP1 hK hD1 (va_recv hK.1 hP1 (ci := 10) (q0 := 0) rfl rfl)) rfl rfl hl.1 rfl (lv_room (Nat.le_of_ble_eq_true rfl)) dL_law_280 ⟨by show 100 + i + 1 ≤ 600000; omega, by show 12000 + 3 * i + 2 ≤ room_1.slots; have := rs_ge; omega⟩) hD1 hP2 hdj hS hA (fun r9 u9 H locs hw hP1 hD1 hP2 hdj hS => ?_)
  have hR2 := hpost u9 ⟨rfl, hw.2⟩
  obtain ⟨rfl, -⟩ := hw
  refine lv_aload_n hx hb dL_law_283 rfl (lv_at hl 2 rfl) ?_
  refine lv_aload_n hx hb dL_law_284 rfl (lv_at hl 0 rfl) ?_
  refine lv_iload_n hx hb dL_law_285 rfl (lv_at hl 3 rfl) ?_
  refine lv_iconst (v := (1 : Int32)) hx hb dL_law_286 (by decide) ?_
  refine lv_iadd hx hb dL_law_287 ?_
  refine va_sld hx hb hX hbl hbA hS (lw_in ex3 hi hL (k := 1) (by decide) rfl) dL_law_288 ?_
  refine lv_aload_n hx hb dL_law_289 rfl (lv_at hl 0 rfl) ?_
  refine lv_iload_n hx hb dL_law_290 rfl (lv_at hl 3 rfl) ?_
  refine lv_iconst (v := (2 : Int32)) hx hb dL_law_291 (by decide) ?_
  refine lv_iadd hx hb dL_law_292 ?_
  refine va_sld hx hb hX hbl hbA hS (lw_in ex3 hi hL (k := 2) (by decide) rfl) dL_law_293 ?_
  refine lv_aload_n hx hb dL_law_294 rfl (lv_at hl 0 rfl) ?_
  refine lv_iload_n hx hb dL_law_295 rfl (lv_at hl 3 rfl) ?_
  refine lv_iconst (v := (3 : Int32)) hx hb dL_law_296 (by decide) ?_
  refine lv_iadd hx hb dL_law_297 ?_
  refine va_sld hx hb hX hbl hbA hS (lw_in ex3 hi hL (k := 3) (by decide) rfl) dL_law_298 ?_
  refine lv_aload_n hx hb dL_law_299 rfl (lv_at hl 0 rfl) ?_
  refine lv_iload_n hx hb dL_law_300 rfl (lv_at hl 3 rfl) ?_
  refine lv_iconst (v := (4 : Int32)) hx hb dL_law_301 (by decide) ?_
  refine lv_iadd hx hb dL_law_302 ?_
  refine va_sld hx hb hX hbl hbA hS (lw_in ex3 hi hL (k := 4) (by decide) rfl) dL_law_303 ?_
  refine lv_aload_n hx hb dL_law_304 rfl (lv_at hl 0 rfl) ?_
  refine lv_iload_n hx hb dL_law_305 rfl (lv_at hl 3 rfl) ?_
  refine lv_iconst (v := (5 : Int32)) hx hb dL_law_306 (by decide) ?_
  refine lv_iadd hx hb dL_law_307 ?_
  refine va_sld hx hb hX hbl hbA hS (lw_in ex3 hi hL (k := 5) (by decide) rfl) dL_law_308 ?_
  refine lcall (wf := (mW aM cs)) (wr := (cWs aC cs u9)) (va_runV (As := [.int (xs (x3 + (1 : Int32)).toNatClampNeg), .int (xs (x3 + (2 : Int32)).toNatClampNeg), .int (xs (x3 + (3 : Int32)).toNatClampNeg), .int (xs (x3 + (4 : Int32)).toNatClampNeg), .int (xs (x3 + (5 : Int32)).toNatClampNeg)]) (rest := [.int r9]) ⟨hx, hb, hml, hown, hts⟩ (kX12_line l D cs aM v F (xs (x3 + (1 : Int32)).toNatClampNeg) (xs (x3 + (2 : Int32)).toNatClampNeg) (xs (x3 + (3 : Int32)).toNatClampNeg) (xs (x3 + (4 : Int32)).toNatClampNeg) (xs (x3 + (5 : Int32)).toNatClampNeg) r9 v2 hcm _) (cwV 5 hts gL_law_X12_line rfl rfl rfl (by decide +kernel) ⟨Nat.le_of_ble_eq_true rfl, Nat.le_of_ble_eq_true rfl⟩) (pQ_v hP2 hK hD2 (va_recv hK.1 hP2 (ci := 11) (q0 := 0) rfl rfl)) rfl rfl hl.1 rfl (lv_room (Nat.le_of_ble_eq_true rfl)) dL_law_309 ⟨by show 100 + i + 1 + 0 ≤ 600000; omega, by show 12000 + 3 * i + 2 + 0 ≤ room_1.slots; have := rs_ge; omega⟩) hD2 hP1 hdj.symm hS hA (fun r8 v8 H locs hw hP2 hD2 hP1 hdj2 hS => ?_)
  obtain ⟨rfl, rfl⟩ := hw
  have hdj := hdj2.symm
  refine lv_icmp_eq (tgt := 1371) hx hb dL_law_312 (by decide) (fun _ => ?_) (fun c9 => absurd rfl c9)
  refine W.widen (k := 100 + (i + 7)) (n := 12000 + 3 * (i + 7)) (by omega) (by omega) ?_
  exact kk _ _ _ _ _ hR2 hP1 hD1 hP2 hD2 hdj hS hl
set_option maxHeartbeats 4000000 in
set_option maxRecDepth 100000 in
theorem law_block {p : Program} {l : Launch} {e : Env} {s : State} {m : MethodId} {below : List Frame} {meth : Method} {c : Code} {b L : Nat} {xs : Nat → Int32} (hL : L ≤ 3584) (C0 : lw_At p s m meth c b L xs) {D : va_G} {cs : Nat → ClassId} (hK : KK D cs s) (hG : GT (sA s) s) {aC aM : Nat → Nat} {Rel : SS → (Nat → Nat → Int32) → Prop} (hOK : ∀ u v, Rel u v → shOK u.2.1 u.2.2.1 u.2.2.2) (hs : st_block Rel) (i : Nat) (hi : i + 7 ≤ L) (x3 : Int32) (ex3 : x3 = nI i) (u : SS) (v : Nat → Nat → Int32) (hR : Rel u v) (H : Heap) (locs : List Loc) (ls : Array Slot) (hP1 : va_P D vwCl (cWs aC cs u) H) (hD1 : va_D (sA s) (cWs aC cs u)) (hP2 : va_P D vwCl (mW aM cs v) H) (hD2 : va_D (sA s) (mW aM cs v)) (hdj : dj (cWs aC cs u) (mW aM cs v)) (hS : va_S (sA s) s.heap H locs) (hl : lv_has ls 4 [(0, .ref b), (1, .ref (aC 0)), (2, .ref (aM 0)), (3, .int x3)]) (kk : ∀ (u : SS) (v : Nat → Nat → Int32) (H : Heap) (locs : List Loc) (ls : Array Slot), Rel u v → va_P D vwCl (cWs aC cs u) H → va_D (sA s) (cWs aC cs u) → va_P D vwCl (mW aM cs v) H → va_D (sA s) (mW aM cs v) → dj (cWs aC cs u) (mW aM cs v) → va_S (sA s) s.heap H locs → lv_has ls 4 [(0, .ref b), (1, .ref (aC 0)), (2, .ref (aM 0)), (3, .int x3)] → W p l e room_1 s m #[Value.ref b] below meth c H locs (100 + (i + 7)) (12000 + 3 * (i + 7)) (lw_Z below #[Value.ref b] s) (F0 m 1371 ls [])) : W p l e room_1 s m #[Value.ref b] below meth c H locs (100 + i) (12000 + 3 * i) (lw_Z below #[Value.ref b] s) (F0 m 317 ls []) := by
  obtain ⟨hx, hb, hr, hml, hown, hts0, hX, hbl, hlocks, hgv⟩ := id C0
  have hts : ∀ w ∈ wsL_law, w.before #[Value.ref b] s = true := fun w h => hts0 w (wsL_law_in w h)
  have hA : ∀ q : Nat, s.heap.size ≤ q → sA s q := fun _ h => h
  have hbA : ¬ sA s b := Nat.not_le.mpr hbl
  obtain ⟨σ, sh, LP, Z⟩ := u
  have hZ : shOK sh LP Z := hOK _ _ hR
  have hP1 : va_P D vwCl (cW aC cs sh LP Z σ) H := hP1
  have hD1 : va_D (sA s) (cW aC cs sh LP Z σ) := hD1
  obtain ⟨F, r, o, v2, hcx, hcm, hpost⟩ := hs (σ, sh, LP, Z) v (xs (x3 + (1 : Int32)).toNatClampNeg) (xs (x3 + (2 : Int32)).toNatClampNeg) (xs (x3 + (3 : Int32)).toNatClampNeg) (xs (x3 + (4 : Int32)).toNatClampNeg) (xs (x3 + (5 : Int32)).toNatClampNeg) hR
  refine lv_aload_n hx hb dL_law_317 rfl (lv_at hl 1 rfl) ?_
  refine lv_aload_n hx hb dL_law_318 rfl (lv_at hl 0 rfl) ?_
  refine lv_iload_n hx hb dL_law_319 rfl (lv_at hl 3 rfl) ?_
  refine lv_iconst (v := (1 : Int32)) hx hb dL_law_320 (by decide) ?_
  refine lv_iadd hx hb dL_law_321 ?_
  refine va_sld hx hb hX hbl hbA hS (lw_in ex3 hi hL (k := 1) (by decide) rfl) dL_law_322 ?_
  refine lv_aload_n hx hb dL_law_323 rfl (lv_at hl 0 rfl) ?_
  refine lv_iload_n hx hb dL_law_324 rfl (lv_at hl 3 rfl) ?_
  refine lv_iconst (v := (2 : Int32)) hx hb dL_law_325 (by decide) ?_
  refine lv_iadd hx hb dL_law_326 ?_
  refine va_sld hx hb hX hbl hbA hS (lw_in ex3 hi hL (k := 2) (by decide) rfl) dL_law_327 ?_
  refine lv_aload_n hx hb dL_law_328 rfl (lv_at hl 0 rfl) ?_
  refine lv_iload_n hx hb dL_law_329 rfl (lv_at hl 3 rfl) ?_
  refine lv_iconst (v := (3 : Int32)) hx hb dL_law_330 (by decide) ?_
  refine lv_iadd hx hb dL_law_331 ?_
  refine va_sld hx hb hX hbl hbA hS (lw_in ex3 hi hL (k := 3) (by decide) rfl) dL_law_332 ?_
  refine lv_aload_n hx hb dL_law_333 rfl (lv_at hl 0 rfl) ?_
  refine lv_iload_n hx hb dL_law_334 rfl (lv_at hl 3 rfl) ?_
  refine lv_iconst (v := (4 : Int32)) hx hb dL_law_335 (by decide) ?_
  refine lv_iadd hx hb dL_law_336 ?_
  refine va_sld hx hb hX hbl hbA hS (lw_in ex3 hi hL (k := 4) (by decide) rfl) dL_law_337 ?_
  refine lv_aload_n hx hb dL_law_338 rfl (lv_at hl 0 rfl) ?_
  refine lv_iload_n hx hb dL_law_339 rfl (lv_at hl 3 rfl) ?_
  refine lv_iconst (v := (5 : Int32)) hx hb dL_law_340 (by decide) ?_
  refine lv_iadd hx hb dL_law_341 ?_
  refine va_sld hx hb hX hbl hbA hS (lw_in ex3 hi hL (k := 5) (by decide) rfl) dL_law_342 ?_
  refine lcall (wf := (cWs aC cs)) (wr := mW aM cs v) (va_runV (As := [.int (xs (x3 + (1 : Int32)).toNatClampNeg), .int (xs (x3 + (2 : Int32)).toNatClampNeg), .int (xs (x3 + (3 : Int32)).toNatClampNeg), .int (xs (x3 + (4 : Int32)).toNatClampNeg), .int (xs (x3 + (5 : Int32)).toNatClampNeg)]) (rest := []) ⟨hx, hb, hml, hown, hts⟩ (kX11_block l D cs aC sh LP Z hZ σ F (xs (x3 + (1 : Int32)).toNatClampNeg) (xs (x3 + (2 : Int32)).toNatClampNeg) (xs (x3 + (3 : Int32)).toNatClampNeg) (xs (x3 + (4 : Int32)).toNatClampNeg) (xs (x3 + (5 : Int32)).toNatClampNeg) r o hcx _) (cwV 5 hts gL_law_X11_block rfl rfl rfl (by decide +kernel) ⟨Nat.le_of_ble_eq_true rfl, Nat.le_of_ble_eq_true rfl⟩) (pQ_v hP1 hK hD1 (va_recv hK.1 hP1 (ci := 10) (q0 := 0) rfl rfl)) rfl rfl hl.1 rfl (lv_room (Nat.le_of_ble_eq_true rfl)) dL_law_343 ⟨by show 100 + i + 1 ≤ 600000; omega, by show 12000 + 3 * i + 2 ≤ room_1.slots; have := rs_ge; omega⟩) hD1 hP2 hdj hS hA (fun r9 u9 H locs hw hP1 hD1 hP2 hdj hS => ?_)
  have hR2 := hpost u9 ⟨rfl, hw.2⟩
  obtain ⟨rfl, -⟩ := hw
  refine lv_aload_n hx hb dL_law_346 rfl (lv_at hl 2 rfl) ?_
  refine lv_aload_n hx hb dL_law_347 rfl (lv_at hl 0 rfl) ?_
  refine lv_iload_n hx hb dL_law_348 rfl (lv_at hl 3 rfl) ?_
  refine lv_iconst (v := (1 : Int32)) hx hb dL_law_349 (by decide) ?_
  refine lv_iadd hx hb dL_law_350 ?_
  refine va_sld hx hb hX hbl hbA hS (lw_in ex3 hi hL (k := 1) (by decide) rfl) dL_law_351 ?_
  refine lv_aload_n hx hb dL_law_352 rfl (lv_at hl 0 rfl) ?_
  refine lv_iload_n hx hb dL_law_353 rfl (lv_at hl 3 rfl) ?_
  refine lv_iconst (v := (2 : Int32)) hx hb dL_law_354 (by decide) ?_
  refine lv_iadd hx hb dL_law_355 ?_
  refine va_sld hx hb hX hbl hbA hS (lw_in ex3 hi hL (k := 2) (by decide) rfl) dL_law_356 ?_
  refine lv_aload_n hx hb dL_law_357 rfl (lv_at hl 0 rfl) ?_
  refine lv_iload_n hx hb dL_law_358 rfl (lv_at hl 3 rfl) ?_
  refine lv_iconst (v := (3 : Int32)) hx hb dL_law_359 (by decide) ?_
  refine lv_iadd hx hb dL_law_360 ?_
  refine va_sld hx hb hX hbl hbA hS (lw_in ex3 hi hL (k := 3) (by decide) rfl) dL_law_361 ?_
  refine lv_aload_n hx hb dL_law_362 rfl (lv_at hl 0 rfl) ?_
  refine lv_iload_n hx hb dL_law_363 rfl (lv_at hl 3 rfl) ?_
  refine lv_iconst (v := (4 : Int32)) hx hb dL_law_364 (by decide) ?_
  refine lv_iadd hx hb dL_law_365 ?_
  refine va_sld hx hb hX hbl hbA hS (lw_in ex3 hi hL (k := 4) (by decide) rfl) dL_law_366 ?_
  refine lv_aload_n hx hb dL_law_367 rfl (lv_at hl 0 rfl) ?_
  refine lv_iload_n hx hb dL_law_368 rfl (lv_at hl 3 rfl) ?_
  refine lv_iconst (v := (5 : Int32)) hx hb dL_law_369 (by decide) ?_
  refine lv_iadd hx hb dL_law_370 ?_
  refine va_sld hx hb hX hbl hbA hS (lw_in ex3 hi hL (k := 5) (by decide) rfl) dL_law_371 ?_
  refine lcall (wf := (mW aM cs)) (wr := (cWs aC cs u9)) (va_runV (As := [.int (xs (x3 + (1 : Int32)).toNatClampNeg), .int (xs (x3 + (2 : Int32)).toNatClampNeg), .int (xs (x3 + (3 : Int32)).toNatClampNeg), .int (xs (x3 + (4 : Int32)).toNatClampNeg), .int (xs (x3 + (5 : Int32)).toNatClampNeg)]) (rest := [.int r9]) ⟨hx, hb, hml, hown, hts⟩ (kX12_block l D cs aM v F (xs (x3 + (1 : Int32)).toNatClampNeg) (xs (x3 + (2 : Int32)).toNatClampNeg) (xs (x3 + (3 : Int32)).toNatClampNeg) (xs (x3 + (4 : Int32)).toNatClampNeg) (xs (x3 + (5 : Int32)).toNatClampNeg) r9 v2 hcm _) (cwV 5 hts gL_law_X12_block rfl rfl rfl (by decide +kernel) ⟨Nat.le_of_ble_eq_true rfl, Nat.le_of_ble_eq_true rfl⟩) (pQ_v hP2 hK hD2 (va_recv hK.1 hP2 (ci := 11) (q0 := 0) rfl rfl)) rfl rfl hl.1 rfl (lv_room (Nat.le_of_ble_eq_true rfl)) dL_law_372 ⟨by show 100 + i + 1 + 0 ≤ 600000; omega, by show 12000 + 3 * i + 2 + 0 ≤ room_1.slots; have := rs_ge; omega⟩) hD2 hP1 hdj.symm hS hA (fun r8 v8 H locs hw hP2 hD2 hP1 hdj2 hS => ?_)
  obtain ⟨rfl, rfl⟩ := hw
  have hdj := hdj2.symm
  refine lv_icmp_eq (tgt := 1371) hx hb dL_law_375 (by decide) (fun _ => ?_) (fun c9 => absurd rfl c9)
  refine W.widen (k := 100 + (i + 7)) (n := 12000 + 3 * (i + 7)) (by omega) (by omega) ?_
  exact kk _ _ _ _ _ hR2 hP1 hD1 hP2 hD2 hdj hS hl
set_option maxHeartbeats 4000000 in
set_option maxRecDepth 100000 in
theorem law_sign {p : Program} {l : Launch} {e : Env} {s : State} {m : MethodId} {below : List Frame} {meth : Method} {c : Code} {b L : Nat} {xs : Nat → Int32} (hL : L ≤ 3584) (C0 : lw_At p s m meth c b L xs) {D : va_G} {cs : Nat → ClassId} (hK : KK D cs s) (hG : GT (sA s) s) {aC aM : Nat → Nat} {Rel : SS → (Nat → Nat → Int32) → Prop} (hOK : ∀ u v, Rel u v → shOK u.2.1 u.2.2.1 u.2.2.2) (hs : st_sign Rel) (i : Nat) (hi : i + 7 ≤ L) (x3 : Int32) (ex3 : x3 = nI i) (u : SS) (v : Nat → Nat → Int32) (hR : Rel u v) (H : Heap) (locs : List Loc) (ls : Array Slot) (hP1 : va_P D vwCl (cWs aC cs u) H) (hD1 : va_D (sA s) (cWs aC cs u)) (hP2 : va_P D vwCl (mW aM cs v) H) (hD2 : va_D (sA s) (mW aM cs v)) (hdj : dj (cWs aC cs u) (mW aM cs v)) (hS : va_S (sA s) s.heap H locs) (hl : lv_has ls 4 [(0, .ref b), (1, .ref (aC 0)), (2, .ref (aM 0)), (3, .int x3)]) (kk : ∀ (u : SS) (v : Nat → Nat → Int32) (H : Heap) (locs : List Loc) (ls : Array Slot), Rel u v → va_P D vwCl (cWs aC cs u) H → va_D (sA s) (cWs aC cs u) → va_P D vwCl (mW aM cs v) H → va_D (sA s) (mW aM cs v) → dj (cWs aC cs u) (mW aM cs v) → va_S (sA s) s.heap H locs → lv_has ls 4 [(0, .ref b), (1, .ref (aC 0)), (2, .ref (aM 0)), (3, .int x3)] → W p l e room_1 s m #[Value.ref b] below meth c H locs (100 + (i + 7)) (12000 + 3 * (i + 7)) (lw_Z below #[Value.ref b] s) (F0 m 1371 ls [])) : W p l e room_1 s m #[Value.ref b] below meth c H locs (100 + i) (12000 + 3 * i) (lw_Z below #[Value.ref b] s) (F0 m 380 ls []) := by
  obtain ⟨hx, hb, hr, hml, hown, hts0, hX, hbl, hlocks, hgv⟩ := id C0
  have hts : ∀ w ∈ wsL_law, w.before #[Value.ref b] s = true := fun w h => hts0 w (wsL_law_in w h)
  have hA : ∀ q : Nat, s.heap.size ≤ q → sA s q := fun _ h => h
  have hbA : ¬ sA s b := Nat.not_le.mpr hbl
  obtain ⟨σ, sh, LP, Z⟩ := u
  have hZ : shOK sh LP Z := hOK _ _ hR
  have hP1 : va_P D vwCl (cW aC cs sh LP Z σ) H := hP1
  have hD1 : va_D (sA s) (cW aC cs sh LP Z σ) := hD1
  obtain ⟨F, r, o, v2, hcx, hcm, hpost⟩ := hs (σ, sh, LP, Z) v (xs (x3 + (1 : Int32)).toNatClampNeg) (xs (x3 + (2 : Int32)).toNatClampNeg) (xs (x3 + (3 : Int32)).toNatClampNeg) (xs (x3 + (4 : Int32)).toNatClampNeg) (xs (x3 + (5 : Int32)).toNatClampNeg) (xs (x3 + (6 : Int32)).toNatClampNeg) hR
  refine lv_aload_n hx hb dL_law_380 rfl (lv_at hl 1 rfl) ?_
  refine lv_aload_n hx hb dL_law_381 rfl (lv_at hl 0 rfl) ?_
  refine lv_iload_n hx hb dL_law_382 rfl (lv_at hl 3 rfl) ?_
  refine lv_iconst (v := (1 : Int32)) hx hb dL_law_383 (by decide) ?_
  refine lv_iadd hx hb dL_law_384 ?_
  refine va_sld hx hb hX hbl hbA hS (lw_in ex3 hi hL (k := 1) (by decide) rfl) dL_law_385 ?_
  refine lv_aload_n hx hb dL_law_386 rfl (lv_at hl 0 rfl) ?_
  refine lv_iload_n hx hb dL_law_387 rfl (lv_at hl 3 rfl) ?_
  refine lv_iconst (v := (2 : Int32)) hx hb dL_law_388 (by decide) ?_
  refine lv_iadd hx hb dL_law_389 ?_
  refine va_sld hx hb hX hbl hbA hS (lw_in ex3 hi hL (k := 2) (by decide) rfl) dL_law_390 ?_
  refine lv_aload_n hx hb dL_law_391 rfl (lv_at hl 0 rfl) ?_
  refine lv_iload_n hx hb dL_law_392 rfl (lv_at hl 3 rfl) ?_
  refine lv_iconst (v := (3 : Int32)) hx hb dL_law_393 (by decide) ?_
  refine lv_iadd hx hb dL_law_394 ?_
  refine va_sld hx hb hX hbl hbA hS (lw_in ex3 hi hL (k := 3) (by decide) rfl) dL_law_395 ?_
  refine lv_aload_n hx hb dL_law_396 rfl (lv_at hl 0 rfl) ?_
  refine lv_iload_n hx hb dL_law_397 rfl (lv_at hl 3 rfl) ?_
  refine lv_iconst (v := (4 : Int32)) hx hb dL_law_398 (by decide) ?_
  refine lv_iadd hx hb dL_law_399 ?_
  refine va_sld hx hb hX hbl hbA hS (lw_in ex3 hi hL (k := 4) (by decide) rfl) dL_law_400 ?_
  refine lv_aload_n hx hb dL_law_401 rfl (lv_at hl 0 rfl) ?_
  refine lv_iload_n hx hb dL_law_402 rfl (lv_at hl 3 rfl) ?_
  refine lv_iconst (v := (5 : Int32)) hx hb dL_law_403 (by decide) ?_
  refine lv_iadd hx hb dL_law_404 ?_
  refine va_sld hx hb hX hbl hbA hS (lw_in ex3 hi hL (k := 5) (by decide) rfl) dL_law_405 ?_
  refine lv_aload_n hx hb dL_law_406 rfl (lv_at hl 0 rfl) ?_
  refine lv_iload_n hx hb dL_law_407 rfl (lv_at hl 3 rfl) ?_
  refine lv_bipush (v := (6 : Int32)) hx hb dL_law_408 (by decide) ?_
  refine lv_iadd hx hb dL_law_410 ?_
  refine va_sld hx hb hX hbl hbA hS (lw_in ex3 hi hL (k := 6) (by decide) rfl) dL_law_411 ?_
  refine lcall (wf := (cWs aC cs)) (wr := mW aM cs v) (va_runV (As := [.int (xs (x3 + (1 : Int32)).toNatClampNeg), .int (xs (x3 + (2 : Int32)).toNatClampNeg), .int (xs (x3 + (3 : Int32)).toNatClampNeg), .int (xs (x3 + (4 : Int32)).toNatClampNeg), .int (xs (x3 + (5 : Int32)).toNatClampNeg), .int (xs (x3 + (6 : Int32)).toNatClampNeg)]) (rest := []) ⟨hx, hb, hml, hown, hts⟩ (kX11_sign l D cs aC sh LP Z hZ σ F (xs (x3 + (1 : Int32)).toNatClampNeg) (xs (x3 + (2 : Int32)).toNatClampNeg) (xs (x3 + (3 : Int32)).toNatClampNeg) (xs (x3 + (4 : Int32)).toNatClampNeg) (xs (x3 + (5 : Int32)).toNatClampNeg) (xs (x3 + (6 : Int32)).toNatClampNeg) r o hcx _) (cwV 6 hts gL_law_X11_sign rfl rfl rfl (by decide +kernel) ⟨Nat.le_of_ble_eq_true rfl, Nat.le_of_ble_eq_true rfl⟩) (pQ_v hP1 hK hD1 (va_recv hK.1 hP1 (ci := 10) (q0 := 0) rfl rfl)) rfl rfl hl.1 rfl (lv_room (Nat.le_of_ble_eq_true rfl)) dL_law_412 ⟨by show 100 + i + 1 ≤ 600000; omega, by show 12000 + 3 * i + 3 ≤ room_1.slots; have := rs_ge; omega⟩) hD1 hP2 hdj hS hA (fun r9 u9 H locs hw hP1 hD1 hP2 hdj hS => ?_)
  have hR2 := hpost u9 ⟨rfl, hw.2⟩
  obtain ⟨rfl, -⟩ := hw
  refine lv_aload_n hx hb dL_law_415 rfl (lv_at hl 2 rfl) ?_
  refine lv_aload_n hx hb dL_law_416 rfl (lv_at hl 0 rfl) ?_
  refine lv_iload_n hx hb dL_law_417 rfl (lv_at hl 3 rfl) ?_
  refine lv_iconst (v := (1 : Int32)) hx hb dL_law_418 (by decide) ?_
  refine lv_iadd hx hb dL_law_419 ?_
  refine va_sld hx hb hX hbl hbA hS (lw_in ex3 hi hL (k := 1) (by decide) rfl) dL_law_420 ?_
  refine lv_aload_n hx hb dL_law_421 rfl (lv_at hl 0 rfl) ?_
  refine lv_iload_n hx hb dL_law_422 rfl (lv_at hl 3 rfl) ?_
  refine lv_iconst (v := (2 : Int32)) hx hb dL_law_423 (by decide) ?_
  refine lv_iadd hx hb dL_law_424 ?_
  refine va_sld hx hb hX hbl hbA hS (lw_in ex3 hi hL (k := 2) (by decide) rfl) dL_law_425 ?_
  refine lv_aload_n hx hb dL_law_426 rfl (lv_at hl 0 rfl) ?_
  refine lv_iload_n hx hb dL_law_427 rfl (lv_at hl 3 rfl) ?_
  refine lv_iconst (v := (3 : Int32)) hx hb dL_law_428 (by decide) ?_
  refine lv_iadd hx hb dL_law_429 ?_
  refine va_sld hx hb hX hbl hbA hS (lw_in ex3 hi hL (k := 3) (by decide) rfl) dL_law_430 ?_
  refine lv_aload_n hx hb dL_law_431 rfl (lv_at hl 0 rfl) ?_
  refine lv_iload_n hx hb dL_law_432 rfl (lv_at hl 3 rfl) ?_
  refine lv_iconst (v := (4 : Int32)) hx hb dL_law_433 (by decide) ?_
  refine lv_iadd hx hb dL_law_434 ?_
  refine va_sld hx hb hX hbl hbA hS (lw_in ex3 hi hL (k := 4) (by decide) rfl) dL_law_435 ?_
  refine lv_aload_n hx hb dL_law_436 rfl (lv_at hl 0 rfl) ?_
  refine lv_iload_n hx hb dL_law_437 rfl (lv_at hl 3 rfl) ?_
  refine lv_iconst (v := (5 : Int32)) hx hb dL_law_438 (by decide) ?_
  refine lv_iadd hx hb dL_law_439 ?_
  refine va_sld hx hb hX hbl hbA hS (lw_in ex3 hi hL (k := 5) (by decide) rfl) dL_law_440 ?_
  refine lv_aload_n hx hb dL_law_441 rfl (lv_at hl 0 rfl) ?_
  refine lv_iload_n hx hb dL_law_442 rfl (lv_at hl 3 rfl) ?_
  refine lv_bipush (v := (6 : Int32)) hx hb dL_law_443 (by decide) ?_
  refine lv_iadd hx hb dL_law_445 ?_
  refine va_sld hx hb hX hbl hbA hS (lw_in ex3 hi hL (k := 6) (by decide) rfl) dL_law_446 ?_
  refine lcall (wf := (mW aM cs)) (wr := (cWs aC cs u9)) (va_runV (As := [.int (xs (x3 + (1 : Int32)).toNatClampNeg), .int (xs (x3 + (2 : Int32)).toNatClampNeg), .int (xs (x3 + (3 : Int32)).toNatClampNeg), .int (xs (x3 + (4 : Int32)).toNatClampNeg), .int (xs (x3 + (5 : Int32)).toNatClampNeg), .int (xs (x3 + (6 : Int32)).toNatClampNeg)]) (rest := [.int r9]) ⟨hx, hb, hml, hown, hts⟩ (kX12_sign l D cs aM v F (xs (x3 + (1 : Int32)).toNatClampNeg) (xs (x3 + (2 : Int32)).toNatClampNeg) (xs (x3 + (3 : Int32)).toNatClampNeg) (xs (x3 + (4 : Int32)).toNatClampNeg) (xs (x3 + (5 : Int32)).toNatClampNeg) (xs (x3 + (6 : Int32)).toNatClampNeg) r9 v2 hcm _) (cwV 6 hts gL_law_X12_sign rfl rfl rfl (by decide +kernel) ⟨Nat.le_of_ble_eq_true rfl, Nat.le_of_ble_eq_true rfl⟩) (pQ_v hP2 hK hD2 (va_recv hK.1 hP2 (ci := 11) (q0 := 0) rfl rfl)) rfl rfl hl.1 rfl (lv_room (Nat.le_of_ble_eq_true rfl)) dL_law_447 ⟨by show 100 + i + 1 + 0 ≤ 600000; omega, by show 12000 + 3 * i + 3 + 0 ≤ room_1.slots; have := rs_ge; omega⟩) hD2 hP1 hdj.symm hS hA (fun r8 v8 H locs hw hP2 hD2 hP1 hdj2 hS => ?_)
  obtain ⟨rfl, rfl⟩ := hw
  have hdj := hdj2.symm
  refine lv_icmp_eq (tgt := 1371) hx hb dL_law_450 (by decide) (fun _ => ?_) (fun c9 => absurd rfl c9)
  refine W.widen (k := 100 + (i + 7)) (n := 12000 + 3 * (i + 7)) (by omega) (by omega) ?_
  exact kk _ _ _ _ _ hR2 hP1 hD1 hP2 hD2 hdj hS hl
set_option maxHeartbeats 4000000 in
set_option maxRecDepth 100000 in
theorem law_undo {p : Program} {l : Launch} {e : Env} {s : State} {m : MethodId} {below : List Frame} {meth : Method} {c : Code} {b L : Nat} {xs : Nat → Int32} (hL : L ≤ 3584) (C0 : lw_At p s m meth c b L xs) {D : va_G} {cs : Nat → ClassId} (hK : KK D cs s) (hG : GT (sA s) s) {aC aM : Nat → Nat} {Rel : SS → (Nat → Nat → Int32) → Prop} (hOK : ∀ u v, Rel u v → shOK u.2.1 u.2.2.1 u.2.2.2) (hs : st_undo Rel) (i : Nat) (hi : i + 7 ≤ L) (x3 : Int32) (ex3 : x3 = nI i) (u : SS) (v : Nat → Nat → Int32) (hR : Rel u v) (H : Heap) (locs : List Loc) (ls : Array Slot) (hP1 : va_P D vwCl (cWs aC cs u) H) (hD1 : va_D (sA s) (cWs aC cs u)) (hP2 : va_P D vwCl (mW aM cs v) H) (hD2 : va_D (sA s) (mW aM cs v)) (hdj : dj (cWs aC cs u) (mW aM cs v)) (hS : va_S (sA s) s.heap H locs) (hl : lv_has ls 4 [(0, .ref b), (1, .ref (aC 0)), (2, .ref (aM 0)), (3, .int x3)]) (kk : ∀ (u : SS) (v : Nat → Nat → Int32) (H : Heap) (locs : List Loc) (ls : Array Slot), Rel u v → va_P D vwCl (cWs aC cs u) H → va_D (sA s) (cWs aC cs u) → va_P D vwCl (mW aM cs v) H → va_D (sA s) (mW aM cs v) → dj (cWs aC cs u) (mW aM cs v) → va_S (sA s) s.heap H locs → lv_has ls 4 [(0, .ref b), (1, .ref (aC 0)), (2, .ref (aM 0)), (3, .int x3)] → W p l e room_1 s m #[Value.ref b] below meth c H locs (100 + (i + 7)) (12000 + 3 * (i + 7)) (lw_Z below #[Value.ref b] s) (F0 m 1371 ls [])) : W p l e room_1 s m #[Value.ref b] below meth c H locs (100 + i) (12000 + 3 * i) (lw_Z below #[Value.ref b] s) (F0 m 455 ls []) := by
  obtain ⟨hx, hb, hr, hml, hown, hts0, hX, hbl, hlocks, hgv⟩ := id C0
  have hts : ∀ w ∈ wsL_law, w.before #[Value.ref b] s = true := fun w h => hts0 w (wsL_law_in w h)
  have hA : ∀ q : Nat, s.heap.size ≤ q → sA s q := fun _ h => h
  have hbA : ¬ sA s b := Nat.not_le.mpr hbl
  obtain ⟨σ, sh, LP, Z⟩ := u
  have hZ : shOK sh LP Z := hOK _ _ hR
  have hP1 : va_P D vwCl (cW aC cs sh LP Z σ) H := hP1
  have hD1 : va_D (sA s) (cW aC cs sh LP Z σ) := hD1
  obtain ⟨F, r, σ2, v2, hcx, hcm, hpost⟩ := hs (σ, sh, LP, Z) v  hR
  refine lv_aload_n hx hb dL_law_455 rfl (lv_at hl 1 rfl) ?_
  refine lcall (wf := (cW aC cs (shUndo σ sh) LP Z)) (wr := mW aM cs v) (va_runV (As := []) (rest := []) ⟨hx, hb, hml, hown, hts⟩ (kX11_undo l D cs aC sh LP Z hZ σ F  r σ2 hcx _) (cwV 0 hts gL_law_X11_undo rfl rfl rfl (by decide +kernel) ⟨Nat.le_of_ble_eq_true rfl, Nat.le_of_ble_eq_true rfl⟩) (pQ_v hP1 hK hD1 (va_recv hK.1 hP1 (ci := 10) (q0 := 0) rfl rfl)) rfl rfl hl.1 rfl (lv_room (Nat.le_of_ble_eq_true rfl)) dL_law_456 ⟨by show 100 + i + 0 ≤ 600000; omega, by show 12000 + 3 * i + 0 ≤ room_1.slots; have := rs_ge; omega⟩) hD1 hP2 hdj hS hA (fun r9 u9 H locs hw hP1 hD1 hP2 hdj hS => ?_)
  obtain ⟨rfl, rfl⟩ := hw
  refine lv_aload_n hx hb dL_law_459 rfl (lv_at hl 2 rfl) ?_
  refine lcall (wf := (mW aM cs)) (wr := (cW aC cs (shUndo σ sh) LP Z u9)) (va_runV (As := []) (rest := [.int r9]) ⟨hx, hb, hml, hown, hts⟩ (kX12_undo l D cs aM v F  r9 v2 hcm _) (cwV 0 hts gL_law_X12_undo rfl rfl rfl (by decide +kernel) ⟨Nat.le_of_ble_eq_true rfl, Nat.le_of_ble_eq_true rfl⟩) (pQ_v hP2 hK hD2 (va_recv hK.1 hP2 (ci := 11) (q0 := 0) rfl rfl)) rfl rfl hl.1 rfl (lv_room (Nat.le_of_ble_eq_true rfl)) dL_law_460 ⟨by show 100 + i + 0 + 0 ≤ 600000; omega, by show 12000 + 3 * i + 0 + 0 ≤ room_1.slots; have := rs_ge; omega⟩) hD2 hP1 hdj.symm hS hA (fun r8 v8 H locs hw hP2 hD2 hP1 hdj2 hS => ?_)
  obtain ⟨rfl, rfl⟩ := hw
  have hdj := hdj2.symm
  refine lv_icmp_eq (tgt := 1371) hx hb dL_law_463 (by decide) (fun _ => ?_) (fun c9 => absurd rfl c9)
  refine W.widen (k := 100 + (i + 7)) (n := 12000 + 3 * (i + 7)) (by omega) (by omega) ?_
  exact kk _ _ _ _ _ hpost hP1 hD1 hP2 hD2 hdj hS hl
set_option maxHeartbeats 4000000 in
set_option maxRecDepth 100000 in
theorem law_told {p : Program} {l : Launch} {e : Env} {s : State} {m : MethodId} {below : List Frame} {meth : Method} {c : Code} {b L : Nat} {xs : Nat → Int32} (hL : L ≤ 3584) (C0 : lw_At p s m meth c b L xs) {D : va_G} {cs : Nat → ClassId} (hK : KK D cs s) (hG : GT (sA s) s) {aC aM : Nat → Nat} {Rel : SS → (Nat → Nat → Int32) → Prop} (hOK : ∀ u v, Rel u v → shOK u.2.1 u.2.2.1 u.2.2.2) (hs : st_told Rel) (i : Nat) (hi : i + 7 ≤ L) (x3 : Int32) (ex3 : x3 = nI i) (u : SS) (v : Nat → Nat → Int32) (hR : Rel u v) (H : Heap) (locs : List Loc) (ls : Array Slot) (hP1 : va_P D vwCl (cWs aC cs u) H) (hD1 : va_D (sA s) (cWs aC cs u)) (hP2 : va_P D vwCl (mW aM cs v) H) (hD2 : va_D (sA s) (mW aM cs v)) (hdj : dj (cWs aC cs u) (mW aM cs v)) (hS : va_S (sA s) s.heap H locs) (hl : lv_has ls 4 [(0, .ref b), (1, .ref (aC 0)), (2, .ref (aM 0)), (3, .int x3)]) (kk : ∀ (u : SS) (v : Nat → Nat → Int32) (H : Heap) (locs : List Loc) (ls : Array Slot), Rel u v → va_P D vwCl (cWs aC cs u) H → va_D (sA s) (cWs aC cs u) → va_P D vwCl (mW aM cs v) H → va_D (sA s) (mW aM cs v) → dj (cWs aC cs u) (mW aM cs v) → va_S (sA s) s.heap H locs → lv_has ls 4 [(0, .ref b), (1, .ref (aC 0)), (2, .ref (aM 0)), (3, .int x3)] → W p l e room_1 s m #[Value.ref b] below meth c H locs (100 + (i + 7)) (12000 + 3 * (i + 7)) (lw_Z below #[Value.ref b] s) (F0 m 1371 ls [])) : W p l e room_1 s m #[Value.ref b] below meth c H locs (100 + i) (12000 + 3 * i) (lw_Z below #[Value.ref b] s) (F0 m 468 ls []) := by
  obtain ⟨hx, hb, hr, hml, hown, hts0, hX, hbl, hlocks, hgv⟩ := id C0
  have hts : ∀ w ∈ wsL_law, w.before #[Value.ref b] s = true := fun w h => hts0 w (wsL_law_in w h)
  have hA : ∀ q : Nat, s.heap.size ≤ q → sA s q := fun _ h => h
  have hbA : ¬ sA s b := Nat.not_le.mpr hbl
  obtain ⟨σ, sh, LP, Z⟩ := u
  have hZ : shOK sh LP Z := hOK _ _ hR
  have hP1 : va_P D vwCl (cW aC cs sh LP Z σ) H := hP1
  have hD1 : va_D (sA s) (cW aC cs sh LP Z σ) := hD1
  obtain ⟨F, r, hcx, hcm, hpost⟩ := hs (σ, sh, LP, Z) v (xs (x3 + (1 : Int32)).toNatClampNeg) (xs (x3 + (2 : Int32)).toNatClampNeg) hR
  refine lv_aload_n hx hb dL_law_468 rfl (lv_at hl 1 rfl) ?_
  refine lv_aload_n hx hb dL_law_469 rfl (lv_at hl 0 rfl) ?_
  refine lv_iload_n hx hb dL_law_470 rfl (lv_at hl 3 rfl) ?_
  refine lv_iconst (v := (1 : Int32)) hx hb dL_law_471 (by decide) ?_
  refine lv_iadd hx hb dL_law_472 ?_
  refine va_sld hx hb hX hbl hbA hS (lw_in ex3 hi hL (k := 1) (by decide) rfl) dL_law_473 ?_
  refine lv_aload_n hx hb dL_law_474 rfl (lv_at hl 0 rfl) ?_
  refine lv_iload_n hx hb dL_law_475 rfl (lv_at hl 3 rfl) ?_
  refine lv_iconst (v := (2 : Int32)) hx hb dL_law_476 (by decide) ?_
  refine lv_iadd hx hb dL_law_477 ?_
  refine va_sld hx hb hX hbl hbA hS (lw_in ex3 hi hL (k := 2) (by decide) rfl) dL_law_478 ?_
  refine mcallS (va_runV (As := [.int (xs (x3 + (1 : Int32)).toNatClampNeg), .int (xs (x3 + (2 : Int32)).toNatClampNeg)]) (rest := []) ⟨hx, hb, hml, hown, hts⟩ (kX11_told l D cs aC sh LP Z hZ σ F (xs (x3 + (1 : Int32)).toNatClampNeg) (xs (x3 + (2 : Int32)).toNatClampNeg) r hcx) (cwV 2 hts gL_law_X11_told rfl rfl rfl (by decide +kernel) ⟨Nat.le_of_ble_eq_true rfl, Nat.le_of_ble_eq_true rfl⟩) (pR_v hP1 hK (va_recv hK.1 hP1 (ci := 10) (q0 := 0) rfl rfl)) rfl rfl hl.1 rfl (lv_room (Nat.le_of_ble_eq_true rfl)) dL_law_479 ⟨by show 100 + i + 0 ≤ 600000; omega, by show 12000 + 3 * i + 0 ≤ room_1.slots; have := rs_ge; omega⟩) ?_
  refine lv_aload_n hx hb dL_law_482 rfl (lv_at hl 2 rfl) ?_
  refine lv_aload_n hx hb dL_law_483 rfl (lv_at hl 0 rfl) ?_
  refine lv_iload_n hx hb dL_law_484 rfl (lv_at hl 3 rfl) ?_
  refine lv_iconst (v := (1 : Int32)) hx hb dL_law_485 (by decide) ?_
  refine lv_iadd hx hb dL_law_486 ?_
  refine va_sld hx hb hX hbl hbA hS (lw_in ex3 hi hL (k := 1) (by decide) rfl) dL_law_487 ?_
  refine lv_aload_n hx hb dL_law_488 rfl (lv_at hl 0 rfl) ?_
  refine lv_iload_n hx hb dL_law_489 rfl (lv_at hl 3 rfl) ?_
  refine lv_iconst (v := (2 : Int32)) hx hb dL_law_490 (by decide) ?_
  refine lv_iadd hx hb dL_law_491 ?_
  refine va_sld hx hb hX hbl hbA hS (lw_in ex3 hi hL (k := 2) (by decide) rfl) dL_law_492 ?_
  refine mcallS (va_runV (As := [.int (xs (x3 + (1 : Int32)).toNatClampNeg), .int (xs (x3 + (2 : Int32)).toNatClampNeg)]) (rest := [.int r]) ⟨hx, hb, hml, hown, hts⟩ (kX12_told l D cs aM v F (xs (x3 + (1 : Int32)).toNatClampNeg) (xs (x3 + (2 : Int32)).toNatClampNeg) r hcm) (cwV 2 hts gL_law_X12_told rfl rfl rfl (by decide +kernel) ⟨Nat.le_of_ble_eq_true rfl, Nat.le_of_ble_eq_true rfl⟩) (pR_v hP2 hK (va_recv hK.1 hP2 (ci := 11) (q0 := 0) rfl rfl)) rfl rfl hl.1 rfl (lv_room (Nat.le_of_ble_eq_true rfl)) dL_law_493 ⟨by show 100 + i + 0 ≤ 600000; omega, by show 12000 + 3 * i + 0 ≤ room_1.slots; have := rs_ge; omega⟩) ?_
  refine lv_icmp_eq (tgt := 1371) hx hb dL_law_496 (by decide) (fun _ => ?_) (fun c9 => absurd rfl c9)
  refine W.widen (k := 100 + (i + 7)) (n := 12000 + 3 * (i + 7)) (by omega) (by omega) ?_
  exact kk _ _ _ _ _ hpost hP1 hD1 hP2 hD2 hdj hS hl
set_option maxHeartbeats 4000000 in
set_option maxRecDepth 100000 in
theorem law_step {p : Program} {l : Launch} {e : Env} {s : State} {m : MethodId} {below : List Frame} {meth : Method} {c : Code} {b L : Nat} {xs : Nat → Int32} (hL : L ≤ 3584) (C0 : lw_At p s m meth c b L xs) {D : va_G} {cs : Nat → ClassId} (hK : KK D cs s) (hG : GT (sA s) s) {aC aM : Nat → Nat} {Rel : SS → (Nat → Nat → Int32) → Prop} (hOK : ∀ u v, Rel u v → shOK u.2.1 u.2.2.1 u.2.2.2) (hs : st_step Rel) (i : Nat) (hi : i + 7 ≤ L) (x3 : Int32) (ex3 : x3 = nI i) (u : SS) (v : Nat → Nat → Int32) (hR : Rel u v) (H : Heap) (locs : List Loc) (ls : Array Slot) (hP1 : va_P D vwCl (cWs aC cs u) H) (hD1 : va_D (sA s) (cWs aC cs u)) (hP2 : va_P D vwCl (mW aM cs v) H) (hD2 : va_D (sA s) (mW aM cs v)) (hdj : dj (cWs aC cs u) (mW aM cs v)) (hS : va_S (sA s) s.heap H locs) (hl : lv_has ls 4 [(0, .ref b), (1, .ref (aC 0)), (2, .ref (aM 0)), (3, .int x3)]) (kk : ∀ (u : SS) (v : Nat → Nat → Int32) (H : Heap) (locs : List Loc) (ls : Array Slot), Rel u v → va_P D vwCl (cWs aC cs u) H → va_D (sA s) (cWs aC cs u) → va_P D vwCl (mW aM cs v) H → va_D (sA s) (mW aM cs v) → dj (cWs aC cs u) (mW aM cs v) → va_S (sA s) s.heap H locs → lv_has ls 4 [(0, .ref b), (1, .ref (aC 0)), (2, .ref (aM 0)), (3, .int x3)] → W p l e room_1 s m #[Value.ref b] below meth c H locs (100 + (i + 7)) (12000 + 3 * (i + 7)) (lw_Z below #[Value.ref b] s) (F0 m 1371 ls [])) : W p l e room_1 s m #[Value.ref b] below meth c H locs (100 + i) (12000 + 3 * i) (lw_Z below #[Value.ref b] s) (F0 m 501 ls []) := by
  obtain ⟨hx, hb, hr, hml, hown, hts0, hX, hbl, hlocks, hgv⟩ := id C0
  have hts : ∀ w ∈ wsL_law, w.before #[Value.ref b] s = true := fun w h => hts0 w (wsL_law_in w h)
  have hA : ∀ q : Nat, s.heap.size ≤ q → sA s q := fun _ h => h
  have hbA : ¬ sA s b := Nat.not_le.mpr hbl
  obtain ⟨σ, sh, LP, Z⟩ := u
  have hZ : shOK sh LP Z := hOK _ _ hR
  have hP1 : va_P D vwCl (cW aC cs sh LP Z σ) H := hP1
  have hD1 : va_D (sA s) (cW aC cs sh LP Z σ) := hD1
  obtain ⟨F, r, hcx, hcm, hpost⟩ := hs (σ, sh, LP, Z) v (xs (x3 + (1 : Int32)).toNatClampNeg) hR
  refine lv_aload_n hx hb dL_law_501 rfl (lv_at hl 1 rfl) ?_
  refine lv_aload_n hx hb dL_law_502 rfl (lv_at hl 0 rfl) ?_
  refine lv_iload_n hx hb dL_law_503 rfl (lv_at hl 3 rfl) ?_
  refine lv_iconst (v := (1 : Int32)) hx hb dL_law_504 (by decide) ?_
  refine lv_iadd hx hb dL_law_505 ?_
  refine va_sld hx hb hX hbl hbA hS (lw_in ex3 hi hL (k := 1) (by decide) rfl) dL_law_506 ?_
  refine mcallS (va_runV (As := [.int (xs (x3 + (1 : Int32)).toNatClampNeg)]) (rest := []) ⟨hx, hb, hml, hown, hts⟩ (kX11_step l D cs aC sh LP Z hZ σ (xs (x3 + (1 : Int32)).toNatClampNeg) r hcx) (cwV 1 hts gL_law_X11_step rfl rfl rfl (by decide +kernel) ⟨Nat.le_of_ble_eq_true rfl, Nat.le_of_ble_eq_true rfl⟩) (pR_v hP1 hK (va_recv hK.1 hP1 (ci := 10) (q0 := 0) rfl rfl)) rfl rfl hl.1 rfl (lv_room (Nat.le_of_ble_eq_true rfl)) dL_law_507 ⟨by show 100 + i + 0 ≤ 600000; omega, by show 12000 + 3 * i + 0 ≤ room_1.slots; have := rs_ge; omega⟩) ?_
  refine lv_aload_n hx hb dL_law_510 rfl (lv_at hl 2 rfl) ?_
  refine lv_aload_n hx hb dL_law_511 rfl (lv_at hl 0 rfl) ?_
  refine lv_iload_n hx hb dL_law_512 rfl (lv_at hl 3 rfl) ?_
  refine lv_iconst (v := (1 : Int32)) hx hb dL_law_513 (by decide) ?_
  refine lv_iadd hx hb dL_law_514 ?_
  refine va_sld hx hb hX hbl hbA hS (lw_in ex3 hi hL (k := 1) (by decide) rfl) dL_law_515 ?_
  refine mcallS (va_runV (As := [.int (xs (x3 + (1 : Int32)).toNatClampNeg)]) (rest := [.int r]) ⟨hx, hb, hml, hown, hts⟩ (kX12_step l D cs aM v (xs (x3 + (1 : Int32)).toNatClampNeg) r hcm) (cwV 1 hts gL_law_X12_step rfl rfl rfl (by decide +kernel) ⟨Nat.le_of_ble_eq_true rfl, Nat.le_of_ble_eq_true rfl⟩) (pR_v hP2 hK (va_recv hK.1 hP2 (ci := 11) (q0 := 0) rfl rfl)) rfl rfl hl.1 rfl (lv_room (Nat.le_of_ble_eq_true rfl)) dL_law_516 ⟨by show 100 + i + 0 ≤ 600000; omega, by show 12000 + 3 * i + 0 ≤ room_1.slots; have := rs_ge; omega⟩) ?_
  refine lv_icmp_eq (tgt := 1371) hx hb dL_law_519 (by decide) (fun _ => ?_) (fun c9 => absurd rfl c9)
  refine W.widen (k := 100 + (i + 7)) (n := 12000 + 3 * (i + 7)) (by omega) (by omega) ?_
  exact kk _ _ _ _ _ hpost hP1 hD1 hP2 hD2 hdj hS hl
set_option maxHeartbeats 4000000 in
set_option maxRecDepth 100000 in
theorem law_quarter {p : Program} {l : Launch} {e : Env} {s : State} {m : MethodId} {below : List Frame} {meth : Method} {c : Code} {b L : Nat} {xs : Nat → Int32} (hL : L ≤ 3584) (C0 : lw_At p s m meth c b L xs) {D : va_G} {cs : Nat → ClassId} (hK : KK D cs s) (hG : GT (sA s) s) {aC aM : Nat → Nat} {Rel : SS → (Nat → Nat → Int32) → Prop} (hOK : ∀ u v, Rel u v → shOK u.2.1 u.2.2.1 u.2.2.2) (hs : st_quarter Rel) (i : Nat) (hi : i + 7 ≤ L) (x3 : Int32) (ex3 : x3 = nI i) (u : SS) (v : Nat → Nat → Int32) (hR : Rel u v) (H : Heap) (locs : List Loc) (ls : Array Slot) (hP1 : va_P D vwCl (cWs aC cs u) H) (hD1 : va_D (sA s) (cWs aC cs u)) (hP2 : va_P D vwCl (mW aM cs v) H) (hD2 : va_D (sA s) (mW aM cs v)) (hdj : dj (cWs aC cs u) (mW aM cs v)) (hS : va_S (sA s) s.heap H locs) (hl : lv_has ls 4 [(0, .ref b), (1, .ref (aC 0)), (2, .ref (aM 0)), (3, .int x3)]) (kk : ∀ (u : SS) (v : Nat → Nat → Int32) (H : Heap) (locs : List Loc) (ls : Array Slot), Rel u v → va_P D vwCl (cWs aC cs u) H → va_D (sA s) (cWs aC cs u) → va_P D vwCl (mW aM cs v) H → va_D (sA s) (mW aM cs v) → dj (cWs aC cs u) (mW aM cs v) → va_S (sA s) s.heap H locs → lv_has ls 4 [(0, .ref b), (1, .ref (aC 0)), (2, .ref (aM 0)), (3, .int x3)] → W p l e room_1 s m #[Value.ref b] below meth c H locs (100 + (i + 7)) (12000 + 3 * (i + 7)) (lw_Z below #[Value.ref b] s) (F0 m 1371 ls [])) : W p l e room_1 s m #[Value.ref b] below meth c H locs (100 + i) (12000 + 3 * i) (lw_Z below #[Value.ref b] s) (F0 m 524 ls []) := by
  obtain ⟨hx, hb, hr, hml, hown, hts0, hX, hbl, hlocks, hgv⟩ := id C0
  have hts : ∀ w ∈ wsL_law, w.before #[Value.ref b] s = true := fun w h => hts0 w (wsL_law_in w h)
  have hA : ∀ q : Nat, s.heap.size ≤ q → sA s q := fun _ h => h
  have hbA : ¬ sA s b := Nat.not_le.mpr hbl
  obtain ⟨σ, sh, LP, Z⟩ := u
  have hZ : shOK sh LP Z := hOK _ _ hR
  have hP1 : va_P D vwCl (cW aC cs sh LP Z σ) H := hP1
  have hD1 : va_D (sA s) (cW aC cs sh LP Z σ) := hD1
  obtain ⟨F, r, hcx, hcm, hpost⟩ := hs (σ, sh, LP, Z) v (xs (x3 + (1 : Int32)).toNatClampNeg) hR
  refine lv_aload_n hx hb dL_law_524 rfl (lv_at hl 1 rfl) ?_
  refine lv_aload_n hx hb dL_law_525 rfl (lv_at hl 0 rfl) ?_
  refine lv_iload_n hx hb dL_law_526 rfl (lv_at hl 3 rfl) ?_
  refine lv_iconst (v := (1 : Int32)) hx hb dL_law_527 (by decide) ?_
  refine lv_iadd hx hb dL_law_528 ?_
  refine va_sld hx hb hX hbl hbA hS (lw_in ex3 hi hL (k := 1) (by decide) rfl) dL_law_529 ?_
  refine mcallS (va_runV (As := [.int (xs (x3 + (1 : Int32)).toNatClampNeg)]) (rest := []) ⟨hx, hb, hml, hown, hts⟩ (kX11_quarter l D cs aC sh LP Z hZ σ (xs (x3 + (1 : Int32)).toNatClampNeg) r hcx) (cwV 1 hts gL_law_X11_quarter rfl rfl rfl (by decide +kernel) ⟨Nat.le_of_ble_eq_true rfl, Nat.le_of_ble_eq_true rfl⟩) (pR_v hP1 hK (va_recv hK.1 hP1 (ci := 10) (q0 := 0) rfl rfl)) rfl rfl hl.1 rfl (lv_room (Nat.le_of_ble_eq_true rfl)) dL_law_530 ⟨by show 100 + i + 0 ≤ 600000; omega, by show 12000 + 3 * i + 0 ≤ room_1.slots; have := rs_ge; omega⟩) ?_
  refine lv_aload_n hx hb dL_law_533 rfl (lv_at hl 2 rfl) ?_
  refine lv_aload_n hx hb dL_law_534 rfl (lv_at hl 0 rfl) ?_
  refine lv_iload_n hx hb dL_law_535 rfl (lv_at hl 3 rfl) ?_
  refine lv_iconst (v := (1 : Int32)) hx hb dL_law_536 (by decide) ?_
  refine lv_iadd hx hb dL_law_537 ?_
  refine va_sld hx hb hX hbl hbA hS (lw_in ex3 hi hL (k := 1) (by decide) rfl) dL_law_538 ?_
  refine mcallS (va_runV (As := [.int (xs (x3 + (1 : Int32)).toNatClampNeg)]) (rest := [.int r]) ⟨hx, hb, hml, hown, hts⟩ (kX12_quarter l D cs aM v (xs (x3 + (1 : Int32)).toNatClampNeg) r hcm) (cwV 1 hts gL_law_X12_quarter rfl rfl rfl (by decide +kernel) ⟨Nat.le_of_ble_eq_true rfl, Nat.le_of_ble_eq_true rfl⟩) (pR_v hP2 hK (va_recv hK.1 hP2 (ci := 11) (q0 := 0) rfl rfl)) rfl rfl hl.1 rfl (lv_room (Nat.le_of_ble_eq_true rfl)) dL_law_539 ⟨by show 100 + i + 0 ≤ 600000; omega, by show 12000 + 3 * i + 0 ≤ room_1.slots; have := rs_ge; omega⟩) ?_
  refine lv_icmp_eq (tgt := 1371) hx hb dL_law_542 (by decide) (fun _ => ?_) (fun c9 => absurd rfl c9)
  refine W.widen (k := 100 + (i + 7)) (n := 12000 + 3 * (i + 7)) (by omega) (by omega) ?_
  exact kk _ _ _ _ _ hpost hP1 hD1 hP2 hD2 hdj hS hl
set_option maxHeartbeats 4000000 in
set_option maxRecDepth 100000 in
theorem law_cell {p : Program} {l : Launch} {e : Env} {s : State} {m : MethodId} {below : List Frame} {meth : Method} {c : Code} {b L : Nat} {xs : Nat → Int32} (hL : L ≤ 3584) (C0 : lw_At p s m meth c b L xs) {D : va_G} {cs : Nat → ClassId} (hK : KK D cs s) (hG : GT (sA s) s) {aC aM : Nat → Nat} {Rel : SS → (Nat → Nat → Int32) → Prop} (hOK : ∀ u v, Rel u v → shOK u.2.1 u.2.2.1 u.2.2.2) (hs : st_cell Rel) (i : Nat) (hi : i + 7 ≤ L) (x3 : Int32) (ex3 : x3 = nI i) (u : SS) (v : Nat → Nat → Int32) (hR : Rel u v) (H : Heap) (locs : List Loc) (ls : Array Slot) (hP1 : va_P D vwCl (cWs aC cs u) H) (hD1 : va_D (sA s) (cWs aC cs u)) (hP2 : va_P D vwCl (mW aM cs v) H) (hD2 : va_D (sA s) (mW aM cs v)) (hdj : dj (cWs aC cs u) (mW aM cs v)) (hS : va_S (sA s) s.heap H locs) (hl : lv_has ls 4 [(0, .ref b), (1, .ref (aC 0)), (2, .ref (aM 0)), (3, .int x3)]) (kk : ∀ (u : SS) (v : Nat → Nat → Int32) (H : Heap) (locs : List Loc) (ls : Array Slot), Rel u v → va_P D vwCl (cWs aC cs u) H → va_D (sA s) (cWs aC cs u) → va_P D vwCl (mW aM cs v) H → va_D (sA s) (mW aM cs v) → dj (cWs aC cs u) (mW aM cs v) → va_S (sA s) s.heap H locs → lv_has ls 4 [(0, .ref b), (1, .ref (aC 0)), (2, .ref (aM 0)), (3, .int x3)] → W p l e room_1 s m #[Value.ref b] below meth c H locs (100 + (i + 7)) (12000 + 3 * (i + 7)) (lw_Z below #[Value.ref b] s) (F0 m 1371 ls [])) : W p l e room_1 s m #[Value.ref b] below meth c H locs (100 + i) (12000 + 3 * i) (lw_Z below #[Value.ref b] s) (F0 m 547 ls []) := by
  obtain ⟨hx, hb, hr, hml, hown, hts0, hX, hbl, hlocks, hgv⟩ := id C0
  have hts : ∀ w ∈ wsL_law, w.before #[Value.ref b] s = true := fun w h => hts0 w (wsL_law_in w h)
  have hA : ∀ q : Nat, s.heap.size ≤ q → sA s q := fun _ h => h
  have hbA : ¬ sA s b := Nat.not_le.mpr hbl
  obtain ⟨σ, sh, LP, Z⟩ := u
  have hZ : shOK sh LP Z := hOK _ _ hR
  have hP1 : va_P D vwCl (cW aC cs sh LP Z σ) H := hP1
  have hD1 : va_D (sA s) (cW aC cs sh LP Z σ) := hD1
  obtain ⟨F, r, hcx, hcm, hpost⟩ := hs (σ, sh, LP, Z) v (xs (x3 + (1 : Int32)).toNatClampNeg) (xs (x3 + (2 : Int32)).toNatClampNeg) (xs (x3 + (3 : Int32)).toNatClampNeg) hR
  refine lv_aload_n hx hb dL_law_547 rfl (lv_at hl 1 rfl) ?_
  refine lv_aload_n hx hb dL_law_548 rfl (lv_at hl 0 rfl) ?_
  refine lv_iload_n hx hb dL_law_549 rfl (lv_at hl 3 rfl) ?_
  refine lv_iconst (v := (1 : Int32)) hx hb dL_law_550 (by decide) ?_
  refine lv_iadd hx hb dL_law_551 ?_
  refine va_sld hx hb hX hbl hbA hS (lw_in ex3 hi hL (k := 1) (by decide) rfl) dL_law_552 ?_
  refine lv_aload_n hx hb dL_law_553 rfl (lv_at hl 0 rfl) ?_
  refine lv_iload_n hx hb dL_law_554 rfl (lv_at hl 3 rfl) ?_
  refine lv_iconst (v := (2 : Int32)) hx hb dL_law_555 (by decide) ?_
  refine lv_iadd hx hb dL_law_556 ?_
  refine va_sld hx hb hX hbl hbA hS (lw_in ex3 hi hL (k := 2) (by decide) rfl) dL_law_557 ?_
  refine lv_aload_n hx hb dL_law_558 rfl (lv_at hl 0 rfl) ?_
  refine lv_iload_n hx hb dL_law_559 rfl (lv_at hl 3 rfl) ?_
  refine lv_iconst (v := (3 : Int32)) hx hb dL_law_560 (by decide) ?_
  refine lv_iadd hx hb dL_law_561 ?_
  refine va_sld hx hb hX hbl hbA hS (lw_in ex3 hi hL (k := 3) (by decide) rfl) dL_law_562 ?_
  refine mcallS (va_runV (As := [.int (xs (x3 + (1 : Int32)).toNatClampNeg), .int (xs (x3 + (2 : Int32)).toNatClampNeg), .int (xs (x3 + (3 : Int32)).toNatClampNeg)]) (rest := []) ⟨hx, hb, hml, hown, hts⟩ (kX11_cell l D cs aC sh LP Z hZ σ F (xs (x3 + (1 : Int32)).toNatClampNeg) (xs (x3 + (2 : Int32)).toNatClampNeg) (xs (x3 + (3 : Int32)).toNatClampNeg) r hcx) (cwV 3 hts gL_law_X11_cell rfl rfl rfl (by decide +kernel) ⟨Nat.le_of_ble_eq_true rfl, Nat.le_of_ble_eq_true rfl⟩) (pR_v hP1 hK (va_recv hK.1 hP1 (ci := 10) (q0 := 0) rfl rfl)) rfl rfl hl.1 rfl (lv_room (Nat.le_of_ble_eq_true rfl)) dL_law_563 ⟨by show 100 + i + 0 ≤ 600000; omega, by show 12000 + 3 * i + 0 ≤ room_1.slots; have := rs_ge; omega⟩) ?_
  refine lv_aload_n hx hb dL_law_566 rfl (lv_at hl 2 rfl) ?_
  refine lv_aload_n hx hb dL_law_567 rfl (lv_at hl 0 rfl) ?_
  refine lv_iload_n hx hb dL_law_568 rfl (lv_at hl 3 rfl) ?_
  refine lv_iconst (v := (1 : Int32)) hx hb dL_law_569 (by decide) ?_
  refine lv_iadd hx hb dL_law_570 ?_
  refine va_sld hx hb hX hbl hbA hS (lw_in ex3 hi hL (k := 1) (by decide) rfl) dL_law_571 ?_
  refine lv_aload_n hx hb dL_law_572 rfl (lv_at hl 0 rfl) ?_
  refine lv_iload_n hx hb dL_law_573 rfl (lv_at hl 3 rfl) ?_
  refine lv_iconst (v := (2 : Int32)) hx hb dL_law_574 (by decide) ?_
  refine lv_iadd hx hb dL_law_575 ?_
  refine va_sld hx hb hX hbl hbA hS (lw_in ex3 hi hL (k := 2) (by decide) rfl) dL_law_576 ?_
  refine lv_aload_n hx hb dL_law_577 rfl (lv_at hl 0 rfl) ?_
  refine lv_iload_n hx hb dL_law_578 rfl (lv_at hl 3 rfl) ?_
  refine lv_iconst (v := (3 : Int32)) hx hb dL_law_579 (by decide) ?_
  refine lv_iadd hx hb dL_law_580 ?_
  refine va_sld hx hb hX hbl hbA hS (lw_in ex3 hi hL (k := 3) (by decide) rfl) dL_law_581 ?_
  refine mcallS (va_runV (As := [.int (xs (x3 + (1 : Int32)).toNatClampNeg), .int (xs (x3 + (2 : Int32)).toNatClampNeg), .int (xs (x3 + (3 : Int32)).toNatClampNeg)]) (rest := [.int r]) ⟨hx, hb, hml, hown, hts⟩ (kX12_cell l D cs aM v F (xs (x3 + (1 : Int32)).toNatClampNeg) (xs (x3 + (2 : Int32)).toNatClampNeg) (xs (x3 + (3 : Int32)).toNatClampNeg) r hcm) (cwV 3 hts gL_law_X12_cell rfl rfl rfl (by decide +kernel) ⟨Nat.le_of_ble_eq_true rfl, Nat.le_of_ble_eq_true rfl⟩) (pR_v hP2 hK (va_recv hK.1 hP2 (ci := 11) (q0 := 0) rfl rfl)) rfl rfl hl.1 rfl (lv_room (Nat.le_of_ble_eq_true rfl)) dL_law_582 ⟨by show 100 + i + 0 ≤ 600000; omega, by show 12000 + 3 * i + 0 ≤ room_1.slots; have := rs_ge; omega⟩) ?_
  refine lv_icmp_eq (tgt := 1371) hx hb dL_law_585 (by decide) (fun _ => ?_) (fun c9 => absurd rfl c9)
  refine W.widen (k := 100 + (i + 7)) (n := 12000 + 3 * (i + 7)) (by omega) (by omega) ?_
  exact kk _ _ _ _ _ hpost hP1 hD1 hP2 hD2 hdj hS hl
set_option maxHeartbeats 4000000 in
set_option maxRecDepth 100000 in
theorem law_count {p : Program} {l : Launch} {e : Env} {s : State} {m : MethodId} {below : List Frame} {meth : Method} {c : Code} {b L : Nat} {xs : Nat → Int32} (hL : L ≤ 3584) (C0 : lw_At p s m meth c b L xs) {D : va_G} {cs : Nat → ClassId} (hK : KK D cs s) (hG : GT (sA s) s) {aC aM : Nat → Nat} {Rel : SS → (Nat → Nat → Int32) → Prop} (hOK : ∀ u v, Rel u v → shOK u.2.1 u.2.2.1 u.2.2.2) (hs : st_count Rel) (i : Nat) (hi : i + 7 ≤ L) (x3 : Int32) (ex3 : x3 = nI i) (u : SS) (v : Nat → Nat → Int32) (hR : Rel u v) (H : Heap) (locs : List Loc) (ls : Array Slot) (hP1 : va_P D vwCl (cWs aC cs u) H) (hD1 : va_D (sA s) (cWs aC cs u)) (hP2 : va_P D vwCl (mW aM cs v) H) (hD2 : va_D (sA s) (mW aM cs v)) (hdj : dj (cWs aC cs u) (mW aM cs v)) (hS : va_S (sA s) s.heap H locs) (hl : lv_has ls 4 [(0, .ref b), (1, .ref (aC 0)), (2, .ref (aM 0)), (3, .int x3)]) (kk : ∀ (u : SS) (v : Nat → Nat → Int32) (H : Heap) (locs : List Loc) (ls : Array Slot), Rel u v → va_P D vwCl (cWs aC cs u) H → va_D (sA s) (cWs aC cs u) → va_P D vwCl (mW aM cs v) H → va_D (sA s) (mW aM cs v) → dj (cWs aC cs u) (mW aM cs v) → va_S (sA s) s.heap H locs → lv_has ls 4 [(0, .ref b), (1, .ref (aC 0)), (2, .ref (aM 0)), (3, .int x3)] → W p l e room_1 s m #[Value.ref b] below meth c H locs (100 + (i + 7)) (12000 + 3 * (i + 7)) (lw_Z below #[Value.ref b] s) (F0 m 1371 ls [])) : W p l e room_1 s m #[Value.ref b] below meth c H locs (100 + i) (12000 + 3 * i) (lw_Z below #[Value.ref b] s) (F0 m 590 ls []) := by
  obtain ⟨hx, hb, hr, hml, hown, hts0, hX, hbl, hlocks, hgv⟩ := id C0
  have hts : ∀ w ∈ wsL_law, w.before #[Value.ref b] s = true := fun w h => hts0 w (wsL_law_in w h)
  have hA : ∀ q : Nat, s.heap.size ≤ q → sA s q := fun _ h => h
  have hbA : ¬ sA s b := Nat.not_le.mpr hbl
  obtain ⟨σ, sh, LP, Z⟩ := u
  have hZ : shOK sh LP Z := hOK _ _ hR
  have hP1 : va_P D vwCl (cW aC cs sh LP Z σ) H := hP1
  have hD1 : va_D (sA s) (cW aC cs sh LP Z σ) := hD1
  obtain ⟨F, r, hcx, hcm, hpost⟩ := hs (σ, sh, LP, Z) v (xs (x3 + (1 : Int32)).toNatClampNeg) hR
  refine lv_aload_n hx hb dL_law_590 rfl (lv_at hl 1 rfl) ?_
  refine lv_aload_n hx hb dL_law_591 rfl (lv_at hl 0 rfl) ?_
  refine lv_iload_n hx hb dL_law_592 rfl (lv_at hl 3 rfl) ?_
  refine lv_iconst (v := (1 : Int32)) hx hb dL_law_593 (by decide) ?_
  refine lv_iadd hx hb dL_law_594 ?_
  refine va_sld hx hb hX hbl hbA hS (lw_in ex3 hi hL (k := 1) (by decide) rfl) dL_law_595 ?_
  refine mcallS (va_runV (As := [.int (xs (x3 + (1 : Int32)).toNatClampNeg)]) (rest := []) ⟨hx, hb, hml, hown, hts⟩ (kX11_count l D cs aC sh LP Z hZ σ F (xs (x3 + (1 : Int32)).toNatClampNeg) r hcx) (cwV 1 hts gL_law_X11_count rfl rfl rfl (by decide +kernel) ⟨Nat.le_of_ble_eq_true rfl, Nat.le_of_ble_eq_true rfl⟩) (pR_v hP1 hK (va_recv hK.1 hP1 (ci := 10) (q0 := 0) rfl rfl)) rfl rfl hl.1 rfl (lv_room (Nat.le_of_ble_eq_true rfl)) dL_law_596 ⟨by show 100 + i + 0 ≤ 600000; omega, by show 12000 + 3 * i + 0 ≤ room_1.slots; have := rs_ge; omega⟩) ?_
  refine lv_aload_n hx hb dL_law_599 rfl (lv_at hl 2 rfl) ?_
  refine lv_aload_n hx hb dL_law_600 rfl (lv_at hl 0 rfl) ?_
  refine lv_iload_n hx hb dL_law_601 rfl (lv_at hl 3 rfl) ?_
  refine lv_iconst (v := (1 : Int32)) hx hb dL_law_602 (by decide) ?_
  refine lv_iadd hx hb dL_law_603 ?_
  refine va_sld hx hb hX hbl hbA hS (lw_in ex3 hi hL (k := 1) (by decide) rfl) dL_law_604 ?_
  refine mcallS (va_runV (As := [.int (xs (x3 + (1 : Int32)).toNatClampNeg)]) (rest := [.int r]) ⟨hx, hb, hml, hown, hts⟩ (kX12_count l D cs aM v F (xs (x3 + (1 : Int32)).toNatClampNeg) r hcm) (cwV 1 hts gL_law_X12_count rfl rfl rfl (by decide +kernel) ⟨Nat.le_of_ble_eq_true rfl, Nat.le_of_ble_eq_true rfl⟩) (pR_v hP2 hK (va_recv hK.1 hP2 (ci := 11) (q0 := 0) rfl rfl)) rfl rfl hl.1 rfl (lv_room (Nat.le_of_ble_eq_true rfl)) dL_law_605 ⟨by show 100 + i + 0 ≤ 600000; omega, by show 12000 + 3 * i + 0 ≤ room_1.slots; have := rs_ge; omega⟩) ?_
  refine lv_icmp_eq (tgt := 1371) hx hb dL_law_608 (by decide) (fun _ => ?_) (fun c9 => absurd rfl c9)
  refine W.widen (k := 100 + (i + 7)) (n := 12000 + 3 * (i + 7)) (by omega) (by omega) ?_
  exact kk _ _ _ _ _ hpost hP1 hD1 hP2 hD2 hdj hS hl
set_option maxHeartbeats 4000000 in
set_option maxRecDepth 100000 in
theorem law_unlike {p : Program} {l : Launch} {e : Env} {s : State} {m : MethodId} {below : List Frame} {meth : Method} {c : Code} {b L : Nat} {xs : Nat → Int32} (hL : L ≤ 3584) (C0 : lw_At p s m meth c b L xs) {D : va_G} {cs : Nat → ClassId} (hK : KK D cs s) (hG : GT (sA s) s) {aC aM : Nat → Nat} {Rel : SS → (Nat → Nat → Int32) → Prop} (hOK : ∀ u v, Rel u v → shOK u.2.1 u.2.2.1 u.2.2.2) (hs : st_unlike Rel) (i : Nat) (hi : i + 7 ≤ L) (x3 : Int32) (ex3 : x3 = nI i) (u : SS) (v : Nat → Nat → Int32) (hR : Rel u v) (H : Heap) (locs : List Loc) (ls : Array Slot) (hP1 : va_P D vwCl (cWs aC cs u) H) (hD1 : va_D (sA s) (cWs aC cs u)) (hP2 : va_P D vwCl (mW aM cs v) H) (hD2 : va_D (sA s) (mW aM cs v)) (hdj : dj (cWs aC cs u) (mW aM cs v)) (hS : va_S (sA s) s.heap H locs) (hl : lv_has ls 4 [(0, .ref b), (1, .ref (aC 0)), (2, .ref (aM 0)), (3, .int x3)]) (kk : ∀ (u : SS) (v : Nat → Nat → Int32) (H : Heap) (locs : List Loc) (ls : Array Slot), Rel u v → va_P D vwCl (cWs aC cs u) H → va_D (sA s) (cWs aC cs u) → va_P D vwCl (mW aM cs v) H → va_D (sA s) (mW aM cs v) → dj (cWs aC cs u) (mW aM cs v) → va_S (sA s) s.heap H locs → lv_has ls 4 [(0, .ref b), (1, .ref (aC 0)), (2, .ref (aM 0)), (3, .int x3)] → W p l e room_1 s m #[Value.ref b] below meth c H locs (100 + (i + 7)) (12000 + 3 * (i + 7)) (lw_Z below #[Value.ref b] s) (F0 m 1371 ls [])) : W p l e room_1 s m #[Value.ref b] below meth c H locs (100 + i) (12000 + 3 * i) (lw_Z below #[Value.ref b] s) (F0 m 613 ls []) := by
  obtain ⟨hx, hb, hr, hml, hown, hts0, hX, hbl, hlocks, hgv⟩ := id C0
  have hts : ∀ w ∈ wsL_law, w.before #[Value.ref b] s = true := fun w h => hts0 w (wsL_law_in w h)
  have hA : ∀ q : Nat, s.heap.size ≤ q → sA s q := fun _ h => h
  have hbA : ¬ sA s b := Nat.not_le.mpr hbl
  obtain ⟨σ, sh, LP, Z⟩ := u
  have hZ : shOK sh LP Z := hOK _ _ hR
  have hP1 : va_P D vwCl (cW aC cs sh LP Z σ) H := hP1
  have hD1 : va_D (sA s) (cW aC cs sh LP Z σ) := hD1
  obtain ⟨F, r, hcx, hcm, hpost⟩ := hs (σ, sh, LP, Z) v  hR
  refine lv_aload_n hx hb dL_law_613 rfl (lv_at hl 1 rfl) ?_
  refine mcallS (va_runV (As := []) (rest := []) ⟨hx, hb, hml, hown, hts⟩ (kX11_unlike l D cs aC sh LP Z hZ σ F  r hcx) (cwV 0 hts gL_law_X11_unlike rfl rfl rfl (by decide +kernel) ⟨Nat.le_of_ble_eq_true rfl, Nat.le_of_ble_eq_true rfl⟩) (pR_v hP1 hK (va_recv hK.1 hP1 (ci := 10) (q0 := 0) rfl rfl)) rfl rfl hl.1 rfl (lv_room (Nat.le_of_ble_eq_true rfl)) dL_law_614 ⟨by show 100 + i + 0 ≤ 600000; omega, by show 12000 + 3 * i + 0 ≤ room_1.slots; have := rs_ge; omega⟩) ?_
  refine lv_aload_n hx hb dL_law_617 rfl (lv_at hl 2 rfl) ?_
  refine mcallS (va_runV (As := []) (rest := [.int r]) ⟨hx, hb, hml, hown, hts⟩ (kX12_unlike l D cs aM v F  r hcm) (cwV 0 hts gL_law_X12_unlike rfl rfl rfl (by decide +kernel) ⟨Nat.le_of_ble_eq_true rfl, Nat.le_of_ble_eq_true rfl⟩) (pR_v hP2 hK (va_recv hK.1 hP2 (ci := 11) (q0 := 0) rfl rfl)) rfl rfl hl.1 rfl (lv_room (Nat.le_of_ble_eq_true rfl)) dL_law_618 ⟨by show 100 + i + 0 ≤ 600000; omega, by show 12000 + 3 * i + 0 ≤ room_1.slots; have := rs_ge; omega⟩) ?_
  refine lv_icmp_eq (tgt := 1371) hx hb dL_law_621 (by decide) (fun _ => ?_) (fun c9 => absurd rfl c9)
  refine W.widen (k := 100 + (i + 7)) (n := 12000 + 3 * (i + 7)) (by omega) (by omega) ?_
  exact kk _ _ _ _ _ hpost hP1 hD1 hP2 hD2 hdj hS hl
set_option maxHeartbeats 4000000 in
set_option maxRecDepth 100000 in
theorem law_hem {p : Program} {l : Launch} {e : Env} {s : State} {m : MethodId} {below : List Frame} {meth : Method} {c : Code} {b L : Nat} {xs : Nat → Int32} (hL : L ≤ 3584) (C0 : lw_At p s m meth c b L xs) {D : va_G} {cs : Nat → ClassId} (hK : KK D cs s) (hG : GT (sA s) s) {aC aM : Nat → Nat} {Rel : SS → (Nat → Nat → Int32) → Prop} (hOK : ∀ u v, Rel u v → shOK u.2.1 u.2.2.1 u.2.2.2) (hs : st_hem Rel) (i : Nat) (hi : i + 7 ≤ L) (x3 : Int32) (ex3 : x3 = nI i) (u : SS) (v : Nat → Nat → Int32) (hR : Rel u v) (H : Heap) (locs : List Loc) (ls : Array Slot) (hP1 : va_P D vwCl (cWs aC cs u) H) (hD1 : va_D (sA s) (cWs aC cs u)) (hP2 : va_P D vwCl (mW aM cs v) H) (hD2 : va_D (sA s) (mW aM cs v)) (hdj : dj (cWs aC cs u) (mW aM cs v)) (hS : va_S (sA s) s.heap H locs) (hl : lv_has ls 4 [(0, .ref b), (1, .ref (aC 0)), (2, .ref (aM 0)), (3, .int x3)]) (kk : ∀ (u : SS) (v : Nat → Nat → Int32) (H : Heap) (locs : List Loc) (ls : Array Slot), Rel u v → va_P D vwCl (cWs aC cs u) H → va_D (sA s) (cWs aC cs u) → va_P D vwCl (mW aM cs v) H → va_D (sA s) (mW aM cs v) → dj (cWs aC cs u) (mW aM cs v) → va_S (sA s) s.heap H locs → lv_has ls 4 [(0, .ref b), (1, .ref (aC 0)), (2, .ref (aM 0)), (3, .int x3)] → W p l e room_1 s m #[Value.ref b] below meth c H locs (100 + (i + 7)) (12000 + 3 * (i + 7)) (lw_Z below #[Value.ref b] s) (F0 m 1371 ls [])) : W p l e room_1 s m #[Value.ref b] below meth c H locs (100 + i) (12000 + 3 * i) (lw_Z below #[Value.ref b] s) (F0 m 626 ls []) := by
  obtain ⟨hx, hb, hr, hml, hown, hts0, hX, hbl, hlocks, hgv⟩ := id C0
  have hts : ∀ w ∈ wsL_law, w.before #[Value.ref b] s = true := fun w h => hts0 w (wsL_law_in w h)
  have hA : ∀ q : Nat, s.heap.size ≤ q → sA s q := fun _ h => h
  have hbA : ¬ sA s b := Nat.not_le.mpr hbl
  obtain ⟨σ, sh, LP, Z⟩ := u
  have hZ : shOK sh LP Z := hOK _ _ hR
  have hP1 : va_P D vwCl (cW aC cs sh LP Z σ) H := hP1
  have hD1 : va_D (sA s) (cW aC cs sh LP Z σ) := hD1
  by_cases cz : (xs (x3 + (3 : Int32)).toNatClampNeg) = 0
  · obtain ⟨F, r, σ2, v2, hcx, hcm, hpost⟩ := hs (σ, sh, LP, Z) v (xs (x3 + (1 : Int32)).toNatClampNeg) (xs (x3 + (2 : Int32)).toNatClampNeg) (0 : Int32) hR (Or.inl rfl)
    refine lv_aload_n hx hb dL_law_626 rfl (lv_at hl 1 rfl) ?_
    refine lv_aload_n hx hb dL_law_627 rfl (lv_at hl 0 rfl) ?_
    refine lv_iload_n hx hb dL_law_628 rfl (lv_at hl 3 rfl) ?_
    refine lv_iconst (v := (1 : Int32)) hx hb dL_law_629 (by decide) ?_
    refine lv_iadd hx hb dL_law_630 ?_
    refine va_sld hx hb hX hbl hbA hS (lw_in ex3 hi hL (k := 1) (by decide) rfl) dL_law_631 ?_
    refine lv_aload_n hx hb dL_law_632 rfl (lv_at hl 0 rfl) ?_
    refine lv_iload_n hx hb dL_law_633 rfl (lv_at hl 3 rfl) ?_
    refine lv_iconst (v := (2 : Int32)) hx hb dL_law_634 (by decide) ?_
    refine lv_iadd hx hb dL_law_635 ?_
    refine va_sld hx hb hX hbl hbA hS (lw_in ex3 hi hL (k := 2) (by decide) rfl) dL_law_636 ?_
    refine lv_aload_n hx hb dL_law_637 rfl (lv_at hl 0 rfl) ?_
    refine lv_iload_n hx hb dL_law_638 rfl (lv_at hl 3 rfl) ?_
    refine lv_iconst (v := (3 : Int32)) hx hb dL_law_639 (by decide) ?_
    refine lv_iadd hx hb dL_law_640 ?_
    refine va_sld hx hb hX hbl hbA hS (lw_in ex3 hi hL (k := 3) (by decide) rfl) dL_law_641 ?_
    refine lv_if_eq (tgt := 649) hx hb dL_law_642 (by decide) (fun c9 => ?_) (fun c9 => ?_)
    rotate_left
    · exact absurd cz c9
    refine lv_iconst (v := (0 : Int32)) hx hb dL_law_649 (by decide) ?_
    refine lcall (wf := (cW aC cs sh LP Z)) (wr := mW aM cs v) (va_runV (As := [.int (xs (x3 + (1 : Int32)).toNatClampNeg), .int (xs (x3 + (2 : Int32)).toNatClampNeg), .int (0 : Int32)]) (rest := []) ⟨hx, hb, hml, hown, hts⟩ (kX11_hem l D cs aC sh LP Z hZ σ (xs (x3 + (1 : Int32)).toNatClampNeg) (xs (x3 + (2 : Int32)).toNatClampNeg) (0 : Int32) r σ2 hcx _) (cwV 3 hts gL_law_X11_hem rfl rfl rfl (by decide +kernel) ⟨Nat.le_of_ble_eq_true rfl, Nat.le_of_ble_eq_true rfl⟩) (pQ_v hP1 hK hD1 (va_recv hK.1 hP1 (ci := 10) (q0 := 0) rfl rfl)) rfl rfl hl.1 rfl (lv_room (Nat.le_of_ble_eq_true rfl)) dL_law_650 ⟨by show 100 + i + 0 ≤ 600000; omega, by show 12000 + 3 * i + 0 ≤ room_1.slots; have := rs_ge; omega⟩) hD1 hP2 hdj hS hA (fun r9 u9 H locs hw hP1 hD1 hP2 hdj hS => ?_)
    obtain ⟨rfl, rfl⟩ := hw
    refine lv_aload_n hx hb dL_law_653 rfl (lv_at hl 2 rfl) ?_
    refine lv_aload_n hx hb dL_law_654 rfl (lv_at hl 0 rfl) ?_
    refine lv_iload_n hx hb dL_law_655 rfl (lv_at hl 3 rfl) ?_
    refine lv_iconst (v := (1 : Int32)) hx hb dL_law_656 (by decide) ?_
    refine lv_iadd hx hb dL_law_657 ?_
    refine va_sld hx hb hX hbl hbA hS (lw_in ex3 hi hL (k := 1) (by decide) rfl) dL_law_658 ?_
    refine lv_aload_n hx hb dL_law_659 rfl (lv_at hl 0 rfl) ?_
    refine lv_iload_n hx hb dL_law_660 rfl (lv_at hl 3 rfl) ?_
    refine lv_iconst (v := (2 : Int32)) hx hb dL_law_661 (by decide) ?_
    refine lv_iadd hx hb dL_law_662 ?_
    refine va_sld hx hb hX hbl hbA hS (lw_in ex3 hi hL (k := 2) (by decide) rfl) dL_law_663 ?_
    refine lv_aload_n hx hb dL_law_664 rfl (lv_at hl 0 rfl) ?_
    refine lv_iload_n hx hb dL_law_665 rfl (lv_at hl 3 rfl) ?_
    refine lv_iconst (v := (3 : Int32)) hx hb dL_law_666 (by decide) ?_
    refine lv_iadd hx hb dL_law_667 ?_
    refine va_sld hx hb hX hbl hbA hS (lw_in ex3 hi hL (k := 3) (by decide) rfl) dL_law_668 ?_
    refine lv_if_eq (tgt := 676) hx hb dL_law_669 (by decide) (fun c9 => ?_) (fun c9 => ?_)
    rotate_left
    · exact absurd cz c9
    refine lv_iconst (v := (0 : Int32)) hx hb dL_law_676 (by decide) ?_
    refine lcall (wf := (mW aM cs)) (wr := (cW aC cs sh LP Z u9)) (va_runV (As := [.int (xs (x3 + (1 : Int32)).toNatClampNeg), .int (xs (x3 + (2 : Int32)).toNatClampNeg), .int (0 : Int32)]) (rest := [.int r9]) ⟨hx, hb, hml, hown, hts⟩ (kX12_hem l D cs aM v (xs (x3 + (1 : Int32)).toNatClampNeg) (xs (x3 + (2 : Int32)).toNatClampNeg) (0 : Int32) r9 v2 hcm _) (cwV 3 hts gL_law_X12_hem rfl rfl rfl (by decide +kernel) ⟨Nat.le_of_ble_eq_true rfl, Nat.le_of_ble_eq_true rfl⟩) (pQ_v hP2 hK hD2 (va_recv hK.1 hP2 (ci := 11) (q0 := 0) rfl rfl)) rfl rfl hl.1 rfl (lv_room (Nat.le_of_ble_eq_true rfl)) dL_law_677 ⟨by show 100 + i + 0 + 0 ≤ 600000; omega, by show 12000 + 3 * i + 0 + 0 ≤ room_1.slots; have := rs_ge; omega⟩) hD2 hP1 hdj.symm hS hA (fun r8 v8 H locs hw hP2 hD2 hP1 hdj2 hS => ?_)
    obtain ⟨rfl, rfl⟩ := hw
    have hdj := hdj2.symm
    refine lv_icmp_eq (tgt := 1371) hx hb dL_law_680 (by decide) (fun _ => ?_) (fun c9 => absurd rfl c9)
    refine W.widen (k := 100 + (i + 7)) (n := 12000 + 3 * (i + 7)) (by omega) (by omega) ?_
    exact kk _ _ _ _ _ hpost hP1 hD1 hP2 hD2 hdj hS hl
  · obtain ⟨F, r, σ2, v2, hcx, hcm, hpost⟩ := hs (σ, sh, LP, Z) v (xs (x3 + (1 : Int32)).toNatClampNeg) (xs (x3 + (2 : Int32)).toNatClampNeg) (1 : Int32) hR (Or.inr rfl)
    refine lv_aload_n hx hb dL_law_626 rfl (lv_at hl 1 rfl) ?_
    refine lv_aload_n hx hb dL_law_627 rfl (lv_at hl 0 rfl) ?_
    refine lv_iload_n hx hb dL_law_628 rfl (lv_at hl 3 rfl) ?_
    refine lv_iconst (v := (1 : Int32)) hx hb dL_law_629 (by decide) ?_
    refine lv_iadd hx hb dL_law_630 ?_
    refine va_sld hx hb hX hbl hbA hS (lw_in ex3 hi hL (k := 1) (by decide) rfl) dL_law_631 ?_
    refine lv_aload_n hx hb dL_law_632 rfl (lv_at hl 0 rfl) ?_
    refine lv_iload_n hx hb dL_law_633 rfl (lv_at hl 3 rfl) ?_
    refine lv_iconst (v := (2 : Int32)) hx hb dL_law_634 (by decide) ?_
    refine lv_iadd hx hb dL_law_635 ?_
    refine va_sld hx hb hX hbl hbA hS (lw_in ex3 hi hL (k := 2) (by decide) rfl) dL_law_636 ?_
    refine lv_aload_n hx hb dL_law_637 rfl (lv_at hl 0 rfl) ?_
    refine lv_iload_n hx hb dL_law_638 rfl (lv_at hl 3 rfl) ?_
    refine lv_iconst (v := (3 : Int32)) hx hb dL_law_639 (by decide) ?_
    refine lv_iadd hx hb dL_law_640 ?_
    refine va_sld hx hb hX hbl hbA hS (lw_in ex3 hi hL (k := 3) (by decide) rfl) dL_law_641 ?_
    refine lv_if_eq (tgt := 649) hx hb dL_law_642 (by decide) (fun c9 => ?_) (fun c9 => ?_)
    · exact absurd c9 cz
    refine lv_iconst (v := (1 : Int32)) hx hb dL_law_645 (by decide) ?_
    refine lv_goto (tgt := 650) hx hb dL_law_646 (by decide) ?_
    refine lcall (wf := (cW aC cs sh LP Z)) (wr := mW aM cs v) (va_runV (As := [.int (xs (x3 + (1 : Int32)).toNatClampNeg), .int (xs (x3 + (2 : Int32)).toNatClampNeg), .int (1 : Int32)]) (rest := []) ⟨hx, hb, hml, hown, hts⟩ (kX11_hem l D cs aC sh LP Z hZ σ (xs (x3 + (1 : Int32)).toNatClampNeg) (xs (x3 + (2 : Int32)).toNatClampNeg) (1 : Int32) r σ2 hcx _) (cwV 3 hts gL_law_X11_hem rfl rfl rfl (by decide +kernel) ⟨Nat.le_of_ble_eq_true rfl, Nat.le_of_ble_eq_true rfl⟩) (pQ_v hP1 hK hD1 (va_recv hK.1 hP1 (ci := 10) (q0 := 0) rfl rfl)) rfl rfl hl.1 rfl (lv_room (Nat.le_of_ble_eq_true rfl)) dL_law_650 ⟨by show 100 + i + 0 ≤ 600000; omega, by show 12000 + 3 * i + 0 ≤ room_1.slots; have := rs_ge; omega⟩) hD1 hP2 hdj hS hA (fun r9 u9 H locs hw hP1 hD1 hP2 hdj hS => ?_)
    obtain ⟨rfl, rfl⟩ := hw
    refine lv_aload_n hx hb dL_law_653 rfl (lv_at hl 2 rfl) ?_
    refine lv_aload_n hx hb dL_law_654 rfl (lv_at hl 0 rfl) ?_
    refine lv_iload_n hx hb dL_law_655 rfl (lv_at hl 3 rfl) ?_
    refine lv_iconst (v := (1 : Int32)) hx hb dL_law_656 (by decide) ?_
    refine lv_iadd hx hb dL_law_657 ?_
    refine va_sld hx hb hX hbl hbA hS (lw_in ex3 hi hL (k := 1) (by decide) rfl) dL_law_658 ?_
    refine lv_aload_n hx hb dL_law_659 rfl (lv_at hl 0 rfl) ?_
    refine lv_iload_n hx hb dL_law_660 rfl (lv_at hl 3 rfl) ?_
    refine lv_iconst (v := (2 : Int32)) hx hb dL_law_661 (by decide) ?_
    refine lv_iadd hx hb dL_law_662 ?_
    refine va_sld hx hb hX hbl hbA hS (lw_in ex3 hi hL (k := 2) (by decide) rfl) dL_law_663 ?_
    refine lv_aload_n hx hb dL_law_664 rfl (lv_at hl 0 rfl) ?_
    refine lv_iload_n hx hb dL_law_665 rfl (lv_at hl 3 rfl) ?_
    refine lv_iconst (v := (3 : Int32)) hx hb dL_law_666 (by decide) ?_
    refine lv_iadd hx hb dL_law_667 ?_
    refine va_sld hx hb hX hbl hbA hS (lw_in ex3 hi hL (k := 3) (by decide) rfl) dL_law_668 ?_
    refine lv_if_eq (tgt := 676) hx hb dL_law_669 (by decide) (fun c9 => ?_) (fun c9 => ?_)
    · exact absurd c9 cz
    refine lv_iconst (v := (1 : Int32)) hx hb dL_law_672 (by decide) ?_
    refine lv_goto (tgt := 677) hx hb dL_law_673 (by decide) ?_
    refine lcall (wf := (mW aM cs)) (wr := (cW aC cs sh LP Z u9)) (va_runV (As := [.int (xs (x3 + (1 : Int32)).toNatClampNeg), .int (xs (x3 + (2 : Int32)).toNatClampNeg), .int (1 : Int32)]) (rest := [.int r9]) ⟨hx, hb, hml, hown, hts⟩ (kX12_hem l D cs aM v (xs (x3 + (1 : Int32)).toNatClampNeg) (xs (x3 + (2 : Int32)).toNatClampNeg) (1 : Int32) r9 v2 hcm _) (cwV 3 hts gL_law_X12_hem rfl rfl rfl (by decide +kernel) ⟨Nat.le_of_ble_eq_true rfl, Nat.le_of_ble_eq_true rfl⟩) (pQ_v hP2 hK hD2 (va_recv hK.1 hP2 (ci := 11) (q0 := 0) rfl rfl)) rfl rfl hl.1 rfl (lv_room (Nat.le_of_ble_eq_true rfl)) dL_law_677 ⟨by show 100 + i + 0 + 0 ≤ 600000; omega, by show 12000 + 3 * i + 0 + 0 ≤ room_1.slots; have := rs_ge; omega⟩) hD2 hP1 hdj.symm hS hA (fun r8 v8 H locs hw hP2 hD2 hP1 hdj2 hS => ?_)
    obtain ⟨rfl, rfl⟩ := hw
    have hdj := hdj2.symm
    refine lv_icmp_eq (tgt := 1371) hx hb dL_law_680 (by decide) (fun _ => ?_) (fun c9 => absurd rfl c9)
    refine W.widen (k := 100 + (i + 7)) (n := 12000 + 3 * (i + 7)) (by omega) (by omega) ?_
    exact kk _ _ _ _ _ hpost hP1 hD1 hP2 hD2 hdj hS hl
set_option maxHeartbeats 4000000 in
set_option maxRecDepth 100000 in
theorem law_after {p : Program} {l : Launch} {e : Env} {s : State} {m : MethodId} {below : List Frame} {meth : Method} {c : Code} {b L : Nat} {xs : Nat → Int32} (hL : L ≤ 3584) (C0 : lw_At p s m meth c b L xs) {D : va_G} {cs : Nat → ClassId} (hK : KK D cs s) (hG : GT (sA s) s) {aC aM : Nat → Nat} {Rel : SS → (Nat → Nat → Int32) → Prop} (hOK : ∀ u v, Rel u v → shOK u.2.1 u.2.2.1 u.2.2.2) (hs : st_after Rel) (i : Nat) (hi : i + 7 ≤ L) (x3 : Int32) (ex3 : x3 = nI i) (u : SS) (v : Nat → Nat → Int32) (hR : Rel u v) (H : Heap) (locs : List Loc) (ls : Array Slot) (hP1 : va_P D vwCl (cWs aC cs u) H) (hD1 : va_D (sA s) (cWs aC cs u)) (hP2 : va_P D vwCl (mW aM cs v) H) (hD2 : va_D (sA s) (mW aM cs v)) (hdj : dj (cWs aC cs u) (mW aM cs v)) (hS : va_S (sA s) s.heap H locs) (hl : lv_has ls 4 [(0, .ref b), (1, .ref (aC 0)), (2, .ref (aM 0)), (3, .int x3)]) (kk : ∀ (u : SS) (v : Nat → Nat → Int32) (H : Heap) (locs : List Loc) (ls : Array Slot), Rel u v → va_P D vwCl (cWs aC cs u) H → va_D (sA s) (cWs aC cs u) → va_P D vwCl (mW aM cs v) H → va_D (sA s) (mW aM cs v) → dj (cWs aC cs u) (mW aM cs v) → va_S (sA s) s.heap H locs → lv_has ls 4 [(0, .ref b), (1, .ref (aC 0)), (2, .ref (aM 0)), (3, .int x3)] → W p l e room_1 s m #[Value.ref b] below meth c H locs (100 + (i + 7)) (12000 + 3 * (i + 7)) (lw_Z below #[Value.ref b] s) (F0 m 1371 ls [])) : W p l e room_1 s m #[Value.ref b] below meth c H locs (100 + i) (12000 + 3 * i) (lw_Z below #[Value.ref b] s) (F0 m 685 ls []) := by
  obtain ⟨hx, hb, hr, hml, hown, hts0, hX, hbl, hlocks, hgv⟩ := id C0
  have hts : ∀ w ∈ wsL_law, w.before #[Value.ref b] s = true := fun w h => hts0 w (wsL_law_in w h)
  have hA : ∀ q : Nat, s.heap.size ≤ q → sA s q := fun _ h => h
  have hbA : ¬ sA s b := Nat.not_le.mpr hbl
  obtain ⟨σ, sh, LP, Z⟩ := u
  have hZ : shOK sh LP Z := hOK _ _ hR
  have hP1 : va_P D vwCl (cW aC cs sh LP Z σ) H := hP1
  have hD1 : va_D (sA s) (cW aC cs sh LP Z σ) := hD1
  obtain ⟨F, r, hcx, hcm, hpost⟩ := hs (σ, sh, LP, Z) v (xs (x3 + (1 : Int32)).toNatClampNeg) (xs (x3 + (2 : Int32)).toNatClampNeg) hR
  refine lv_aload_n hx hb dL_law_685 rfl (lv_at hl 1 rfl) ?_
  refine lv_aload_n hx hb dL_law_686 rfl (lv_at hl 0 rfl) ?_
  refine lv_iload_n hx hb dL_law_687 rfl (lv_at hl 3 rfl) ?_
  refine lv_iconst (v := (1 : Int32)) hx hb dL_law_688 (by decide) ?_
  refine lv_iadd hx hb dL_law_689 ?_
  refine va_sld hx hb hX hbl hbA hS (lw_in ex3 hi hL (k := 1) (by decide) rfl) dL_law_690 ?_
  refine lv_aload_n hx hb dL_law_691 rfl (lv_at hl 0 rfl) ?_
  refine lv_iload_n hx hb dL_law_692 rfl (lv_at hl 3 rfl) ?_
  refine lv_iconst (v := (2 : Int32)) hx hb dL_law_693 (by decide) ?_
  refine lv_iadd hx hb dL_law_694 ?_
  refine va_sld hx hb hX hbl hbA hS (lw_in ex3 hi hL (k := 2) (by decide) rfl) dL_law_695 ?_
  refine mcallS (va_runV (As := [.int (xs (x3 + (1 : Int32)).toNatClampNeg), .int (xs (x3 + (2 : Int32)).toNatClampNeg)]) (rest := []) ⟨hx, hb, hml, hown, hts⟩ (kX11_after l D cs aC sh LP Z hZ σ F (xs (x3 + (1 : Int32)).toNatClampNeg) (xs (x3 + (2 : Int32)).toNatClampNeg) r hcx) (cwV 2 hts gL_law_X11_after rfl rfl rfl (by decide +kernel) ⟨Nat.le_of_ble_eq_true rfl, Nat.le_of_ble_eq_true rfl⟩) (pR_v hP1 hK (va_recv hK.1 hP1 (ci := 10) (q0 := 0) rfl rfl)) rfl rfl hl.1 rfl (lv_room (Nat.le_of_ble_eq_true rfl)) dL_law_696 ⟨by show 100 + i + 0 ≤ 600000; omega, by show 12000 + 3 * i + 0 ≤ room_1.slots; have := rs_ge; omega⟩) ?_
  refine lv_aload_n hx hb dL_law_699 rfl (lv_at hl 2 rfl) ?_
  refine lv_aload_n hx hb dL_law_700 rfl (lv_at hl 0 rfl) ?_
  refine lv_iload_n hx hb dL_law_701 rfl (lv_at hl 3 rfl) ?_
  refine lv_iconst (v := (1 : Int32)) hx hb dL_law_702 (by decide) ?_
  refine lv_iadd hx hb dL_law_703 ?_
  refine va_sld hx hb hX hbl hbA hS (lw_in ex3 hi hL (k := 1) (by decide) rfl) dL_law_704 ?_
  refine lv_aload_n hx hb dL_law_705 rfl (lv_at hl 0 rfl) ?_
  refine lv_iload_n hx hb dL_law_706 rfl (lv_at hl 3 rfl) ?_
  refine lv_iconst (v := (2 : Int32)) hx hb dL_law_707 (by decide) ?_
  refine lv_iadd hx hb dL_law_708 ?_
  refine va_sld hx hb hX hbl hbA hS (lw_in ex3 hi hL (k := 2) (by decide) rfl) dL_law_709 ?_
  refine mcallS (va_runV (As := [.int (xs (x3 + (1 : Int32)).toNatClampNeg), .int (xs (x3 + (2 : Int32)).toNatClampNeg)]) (rest := [.int r]) ⟨hx, hb, hml, hown, hts⟩ (kX12_after l D cs aM v F (xs (x3 + (1 : Int32)).toNatClampNeg) (xs (x3 + (2 : Int32)).toNatClampNeg) r hcm) (cwV 2 hts gL_law_X12_after rfl rfl rfl (by decide +kernel) ⟨Nat.le_of_ble_eq_true rfl, Nat.le_of_ble_eq_true rfl⟩) (pR_v hP2 hK (va_recv hK.1 hP2 (ci := 11) (q0 := 0) rfl rfl)) rfl rfl hl.1 rfl (lv_room (Nat.le_of_ble_eq_true rfl)) dL_law_710 ⟨by show 100 + i + 0 ≤ 600000; omega, by show 12000 + 3 * i + 0 ≤ room_1.slots; have := rs_ge; omega⟩) ?_
  refine lv_icmp_eq (tgt := 1371) hx hb dL_law_713 (by decide) (fun _ => ?_) (fun c9 => absurd rfl c9)
  refine W.widen (k := 100 + (i + 7)) (n := 12000 + 3 * (i + 7)) (by omega) (by omega) ?_
  exact kk _ _ _ _ _ hpost hP1 hD1 hP2 hD2 hdj hS hl
set_option maxHeartbeats 4000000 in
set_option maxRecDepth 100000 in
theorem law_sand {p : Program} {l : Launch} {e : Env} {s : State} {m : MethodId} {below : List Frame} {meth : Method} {c : Code} {b L : Nat} {xs : Nat → Int32} (hL : L ≤ 3584) (C0 : lw_At p s m meth c b L xs) {D : va_G} {cs : Nat → ClassId} (hK : KK D cs s) (hG : GT (sA s) s) {aC aM : Nat → Nat} {Rel : SS → (Nat → Nat → Int32) → Prop} (hOK : ∀ u v, Rel u v → shOK u.2.1 u.2.2.1 u.2.2.2) (hs : st_sand Rel) (i : Nat) (hi : i + 7 ≤ L) (x3 : Int32) (ex3 : x3 = nI i) (u : SS) (v : Nat → Nat → Int32) (hR : Rel u v) (H : Heap) (locs : List Loc) (ls : Array Slot) (hP1 : va_P D vwCl (cWs aC cs u) H) (hD1 : va_D (sA s) (cWs aC cs u)) (hP2 : va_P D vwCl (mW aM cs v) H) (hD2 : va_D (sA s) (mW aM cs v)) (hdj : dj (cWs aC cs u) (mW aM cs v)) (hS : va_S (sA s) s.heap H locs) (hl : lv_has ls 4 [(0, .ref b), (1, .ref (aC 0)), (2, .ref (aM 0)), (3, .int x3)]) (kk : ∀ (u : SS) (v : Nat → Nat → Int32) (H : Heap) (locs : List Loc) (ls : Array Slot), Rel u v → va_P D vwCl (cWs aC cs u) H → va_D (sA s) (cWs aC cs u) → va_P D vwCl (mW aM cs v) H → va_D (sA s) (mW aM cs v) → dj (cWs aC cs u) (mW aM cs v) → va_S (sA s) s.heap H locs → lv_has ls 4 [(0, .ref b), (1, .ref (aC 0)), (2, .ref (aM 0)), (3, .int x3)] → W p l e room_1 s m #[Value.ref b] below meth c H locs (100 + (i + 7)) (12000 + 3 * (i + 7)) (lw_Z below #[Value.ref b] s) (F0 m 1371 ls [])) : W p l e room_1 s m #[Value.ref b] below meth c H locs (100 + i) (12000 + 3 * i) (lw_Z below #[Value.ref b] s) (F0 m 718 ls []) := by
  obtain ⟨hx, hb, hr, hml, hown, hts0, hX, hbl, hlocks, hgv⟩ := id C0
  have hts : ∀ w ∈ wsL_law, w.before #[Value.ref b] s = true := fun w h => hts0 w (wsL_law_in w h)
  have hA : ∀ q : Nat, s.heap.size ≤ q → sA s q := fun _ h => h
  have hbA : ¬ sA s b := Nat.not_le.mpr hbl
  obtain ⟨σ, sh, LP, Z⟩ := u
  have hZ : shOK sh LP Z := hOK _ _ hR
  have hP1 : va_P D vwCl (cW aC cs sh LP Z σ) H := hP1
  have hD1 : va_D (sA s) (cW aC cs sh LP Z σ) := hD1
  obtain ⟨F, r, σ2, v2, hcx, hcm, hpost⟩ := hs (σ, sh, LP, Z) v (xs (x3 + (1 : Int32)).toNatClampNeg) hR
  refine lv_aload_n hx hb dL_law_718 rfl (lv_at hl 1 rfl) ?_
  refine lv_aload_n hx hb dL_law_719 rfl (lv_at hl 0 rfl) ?_
  refine lv_iload_n hx hb dL_law_720 rfl (lv_at hl 3 rfl) ?_
  refine lv_iconst (v := (1 : Int32)) hx hb dL_law_721 (by decide) ?_
  refine lv_iadd hx hb dL_law_722 ?_
  refine va_sld hx hb hX hbl hbA hS (lw_in ex3 hi hL (k := 1) (by decide) rfl) dL_law_723 ?_
  refine lcall (wf := (cW aC cs sh LP Z)) (wr := mW aM cs v) (va_runV (As := [.int (xs (x3 + (1 : Int32)).toNatClampNeg)]) (rest := []) ⟨hx, hb, hml, hown, hts⟩ (kX11_sand l D cs aC sh LP Z hZ σ (xs (x3 + (1 : Int32)).toNatClampNeg) r σ2 hcx _) (cwV 1 hts gL_law_X11_sand rfl rfl rfl (by decide +kernel) ⟨Nat.le_of_ble_eq_true rfl, Nat.le_of_ble_eq_true rfl⟩) (pQ_v hP1 hK hD1 (va_recv hK.1 hP1 (ci := 10) (q0 := 0) rfl rfl)) rfl rfl hl.1 rfl (lv_room (Nat.le_of_ble_eq_true rfl)) dL_law_724 ⟨by show 100 + i + 0 ≤ 600000; omega, by show 12000 + 3 * i + 0 ≤ room_1.slots; have := rs_ge; omega⟩) hD1 hP2 hdj hS hA (fun r9 u9 H locs hw hP1 hD1 hP2 hdj hS => ?_)
  obtain ⟨rfl, rfl⟩ := hw
  refine lv_aload_n hx hb dL_law_727 rfl (lv_at hl 2 rfl) ?_
  refine lv_aload_n hx hb dL_law_728 rfl (lv_at hl 0 rfl) ?_
  refine lv_iload_n hx hb dL_law_729 rfl (lv_at hl 3 rfl) ?_
  refine lv_iconst (v := (1 : Int32)) hx hb dL_law_730 (by decide) ?_
  refine lv_iadd hx hb dL_law_731 ?_
  refine va_sld hx hb hX hbl hbA hS (lw_in ex3 hi hL (k := 1) (by decide) rfl) dL_law_732 ?_
  refine lcall (wf := (mW aM cs)) (wr := (cW aC cs sh LP Z u9)) (va_runV (As := [.int (xs (x3 + (1 : Int32)).toNatClampNeg)]) (rest := [.int r9]) ⟨hx, hb, hml, hown, hts⟩ (kX12_sand l D cs aM v (xs (x3 + (1 : Int32)).toNatClampNeg) r9 v2 hcm _) (cwV 1 hts gL_law_X12_sand rfl rfl rfl (by decide +kernel) ⟨Nat.le_of_ble_eq_true rfl, Nat.le_of_ble_eq_true rfl⟩) (pQ_v hP2 hK hD2 (va_recv hK.1 hP2 (ci := 11) (q0 := 0) rfl rfl)) rfl rfl hl.1 rfl (lv_room (Nat.le_of_ble_eq_true rfl)) dL_law_733 ⟨by show 100 + i + 0 + 0 ≤ 600000; omega, by show 12000 + 3 * i + 0 + 0 ≤ room_1.slots; have := rs_ge; omega⟩) hD2 hP1 hdj.symm hS hA (fun r8 v8 H locs hw hP2 hD2 hP1 hdj2 hS => ?_)
  obtain ⟨rfl, rfl⟩ := hw
  have hdj := hdj2.symm
  refine lv_icmp_eq (tgt := 1371) hx hb dL_law_736 (by decide) (fun _ => ?_) (fun c9 => absurd rfl c9)
  refine W.widen (k := 100 + (i + 7)) (n := 12000 + 3 * (i + 7)) (by omega) (by omega) ?_
  exact kk _ _ _ _ _ hpost hP1 hD1 hP2 hD2 hdj hS hl
set_option maxHeartbeats 4000000 in
set_option maxRecDepth 100000 in
theorem law_days {p : Program} {l : Launch} {e : Env} {s : State} {m : MethodId} {below : List Frame} {meth : Method} {c : Code} {b L : Nat} {xs : Nat → Int32} (hL : L ≤ 3584) (C0 : lw_At p s m meth c b L xs) {D : va_G} {cs : Nat → ClassId} (hK : KK D cs s) (hG : GT (sA s) s) {aC aM : Nat → Nat} {Rel : SS → (Nat → Nat → Int32) → Prop} (hOK : ∀ u v, Rel u v → shOK u.2.1 u.2.2.1 u.2.2.2) (hs : st_days Rel) (i : Nat) (hi : i + 7 ≤ L) (x3 : Int32) (ex3 : x3 = nI i) (u : SS) (v : Nat → Nat → Int32) (hR : Rel u v) (H : Heap) (locs : List Loc) (ls : Array Slot) (hP1 : va_P D vwCl (cWs aC cs u) H) (hD1 : va_D (sA s) (cWs aC cs u)) (hP2 : va_P D vwCl (mW aM cs v) H) (hD2 : va_D (sA s) (mW aM cs v)) (hdj : dj (cWs aC cs u) (mW aM cs v)) (hS : va_S (sA s) s.heap H locs) (hl : lv_has ls 4 [(0, .ref b), (1, .ref (aC 0)), (2, .ref (aM 0)), (3, .int x3)]) (kk : ∀ (u : SS) (v : Nat → Nat → Int32) (H : Heap) (locs : List Loc) (ls : Array Slot), Rel u v → va_P D vwCl (cWs aC cs u) H → va_D (sA s) (cWs aC cs u) → va_P D vwCl (mW aM cs v) H → va_D (sA s) (mW aM cs v) → dj (cWs aC cs u) (mW aM cs v) → va_S (sA s) s.heap H locs → lv_has ls 4 [(0, .ref b), (1, .ref (aC 0)), (2, .ref (aM 0)), (3, .int x3)] → W p l e room_1 s m #[Value.ref b] below meth c H locs (100 + (i + 7)) (12000 + 3 * (i + 7)) (lw_Z below #[Value.ref b] s) (F0 m 1371 ls [])) : W p l e room_1 s m #[Value.ref b] below meth c H locs (100 + i) (12000 + 3 * i) (lw_Z below #[Value.ref b] s) (F0 m 741 ls []) := by
  obtain ⟨hx, hb, hr, hml, hown, hts0, hX, hbl, hlocks, hgv⟩ := id C0
  have hts : ∀ w ∈ wsL_law, w.before #[Value.ref b] s = true := fun w h => hts0 w (wsL_law_in w h)
  have hA : ∀ q : Nat, s.heap.size ≤ q → sA s q := fun _ h => h
  have hbA : ¬ sA s b := Nat.not_le.mpr hbl
  obtain ⟨σ, sh, LP, Z⟩ := u
  have hZ : shOK sh LP Z := hOK _ _ hR
  have hP1 : va_P D vwCl (cW aC cs sh LP Z σ) H := hP1
  have hD1 : va_D (sA s) (cW aC cs sh LP Z σ) := hD1
  obtain ⟨F, r, σ2, v2, hcx, hcm, hpost⟩ := hs (σ, sh, LP, Z) v  hR
  refine lv_aload_n hx hb dL_law_741 rfl (lv_at hl 1 rfl) ?_
  refine lcall (wf := (cW aC cs sh LP Z)) (wr := mW aM cs v) (va_runV (As := []) (rest := []) ⟨hx, hb, hml, hown, hts⟩ (kX11_days l D cs aC sh LP Z hZ σ F  r σ2 hcx _) (cwV 0 hts gL_law_X11_days rfl rfl rfl (by decide +kernel) ⟨Nat.le_of_ble_eq_true rfl, Nat.le_of_ble_eq_true rfl⟩) (pQ_v hP1 hK hD1 (va_recv hK.1 hP1 (ci := 10) (q0 := 0) rfl rfl)) rfl rfl hl.1 rfl (lv_room (Nat.le_of_ble_eq_true rfl)) dL_law_742 ⟨by show 100 + i + 0 ≤ 600000; omega, by show 12000 + 3 * i + 0 ≤ room_1.slots; have := rs_ge; omega⟩) hD1 hP2 hdj hS hA (fun r9 u9 H locs hw hP1 hD1 hP2 hdj hS => ?_)
  obtain ⟨rfl, rfl⟩ := hw
  refine lv_aload_n hx hb dL_law_745 rfl (lv_at hl 2 rfl) ?_
  refine lcall (wf := (mW aM cs)) (wr := (cW aC cs sh LP Z u9)) (va_runV (As := []) (rest := [.int r9]) ⟨hx, hb, hml, hown, hts⟩ (kX12_days l D cs aM v F  r9 v2 hcm _) (cwV 0 hts gL_law_X12_days rfl rfl rfl (by decide +kernel) ⟨Nat.le_of_ble_eq_true rfl, Nat.le_of_ble_eq_true rfl⟩) (pQ_v hP2 hK hD2 (va_recv hK.1 hP2 (ci := 11) (q0 := 0) rfl rfl)) rfl rfl hl.1 rfl (lv_room (Nat.le_of_ble_eq_true rfl)) dL_law_746 ⟨by show 100 + i + 0 + 0 ≤ 600000; omega, by show 12000 + 3 * i + 0 + 0 ≤ room_1.slots; have := rs_ge; omega⟩) hD2 hP1 hdj.symm hS hA (fun r8 v8 H locs hw hP2 hD2 hP1 hdj2 hS => ?_)
  obtain ⟨rfl, rfl⟩ := hw
  have hdj := hdj2.symm
  refine lv_icmp_eq (tgt := 1371) hx hb dL_law_749 (by decide) (fun _ => ?_) (fun c9 => absurd rfl c9)
  refine W.widen (k := 100 + (i + 7)) (n := 12000 + 3 * (i + 7)) (by omega) (by omega) ?_
  exact kk _ _ _ _ _ hpost hP1 hD1 hP2 hD2 hdj hS hl
set_option maxHeartbeats 4000000 in
set_option maxRecDepth 100000 in
theorem law_day {p : Program} {l : Launch} {e : Env} {s : State} {m : MethodId} {below : List Frame} {meth : Method} {c : Code} {b L : Nat} {xs : Nat → Int32} (hL : L ≤ 3584) (C0 : lw_At p s m meth c b L xs) {D : va_G} {cs : Nat → ClassId} (hK : KK D cs s) (hG : GT (sA s) s) {aC aM : Nat → Nat} {Rel : SS → (Nat → Nat → Int32) → Prop} (hOK : ∀ u v, Rel u v → shOK u.2.1 u.2.2.1 u.2.2.2) (hs : st_day Rel) (i : Nat) (hi : i + 7 ≤ L) (x3 : Int32) (ex3 : x3 = nI i) (u : SS) (v : Nat → Nat → Int32) (hR : Rel u v) (H : Heap) (locs : List Loc) (ls : Array Slot) (hP1 : va_P D vwCl (cWs aC cs u) H) (hD1 : va_D (sA s) (cWs aC cs u)) (hP2 : va_P D vwCl (mW aM cs v) H) (hD2 : va_D (sA s) (mW aM cs v)) (hdj : dj (cWs aC cs u) (mW aM cs v)) (hS : va_S (sA s) s.heap H locs) (hl : lv_has ls 4 [(0, .ref b), (1, .ref (aC 0)), (2, .ref (aM 0)), (3, .int x3)]) (kk : ∀ (u : SS) (v : Nat → Nat → Int32) (H : Heap) (locs : List Loc) (ls : Array Slot), Rel u v → va_P D vwCl (cWs aC cs u) H → va_D (sA s) (cWs aC cs u) → va_P D vwCl (mW aM cs v) H → va_D (sA s) (mW aM cs v) → dj (cWs aC cs u) (mW aM cs v) → va_S (sA s) s.heap H locs → lv_has ls 4 [(0, .ref b), (1, .ref (aC 0)), (2, .ref (aM 0)), (3, .int x3)] → W p l e room_1 s m #[Value.ref b] below meth c H locs (100 + (i + 7)) (12000 + 3 * (i + 7)) (lw_Z below #[Value.ref b] s) (F0 m 1371 ls [])) : W p l e room_1 s m #[Value.ref b] below meth c H locs (100 + i) (12000 + 3 * i) (lw_Z below #[Value.ref b] s) (F0 m 754 ls []) := by
  obtain ⟨hx, hb, hr, hml, hown, hts0, hX, hbl, hlocks, hgv⟩ := id C0
  have hts : ∀ w ∈ wsL_law, w.before #[Value.ref b] s = true := fun w h => hts0 w (wsL_law_in w h)
  have hA : ∀ q : Nat, s.heap.size ≤ q → sA s q := fun _ h => h
  have hbA : ¬ sA s b := Nat.not_le.mpr hbl
  obtain ⟨σ, sh, LP, Z⟩ := u
  have hZ : shOK sh LP Z := hOK _ _ hR
  have hP1 : va_P D vwCl (cW aC cs sh LP Z σ) H := hP1
  have hD1 : va_D (sA s) (cW aC cs sh LP Z σ) := hD1
  obtain ⟨F, r, σ2, v2, hcx, hcm, hpost⟩ := hs (σ, sh, LP, Z) v (xs (x3 + (1 : Int32)).toNatClampNeg) hR
  refine lv_aload_n hx hb dL_law_754 rfl (lv_at hl 1 rfl) ?_
  refine lv_aload_n hx hb dL_law_755 rfl (lv_at hl 0 rfl) ?_
  refine lv_iload_n hx hb dL_law_756 rfl (lv_at hl 3 rfl) ?_
  refine lv_iconst (v := (1 : Int32)) hx hb dL_law_757 (by decide) ?_
  refine lv_iadd hx hb dL_law_758 ?_
  refine va_sld hx hb hX hbl hbA hS (lw_in ex3 hi hL (k := 1) (by decide) rfl) dL_law_759 ?_
  refine lcall (wf := (cW aC cs sh LP Z)) (wr := mW aM cs v) (va_runV (As := [.int (xs (x3 + (1 : Int32)).toNatClampNeg)]) (rest := []) ⟨hx, hb, hml, hown, hts⟩ (kX11_day l D cs aC sh LP Z hZ σ F (xs (x3 + (1 : Int32)).toNatClampNeg) r σ2 hcx _) (cwV 1 hts gL_law_X11_day rfl rfl rfl (by decide +kernel) ⟨Nat.le_of_ble_eq_true rfl, Nat.le_of_ble_eq_true rfl⟩) (pQ_v hP1 hK hD1 (va_recv hK.1 hP1 (ci := 10) (q0 := 0) rfl rfl)) rfl rfl hl.1 rfl (lv_room (Nat.le_of_ble_eq_true rfl)) dL_law_760 ⟨by show 100 + i + 0 ≤ 600000; omega, by show 12000 + 3 * i + 0 ≤ room_1.slots; have := rs_ge; omega⟩) hD1 hP2 hdj hS hA (fun r9 u9 H locs hw hP1 hD1 hP2 hdj hS => ?_)
  obtain ⟨rfl, rfl⟩ := hw
  refine lv_aload_n hx hb dL_law_763 rfl (lv_at hl 2 rfl) ?_
  refine lv_aload_n hx hb dL_law_764 rfl (lv_at hl 0 rfl) ?_
  refine lv_iload_n hx hb dL_law_765 rfl (lv_at hl 3 rfl) ?_
  refine lv_iconst (v := (1 : Int32)) hx hb dL_law_766 (by decide) ?_
  refine lv_iadd hx hb dL_law_767 ?_
  refine va_sld hx hb hX hbl hbA hS (lw_in ex3 hi hL (k := 1) (by decide) rfl) dL_law_768 ?_
  refine lcall (wf := (mW aM cs)) (wr := (cW aC cs sh LP Z u9)) (va_runV (As := [.int (xs (x3 + (1 : Int32)).toNatClampNeg)]) (rest := [.int r9]) ⟨hx, hb, hml, hown, hts⟩ (kX12_day l D cs aM v F (xs (x3 + (1 : Int32)).toNatClampNeg) r9 v2 hcm _) (cwV 1 hts gL_law_X12_day rfl rfl rfl (by decide +kernel) ⟨Nat.le_of_ble_eq_true rfl, Nat.le_of_ble_eq_true rfl⟩) (pQ_v hP2 hK hD2 (va_recv hK.1 hP2 (ci := 11) (q0 := 0) rfl rfl)) rfl rfl hl.1 rfl (lv_room (Nat.le_of_ble_eq_true rfl)) dL_law_769 ⟨by show 100 + i + 0 + 0 ≤ 600000; omega, by show 12000 + 3 * i + 0 + 0 ≤ room_1.slots; have := rs_ge; omega⟩) hD2 hP1 hdj.symm hS hA (fun r8 v8 H locs hw hP2 hD2 hP1 hdj2 hS => ?_)
  obtain ⟨rfl, rfl⟩ := hw
  have hdj := hdj2.symm
  refine lv_icmp_eq (tgt := 1371) hx hb dL_law_772 (by decide) (fun _ => ?_) (fun c9 => absurd rfl c9)
  refine W.widen (k := 100 + (i + 7)) (n := 12000 + 3 * (i + 7)) (by omega) (by omega) ?_
  exact kk _ _ _ _ _ hpost hP1 hD1 hP2 hD2 hdj hS hl
