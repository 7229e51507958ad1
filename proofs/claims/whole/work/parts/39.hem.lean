/-! hem, undo -/
section OPS5
variable {PP : PPT} {WP : WPT}
theorem fup_at {f : Nat → Nat} {s x : Nat} : (fun i => if i = s then x else f i) s = x := if_pos rfl
theorem hem_CV {n0 : Int32} {hem : Nat → Int32} {sh : Nat → Option Nat} {Z : ZT} {n : Nat} {K C T H : Nat → Nat} {B : Nat → Nat → Bool} (h : CV n0 hem sh Z n K C T H B) (s x : Nat) : CV n0 (upd hem s (nI x)) sh Z n K C T (fun i => if i = s then x else H i) B := by
  refine ⟨h.1, fun i hi => ?_⟩
  obtain ⟨q, h1, h2, h3, h4, h5, h6⟩ := h.2 i hi
  refine ⟨q, h1, h2, h3, h4, h5, ?_⟩
  by_cases e : i = s
  · subst e
    show upd hem i (nI x) i = nI (if i = i then x else H i)
    rw [pk_us, if_pos rfl]
  · show upd hem s (nI x) i = nI (if i = s then x else H i)
    rw [pk_un e, if_neg e, h6]
theorem hem_MV {m0 : Int32} {m1 m2 m7 m8 m9 m10 m11 : Nat → Int32} {n : Nat} {K C T H : Nat → Nat} {B : Nat → Nat → Bool} (h : MV m0 m1 m2 m7 m8 m9 m10 m11 n K C T H B) (s x : Nat) : MV m0 m1 m2 m7 m8 m9 m10 (upd m11 s (nI x)) n K C T (fun i => if i = s then x else H i) B := by
  refine ⟨h.1, fun i hi => ?_⟩
  obtain ⟨h1, h2, h3, h4, h5, h6, h7⟩ := h.2 i hi
  refine ⟨h1, h2, h3, h4, h5, h6, ?_⟩
  by_cases e : i = s
  · subst e
    show upd m11 i (nI x) i = nI (if i = i then x else H i)
    rw [pk_us, if_pos rfl]
  · show upd m11 s (nI x) i = nI (if i = s then x else H i)
    rw [pk_un e, if_neg e, h7]
theorem hem_OK {n : Nat} {K C T H : Nat → Nat} (h : PicOK n K C T H) {s x : Nat} (hx : x < 2 ^ n) (hb : x.testBit s = false) : PicOK n K C T (fun i => if i = s then x else H i) := by
  refine ⟨h.1, fun i hi => ?_⟩
  obtain ⟨h1, h2, h3, h4, h5, h6⟩ := h.2 i hi
  refine ⟨h1, h2, h3, h4, ?_, ?_⟩
  · show (if i = s then x else H i) < 2 ^ n
    split
    · exact hx
    · exact h5
  · show (if i = s then x else H i).testBit i = false
    split
    · rename_i e; subst e; exact hb
    · exact h6
theorem t_hem : st_hem (Rel PP WP) := by
  intro u v x1 x2 x3 hR hx3
  obtain ⟨n, K, C, T, H, B, S, hOK, hP, hC, hM, hS, hPl, hRest⟩ := id hR
  have hn := hP.1
  have hw := pw10 hn
  rcases c_areTwo hP hC hM x1 x2 with ⟨h, h2⟩ | ⟨h, h1, h2, s, t, hs, ht, e, rfl, rfl⟩
  · refine ⟨0, -1, u.1, v, ?_, ?_, hR⟩
    · unfold fX11_hem; rw [h]; rfl
    · unfold fX12_hem
      rcases h2 with g | ⟨g, g2 | ⟨g2, g3⟩⟩
      · rw [g]; rfl
      · rw [g, g2]; rfl
      · rw [g, g2, bd_s, if_neg (by decide), bd_s, if_neg (by decide), if_neg (fun z => z g3)]
  · obtain ⟨hk, hc1, hc9, ht8, hh, hhs⟩ := hP.2 s hs
    obtain ⟨q, z0, z1, z2, z7, zB, zh⟩ := hC.2 s hs
    have m11 := (hM.2 s hs).2.2.2.2.2.2
    have key : ∀ x : Nat, x < 2 ^ n → x.testBit s = false → fX4_setHem u.2.1 u.2.2.2 u.1 (nI s) (nI t) x3 = some (sg u.1 3 (upd (u.1 3) s (nI x))) → (if x3 = 0 then (aI (v 11) 10 (nI s) fun v9 => fX12_hem_J69 (b2 ((H s).testBit t)) (v9 &&& (((1 : Int32) <<< (nI t &&& 31)) ^^^ ((-1) : Int32))) (nI s) v) else (aI (v 11) 10 (nI s) fun v10 => fX12_hem_J69 (b2 ((H s).testBit t)) (v10 ||| ((1 : Int32) <<< (nI t &&& 31))) (nI s) v)) = some (b2 ((H s).testBit t), sg (sg v 11 (upd (v 11) s (nI x))) 13 (fun _ => 0)) → ∃ (F : Nat) (r : Int32) (σ2 : Nat → Nat → Int32) (v2 : Nat → Nat → Int32), fX11_hem u.2.1 u.2.2.2 u.1 (nI s) (nI t) x3 = some (r, σ2) ∧ fX12_hem v (nI s) (nI t) x3 = some (r, v2) ∧ Rel PP WP (σ2, u.2.1, u.2.2.1, u.2.2.2) v2 := by
      intro x hx hb k1 k2
      refine ⟨0, b2 ((H s).testBit t), sg (sg u.1 3 (upd (u.1 3) s (nI x))) 35 (fun _ => 0), sg (sg v 11 (upd (v 11) s (nI x))) 13 (fun _ => 0), ?_, ?_, ?_⟩
      · unfold fX11_hem fX4_hems fX11_hem_J31 fX10_forget
        rw [h, bd_s, if_pos (by decide), aI_n (by omega) (by decide), zh, shr_b (by omega) (by omega), k1, bd_s]
        cases (H s).testBit t <;> rfl
      · unfold fX12_hem
        rw [h1, bd_s, if_neg (by decide), h2, bd_s, if_neg (by decide), if_pos (fun z => e ((nI_eq (by omega) (by omega)).mp z)), aI_n (by omega) (by decide), m11, shr_b (by omega) (by omega), nm_s, k2]
      · exact ⟨n, K, C, T, _, B, S, hOK, hem_OK hP hx hb, hem_CV hC s x, hem_MV hM s x, hS, Or.inl ⟨rfl, rfl⟩, hRest⟩
    have hlt : H s < 2 ^ 31 := by omega
    rcases hx3 with rfl | rfl
    · refine key (clr (H s) t) (Nat.lt_of_le_of_lt (clr_le _ _) hh) (by rw [clr_tb hlt, hhs]; rfl) ?_ ?_
      · unfold fX4_setHem; rw [if_pos rfl, aI_n (by omega) (by decide), aS_n (by omega) (by decide), nm_s, zh, clr_nI (by omega), nI_clamp (by omega)]
      · rw [if_pos rfl, aI_n (by omega) (by decide), m11, clr_nI (by omega)]; unfold fX12_hem_J69; rw [aS_n (by omega) (by decide), nm_s, nm_s, nI_clamp (by omega)]
    · refine key (H s ||| 2 ^ t) (Nat.or_lt_two_pow hh (Nat.pow_lt_pow_right (by omega) ht)) (by rw [fb_bit_set, hhs, decide_eq_false e]; rfl) ?_ ?_
      · unfold fX4_setHem; rw [if_neg (by decide), aI_n (by omega) (by decide), aS_n (by omega) (by decide), nm_s, zh, sh1 (by omega), fa_or, nI_clamp (by omega)]
      · rw [if_neg (by decide), aI_n (by omega) (by decide), m11, sh1 (by omega), fa_or]; unfold fX12_hem_J69; rw [aS_n (by omega) (by decide), nm_s, nm_s, nI_clamp (by omega)]
theorem c_undoL {F n m : Nat} {sh : Nat → Option Nat} {Z : ZT} {σ : Nat → Nat → Int32} (hm : m ≤ 10) (h33 : σ 33 0 = nI m) (kx : (Nat → Nat → Int32) → Option (Nat → Nat → Int32)) (H : Nat → Nat) (hH : ∀ s, s < m → σ 3 s = nI (H s)) (hF : 20 ≤ F) : fX4_removeLatest_L22 F sh Z kx F 0 σ = kx (sg σ 3 (fa_fill (fun s => nI (clr (H s) m)) (σ 3) m)) := by
  have := lp_up (fun q (s : Int32 × (Nat → Nat → Int32)) => fX4_removeLatest_L22 F sh Z kx q s.1 s.2) (fun i => (nI i, sg σ 3 (fa_fill (fun s => nI (clr (H s) m)) (σ 3) i))) (kx (sg σ 3 (fa_fill (fun s => nI (clr (H s) m)) (σ 3) m))) m (fun q i hi => ?_) (fun q => ?_) F 0 (Nat.zero_le _) (by omega)
  · dsimp only at this
    rw [fa_fill_0, sg_same] at this
    exact this
  · show fX4_removeLatest_L22 F sh Z kx (q + 1) (nI i) (sg σ 3 (fa_fill (fun s => nI (clr (H s) m)) (σ 3) i)) = fX4_removeLatest_L22 F sh Z kx q (nI (i + 1)) (sg σ 3 (fa_fill (fun s => nI (clr (H s) m)) (σ 3) (i + 1)))
    have e33 : sg σ 3 (fa_fill (fun s => nI (clr (H s) m)) (σ 3) i) 33 0 = nI m := h33
    rw [fX4_removeLatest_L22, nb_s, e33, if_neg (nI_ge hi (by omega)), aI_n (by omega) (by decide), sg_at, fa_fill_out (Nat.le_refl i), hH i hi, aS_n (by omega) (by decide), nm_s, sg_sg, clr_nI (by omega), nI_clamp (by omega), nI_1, ← fa_fill_succ]
  · show fX4_removeLatest_L22 F sh Z kx (q + 1) (nI m) (sg σ 3 (fa_fill (fun s => nI (clr (H s) m)) (σ 3) m)) = _
    have e33 : sg σ 3 (fa_fill (fun s => nI (clr (H s) m)) (σ 3) m) 33 0 = nI m := h33
    rw [fX4_removeLatest_L22, nb_s, e33, if_pos (nI_le (Nat.le_refl m) (by omega))]
theorem r_undoL {F m : Nat} {v : Nat → Nat → Int32} (hm : m ≤ 9) (h0 : v 0 0 = nI m) (kx : (Nat → Nat → Int32) → Option (Int32 × (Nat → Nat → Int32))) (hF : 20 ≤ F) : fX12_undo_L22 F kx F 0 v = kx (sg v 11 (fa_fill (fun s => if s = m then 0 else v 11 s &&& (((1 : Int32) <<< (nI m &&& 31)) ^^^ ((-1) : Int32))) (v 11) 10)) := by
  have := lp_up (fun q (s : Int32 × (Nat → Nat → Int32)) => fX12_undo_L22 F kx q s.1 s.2) (fun i => (nI i, sg v 11 (fa_fill (fun s => if s = m then 0 else v 11 s &&& (((1 : Int32) <<< (nI m &&& 31)) ^^^ ((-1) : Int32))) (v 11) i))) (kx (sg v 11 (fa_fill (fun s => if s = m then 0 else v 11 s &&& (((1 : Int32) <<< (nI m &&& 31)) ^^^ ((-1) : Int32))) (v 11) 10))) 10 (fun q i hi => ?_) (fun q => ?_) F 0 (Nat.zero_le _) (by omega)
  · dsimp only at this
    rw [fa_fill_0, sg_same] at this
    exact this
  · show fX12_undo_L22 F kx (q + 1) (nI i) (sg v 11 (fa_fill (fun s => if s = m then 0 else v 11 s &&& (((1 : Int32) <<< (nI m &&& 31)) ^^^ ((-1) : Int32))) (v 11) i)) = fX12_undo_L22 F kx q (nI (i + 1)) (sg v 11 (fa_fill (fun s => if s = m then 0 else v 11 s &&& (((1 : Int32) <<< (nI m &&& 31)) ^^^ ((-1) : Int32))) (v 11) (i + 1)))
    have e0 : sg v 11 (fa_fill (fun s => if s = m then 0 else v 11 s &&& (((1 : Int32) <<< (nI m &&& 31)) ^^^ ((-1) : Int32))) (v 11) i) 0 0 = nI m := h0
    rw [fX12_undo_L22, nb_s, e0, if_neg (show ¬ (10 : Int32) ≤ nI i from nI_ge (b := 10) hi (by decide)), ← fa_fill_succ]
    unfold fX12_undo_J60
    by_cases e : i = m
    · rw [if_neg (fun z => z (by rw [e])), aS_n (by omega) (by decide), nm_s, sg_at, sg_sg, nI_clamp (by omega), nI_1, if_pos e]
    · rw [if_pos (fun z => e ((nI_eq (by omega) (by omega)).mp z)), aI_n (by omega) (by decide), sg_at, fa_fill_out (Nat.le_refl i), aS_n (by omega) (by decide), nm_s, sg_sg, nI_clamp (by omega), nI_1, if_neg e]
  · show fX12_undo_L22 F kx (q + 1) (nI 10) (sg v 11 (fa_fill (fun s => if s = m then 0 else v 11 s &&& (((1 : Int32) <<< (nI m &&& 31)) ^^^ ((-1) : Int32))) (v 11) 10)) = _
    rw [fX12_undo_L22, nb_s, if_pos (by decide)]
theorem t_undo : st_undo (Rel PP WP) := by
  intro u v hR
  obtain ⟨n, K, C, T, H, B, S, hOK, hP, hC, hM, hS, hPl, hRest⟩ := id hR
  have hn := hP.1
  have hw := pw10 hn
  cases n with
  | zero =>
    have es : shUndo u.1 u.2.1 = u.2.1 := by
      unfold shUndo; rw [hC.1]; rfl
    refine ⟨0, -2, u.1, v, ?_, ?_, ?_⟩
    · unfold fX11_undo fX4_shapesTold; rw [hC.1]; rfl
    · unfold fX12_undo; rw [hM.1]; rfl
    · rw [es]; exact hR
  | succ n =>
    have es : shUndo u.1 u.2.1 = va_up u.2.1 n none := by
      unfold shUndo; rw [hC.1, if_neg (nI_ne0 (by omega) (by omega)), nI_pred, nI_clamp (by omega)]
    refine ⟨20, nI n, sg (sg (sg u.1 33 (fun _ => nI n)) 3 (fa_fill (fun s => nI (clr (H s) n)) (u.1 3) n)) 35 (fun _ => 0), sg (sg (sg v 0 (fun _ => nI n)) 11 (fa_fill (fun s => if s = n then 0 else v 11 s &&& (((1 : Int32) <<< (nI n &&& 31)) ^^^ ((-1) : Int32))) (v 11) 10)) 13 (fun _ => 0), ?_, ?_, ?_⟩
    · unfold fX11_undo fX4_shapesTold fX4_removeLatest fX10_forget
      rw [hC.1, bd_s, if_pos (nI_ne0 (by omega) (by omega)), nI_pred, nm_s, aS_n (by omega) (by decide), c_undoL (n := n) (m := n) (H := H) (by omega) (by rfl) _ (fun s hs => by
        obtain ⟨q, z0, z1, z2, z7, zB, zh⟩ := hC.2 s (by omega)
        exact zh) (by decide)]
      rfl
    · unfold fX12_undo
      rw [hM.1, if_pos (nI_ne0 (by omega) (by omega)), nI_pred, nm_s, r_undoL (m := n) (by omega) (by rfl) _ (by decide)]
      rfl
    · rw [es]
      refine ⟨n, K, C, T, fun s => clr (H s) n, B, S, ?_, ?_, ?_, ?_, hS, Or.inl ⟨rfl, rfl⟩, hRest⟩
      · intro j q hj
        have hj2 : va_up u.2.1 n none j = some q := hj
        by_cases e : j = n
        · subst e
          rw [show va_up u.2.1 j none j = none from by unfold va_up; rw [if_pos rfl]] at hj2
          cases hj2
        · rw [show va_up u.2.1 n none j = u.2.1 j from by unfold va_up; rw [if_neg e]] at hj2
          exact hOK j q hj2
      · refine ⟨by omega, fun s hs => ?_⟩
        obtain ⟨h1, h2, h3, h4, h5, h6⟩ := hP.2 s (by omega)
        refine ⟨h1, h2, h3, h4, ?_, ?_⟩
        · apply tb_lt
          intro i hi
          rw [clr_tb (by omega)]
          by_cases e : i = n
          · rw [decide_eq_true e]; simp
          · rw [tb_ge h5 (by omega)]; rfl
        · rw [clr_tb (by omega), h6]; rfl
      · refine ⟨rfl, fun s hs => ?_⟩
        obtain ⟨q, z0, z1, z2, z7, zB, zh⟩ := hC.2 s (by omega)
        refine ⟨q, ?_, z1, z2, z7, zB, ?_⟩
        · show va_up u.2.1 n none s = some q
          unfold va_up; rw [if_neg (by omega)]; exact z0
        · show fa_fill (fun s => nI (clr (H s) n)) (u.1 3) n s = nI (clr (H s) n)
          exact fa_fill_in hs
      · refine ⟨rfl, fun s hs => ?_⟩
        obtain ⟨h1, h2, h3, h4, h5, h6, h7⟩ := hM.2 s (by omega)
        refine ⟨h1, h2, h3, h4, h5, h6, ?_⟩
        show fa_fill (fun s => if s = n then 0 else v 11 s &&& (((1 : Int32) <<< (nI n &&& 31)) ^^^ ((-1) : Int32))) (v 11) 10 s = nI (clr (H s) n)
        rw [fa_fill_in (by omega), if_neg (by omega), h7, clr_nI (by omega)]
end OPS5
