/-! a SHAPE comes: what both make of it -/
theorem bL_set {x : Int64} {k p : Nat} (hk : k < 64) (hp : p < 64) : bL (x ||| ((1 : Int64) <<< ((nI k).toInt64 &&& 63))) p = (bL x p || decide (p = k)) := by
  rw [sh1L hk]
  have e : bL (x ||| lN (2 ^ k)) p = (bL x p || bL (lN (2 ^ k)) p) := by
    unfold bL; rw [Int64.toBitVec_or, BitVec.getLsbD_or]
  rw [e, bL_lN hp, Nat.testBit_two_pow]
  congr 1
  apply decide_eq_decide.mpr
  exact ⟨fun h => h.symm, fun h => h.symm⟩
theorem bL_0 (p : Nat) : bL 0 p = false := by
  unfold bL; simp
def mxN (P : Nat → Bool) : Nat → Nat
  | 0 => 0
  | c + 1 => if P (plc c) then (if mxN P c < rmx (plc c) then rmx (plc c) else mxN P c) else mxN P c
theorem mxN_ub (P : Nat → Bool) : ∀ i c, c < i → P (plc c) = true → rmx (plc c) ≤ mxN P i := by
  intro i
  induction i with
  | zero => intro c h; omega
  | succ i ih =>
    intro c hc hP
    unfold mxN
    by_cases e : c = i
    · subst e
      rw [if_pos hP]
      split <;> omega
    · have := ih c (by omega) hP
      split
      · split <;> omega
      · exact this
theorem mxN_at (P : Nat → Bool) : ∀ i, mxN P i = 0 ∨ ∃ c, c < i ∧ P (plc c) = true ∧ rmx (plc c) = mxN P i := by
  intro i
  induction i with
  | zero => exact Or.inl rfl
  | succ i ih =>
    unfold mxN
    split
    · rename_i h
      split
      · exact Or.inr ⟨i, by omega, h, rfl⟩
      · rcases ih with z | ⟨c, h1, h2, h3⟩
        · exact Or.inl z
        · exact Or.inr ⟨c, by omega, h2, h3⟩
    · rcases ih with z | ⟨c, h1, h2, h3⟩
      · exact Or.inl z
      · exact Or.inr ⟨c, by omega, h2, h3⟩
theorem rcB_ub (P : Nat → Bool) : ∀ i p, p < i → P p = true → rmx p ≤ rcB P i := by
  intro i
  induction i with
  | zero => intro c h; omega
  | succ i ih =>
    intro c hc hP
    unfold rcB
    by_cases e : c = i
    · subst e
      rw [if_pos hP]
      split <;> omega
    · have := ih c (by omega) hP
      split
      · split <;> omega
      · exact this
theorem rcB_at (P : Nat → Bool) : ∀ i, rcB P i = 0 ∨ ∃ p, p < i ∧ P p = true ∧ rmx p = rcB P i := by
  intro i
  induction i with
  | zero => exact Or.inl rfl
  | succ i ih =>
    unfold rcB
    split
    · rename_i h
      split
      · exact Or.inr ⟨i, by omega, h, rfl⟩
      · rcases ih with z | ⟨c, h1, h2, h3⟩
        · exact Or.inl z
        · exact Or.inr ⟨c, by omega, h2, h3⟩
    · rcases ih with z | ⟨c, h1, h2, h3⟩
      · exact Or.inl z
      · exact Or.inr ⟨c, by omega, h2, h3⟩
theorem mx_rc (P : Nat → Bool) : mxN P 256 = rcB P 64 := by
  apply Nat.le_antisymm
  · rcases mxN_at P 256 with z | ⟨c, h1, h2, h3⟩
    · omega
    · rw [← h3]; exact rcB_ub P 64 _ (cel_c c h1).1 h2
  · rcases rcB_at P 64 with z | ⟨p, h1, h2, h3⟩
    · omega
    · obtain ⟨k1, k2, k3⟩ := cel_p p h1 0 (by decide)
      rw [← h3]
      have := mxN_ub P 256 (cel p 0) k1 (by rw [k2]; exact h2)
      rw [k2] at this; exact this
theorem sm_pc (P : Nat → Bool) : fb_sm (fun c => if P (plc c) then 1 else 0) 256 = 4 * pcB P := by
  rw [sum_cells (fun p _ => if P p then 1 else 0)]
  unfold pcB
  have : ∀ n, fb_sm (fun p => (if P p then 1 else 0) + (if P p then 1 else 0) + (if P p then 1 else 0) + (if P p then 1 else 0)) n = 4 * fb_ct P n := by
    intro n
    induction n with
    | zero => rfl
    | succ n ih =>
      rw [fb_sm_succ, fb_ct_succ, ih]
      split <;> omega
  exact this 64
section ADD
variable {PP : PPT} {WP : WPT}
def aInv (w : Nat → Nat → Int32) (n : Nat) (P : Nat → Bool) (i : Nat) (σ : Nat → Nat → Int32) : Prop := (∀ j, j ≠ 8 → j ≠ 9 → j ≠ 10 → σ j = w j) ∧ (∀ c, c < i → σ 8 (256 * n + c) = b2 (P (plc c))) ∧ (∀ k, k < 256 * n → σ 8 k = w 8 k) ∧ σ 9 n = nI (fb_sm (fun c => if P (plc c) then 1 else 0) i) ∧ (∀ k, k ≠ n → σ 9 k = w 9 k) ∧ σ 10 n = nI (mxN P i) ∧ (∀ k, k ≠ n → σ 10 k = w 10 k)
theorem sg_ne {σ : Nat → Nat → Int32} {k j : Nat} (h : j ≠ k) (g : Nat → Int32) : sg σ k g j = σ j := by
  unfold sg
  cases h1 : Nat.beq j k with
  | false => rfl
  | true => exact absurd (Nat.eq_of_beq_eq_true h1) h
theorem mxN_lt (P : Nat → Bool) : ∀ i, i ≤ 256 → mxN P i < 8 := by
  intro i hi
  rcases mxN_at P i with z | ⟨c, h1, h2, h3⟩
  · omega
  · have := rmx_lt (plc c) (cel_c c (by omega)).1
    omega
theorem r_addL {F n : Nat} (hn : n < 10) {w : Nat → Nat → Int32} {P : Nat → Bool} (hof : ∀ σ' : Nat → Nat → Int32, (∀ j, j ≠ 8 → j ≠ 9 → j ≠ 10 → σ' j = w j) → ∀ c, c < 256 → fX12_isOf F σ' (nI n) (nI c) = some (b2 (P (plc c)))) (kx : (Nat → Nat → Int32) → Option (Int32 × (Nat → Nat → Int32))) : ∀ N i σ, aInv w n P i σ → i ≤ 256 → 256 - i < N → ∃ σ'', aInv w n P 256 σ'' ∧ fX12_add_L105 F (nI n) kx N (nI i) σ = kx σ'' := by
  intro N
  induction N with
  | zero => intro i σ _ _ h; omega
  | succ N ih =>
    intro i σ hI hi hN
    rw [fX12_add_L105, nb_s]
    rcases Nat.lt_or_ge i 256 with h | h
    · obtain ⟨i1, i2, i3, i4, i5, i6, i7⟩ := hI
      have hb01 : vp_nar .boolean (b2 (P (plc i))) = b2 (P (plc i)) := by cases P (plc i) <;> rfl
      rw [if_neg (show ¬ (256 : Int32) ≤ nI i from nI_ge (b := 256) h (by decide)), hof σ i1 i h, bd_s, r_ix, aS_n (by omega) (by decide), nm_s, nI_clamp (by omega), hb01]
      have a9 : sg σ 8 (upd (σ 8) (256 * n + i) (b2 (P (plc i)))) 9 n = nI (fb_sm (fun c => if P (plc c) then 1 else 0) i) := i4
      have mk : ∀ (m : Nat), m = mxN P (i + 1) → aInv w n P (i + 1) (sg (sg (sg σ 8 (upd (σ 8) (256 * n + i) (b2 (P (plc i))))) 9 (upd (σ 9) n (nI (fb_sm (fun c => if P (plc c) then 1 else 0) (i + 1))))) 10 (upd (σ 10) n (nI m))) := by
        intro m hm
        subst hm
        refine ⟨fun j h8 h9 h10 => ?_, fun c hc => ?_, fun k hk => ?_, ?_, fun k hk => ?_, ?_, fun k hk => ?_⟩
        · rw [sg_ne h10, sg_ne h9, sg_ne h8]; exact i1 j h8 h9 h10
        · show upd (σ 8) (256 * n + i) (b2 (P (plc i))) (256 * n + c) = b2 (P (plc c))
          by_cases e : c = i
          · subst e; rw [pk_us]
          · rw [pk_un (by omega)]; exact i2 c (by omega)
        · show upd (σ 8) (256 * n + i) (b2 (P (plc i))) k = w 8 k
          rw [pk_un (by omega)]; exact i3 k hk
        · show upd (σ 9) n _ n = _
          rw [pk_us]
        · show upd (σ 9) n _ k = _
          rw [pk_un hk]; exact i5 k hk
        · show upd (σ 10) n _ n = _
          rw [pk_us]
        · show upd (σ 10) n _ k = _
          rw [pk_un hk]; exact i7 k hk
      have fin : ∀ m, m = mxN P (i + 1) → ∃ σ'', aInv w n P 256 σ'' ∧ (fun x9 σ => fX12_add_L105 F (nI n) kx N x9 σ) (nI i + 1) (sg (sg (sg σ 8 (upd (σ 8) (256 * n + i) (b2 (P (plc i))))) 9 (upd (σ 9) n (nI (fb_sm (fun c => if P (plc c) then 1 else 0) (i + 1))))) 10 (upd (σ 10) n (nI m))) = kx σ'' := by
        intro m hm
        obtain ⟨σ'', h1, h2⟩ := ih (i + 1) _ (mk m hm) (by omega) (by omega)
        exact ⟨σ'', h1, by rw [nI_1]; exact h2⟩
      have hr := rmx_lt (plc i) (cel_c i h).1
      have hx := mxN_lt P i (by omega)
      rw [aI_n (by omega) (by decide), a9]
      unfold fX12_add_J157 fX12_add_J193 fX12_add_J200
      by_cases hP : P (plc i) = true
      · have e9 : nI (fb_sm (fun c => if P (plc c) then 1 else 0) i) + 1 = nI (fb_sm (fun c => if P (plc c) then 1 else 0) (i + 1)) := by
          rw [fb_sm_succ, if_pos hP, nI_1]
        rw [if_neg (b2_n.mpr hP), aS_n (by omega) (by decide), nm_s, e9, if_neg (b2_n.mpr hP), r_rim i h, bd_s, aI_n (by omega) (by decide), nI_clamp (by omega)]
        have a10 : sg (sg σ 8 (upd (σ 8) (256 * n + i) (b2 (P (plc i))))) 9 (upd (sg σ 8 (upd (σ 8) (256 * n + i) (b2 (P (plc i)))) 9) n (nI (fb_sm (fun c => if P (plc c) then 1 else 0) (i + 1)))) 10 n = nI (mxN P i) := i6
        rw [a10]
        by_cases hm : mxN P i < rmx (plc i)
        · rw [if_neg (nI_ge hm (by omega)), bd_s, aS_n (by omega) (by decide), nm_s]
          exact fin _ (by unfold mxN; rw [if_pos hP, if_pos hm])
        · rw [if_pos (nI_le (by omega) (by omega)), aI_n (by omega) (by decide), a10, aS_n (by omega) (by decide), nm_s]
          exact fin _ (by conv => rhs; unfold mxN
                          rw [if_pos hP, if_neg hm])
      · have e9 : nI (fb_sm (fun c => if P (plc c) then 1 else 0) i) + 0 = nI (fb_sm (fun c => if P (plc c) then 1 else 0) (i + 1)) := by
          rw [fb_sm_succ, if_neg hP]; exact Int32.add_zero _
        rw [if_pos (b2_0.mpr (ts_nt hP)), aS_n (by omega) (by decide), nm_s, e9, if_pos (b2_0.mpr (ts_nt hP)), aI_n (by omega) (by decide), nI_clamp (by omega)]
        have a10 : sg (sg σ 8 (upd (σ 8) (256 * n + i) (b2 (P (plc i))))) 9 (upd (sg σ 8 (upd (σ 8) (256 * n + i) (b2 (P (plc i)))) 9) n (nI (fb_sm (fun c => if P (plc c) then 1 else 0) (i + 1)))) 10 n = nI (mxN P i) := i6
        rw [a10, aS_n (by omega) (by decide), nm_s]
        exact fin _ (by conv => rhs; unfold mxN
                        rw [if_neg hP])
    · have e : i = 256 := by omega
      subst e
      rw [if_pos (by decide)]
      exact ⟨σ, hI, rfl⟩
/-- rows of the reference as a new SHAPE finds them -/
def wAdd (v : Nat → Nat → Int32) (n : Nat) (x1 x2 x3 x4 x5 x6 x7 : Int32) : Nat → Nat → Int32 := sg (sg (sg (sg (sg (sg (sg (sg (sg (sg v 1 (upd (v 1) n x1)) 2 (upd (v 2) n x2)) 3 (upd (v 3) n x3)) 4 (upd (v 4) n x4)) 5 (upd (v 5) n x5)) 6 (upd (v 6) n x6)) 7 (upd (v 7) n x7)) 11 (upd (v 11) n 0)) 9 (upd (v 9) n 0)) 10 (upd (v 10) n 0)
theorem va_same {α : Type} {f : Nat → α} {k : Nat} {x : α} : va_up f k x k = x := by unfold va_up; rw [if_pos rfl]
theorem va_other {α : Type} {f : Nat → α} {k j : Nat} {x : α} (h : j ≠ k) : va_up f k x j = f j := by unfold va_up; rw [if_neg h]
theorem add_gen {u : SS} {v : Nat → Nat → Int32} (hR : Rel PP WP u v) {k c t : Nat} {xa xb xc xd : Int32} {pl : Int64} {P : Nat → Bool} {F : Nat} (hF : 300 ≤ F) (hk : okK k) (hc1 : 1 ≤ c) (hc9 : c ≤ 9) (ht : t ≤ 8) (hpl : ∀ p, p < 64 → bL pl p = P p) (hof : ∀ (n : Nat), n < 10 → ∀ σ' : Nat → Nat → Int32, σ' 1 n = nI (kd k) → σ' 3 n = xa → σ' 4 n = xb → σ' 5 n = xc → σ' 6 n = xd → ∀ c, c < 256 → fX12_isOf F σ' (nI n) (nI c) = some (b2 (P (plc c)))) : ∃ (r : Int32) (σ2 v2 : Nat → Nat → Int32), fX11_put u.2.1 u.2.2.2 u.1 = some (r, σ2) ∧ fX12_add F v (nI (kd k)) (nI c) xa xb xc xd (nI t) = some (r, v2) ∧ ∀ q, q ∉ u.2.2.1 → Rel PP WP (σ2, shPut u.1 u.2.1 q, u.2.2.1 ++ [q], va_up u.2.2.2 q (k, nI c, pl, nI t)) v2 := by
  obtain ⟨n, K, C, T, H, B, S, hOK, hP, hC, hM, hS, hPl, hRest⟩ := id hR
  have hn := hP.1
  rcases Nat.lt_or_ge n 10 with hlt | hge
  · have hn10 : ¬ nI n = (10 : Int32) := fun z => by
      have := (nI_eq (a := n) (b := 10) (by omega) (by decide)).mp z
      omega
    have hw : aInv (wAdd v n (nI (kd k)) (nI c) xa xb xc xd (nI t)) n P 0 (wAdd v n (nI (kd k)) (nI c) xa xb xc xd (nI t)) := ⟨fun _ _ _ _ => rfl, fun c h => by omega, fun _ _ => rfl, pk_us, fun _ _ => rfl, pk_us, fun _ _ => rfl⟩
    obtain ⟨σ'', hI, hL⟩ := r_addL hlt (F := F) (P := P) (fun σ' h' cc hcc => hof n hlt σ' (by rw [h' 1 (by decide) (by decide) (by decide)]; exact pk_us) (by rw [h' 3 (by decide) (by decide) (by decide)]; exact pk_us) (by rw [h' 4 (by decide) (by decide) (by decide)]; exact pk_us) (by rw [h' 5 (by decide) (by decide) (by decide)]; exact pk_us) (by rw [h' 6 (by decide) (by decide) (by decide)]; exact pk_us) cc hcc) (fun σ22 => nm (sg σ22 0 (fun _ => (σ22 0 0) + (1 : Int32))) fun σ23 => nm (sg σ23 13 (fun _ => (0 : Int32))) fun σ24 => some (nI n, σ24)) F 0 _ hw (by omega) (by omega)
    obtain ⟨i1, i2, i3, i4, i5, i6, i7⟩ := hI
    have h00 : σ'' 0 0 = nI n := by rw [i1 0 (by decide) (by decide) (by decide)]; exact hM.1
    refine ⟨nI n, sg (sg (sg u.1 35 (fun _ => 0)) 3 (upd (u.1 3) n 0)) 33 (fun _ => nI (n + 1)), sg (sg σ'' 0 (fun _ => nI (n + 1))) 13 (fun _ => 0), ?_, ?_, ?_⟩
    · unfold fX11_put fX4_shapesTold fX10_forget fX4_add
      rw [bd_s, hC.1, if_pos hn10, nm_s, bd_s]
      have e33 : sg u.1 35 (fun _ => (0 : Int32)) 33 0 = nI n := hC.1
      rw [e33, aS_n hlt (by decide), aS_n hlt (by decide), nm_s, nI_clamp (by omega)]
      have e33b : sg (sg u.1 35 (fun _ => (0 : Int32))) 3 (upd (sg u.1 35 (fun _ => (0 : Int32)) 3) n 0) 33 0 = nI n := hC.1
      rw [e33b, nI_1]; rfl
    · unfold fX12_add
      rw [hM.1, if_pos hn10, aS_n hlt (by decide), nm_s, aS_n hlt (by decide), nm_s, aS_n hlt (by decide), nm_s, aS_n hlt (by decide), nm_s, aS_n hlt (by decide), nm_s, aS_n hlt (by decide), nm_s, aS_n hlt (by decide), nm_s, aS_n hlt (by decide), nm_s, aS_n hlt (by decide), nm_s, aS_n hlt (by decide), nm_s, nI_clamp (by omega)]
      refine Eq.trans hL ?_
      rw [nm_s, nm_s, h00, nI_1]
    · intro q hq
      have esh : shPut u.1 u.2.1 q = va_up u.2.1 n (some q) := by
        unfold shPut; rw [hC.1, if_neg hn10, nI_clamp (by omega)]
      rw [esh]
      have hp2 : 2 ^ n < 2 ^ (n + 1) := Nat.pow_lt_pow_right (by omega) (by omega)
      refine ⟨n + 1, fun s => if s = n then k else K s, fun s => if s = n then c else C s, fun s => if s = n then t else T s, fun s => if s = n then 0 else H s, fun s => if s = n then P else B s, S, ?_, ?_, ?_, ?_, ?_, Or.inl ⟨rfl, ?_⟩, ?_⟩
      · intro j q' hj
        have hj2 : va_up u.2.1 n (some q) j = some q' := hj
        by_cases e : j = n
        · subst e
          rw [va_same] at hj2
          cases hj2
          exact ⟨List.mem_append_right _ (List.mem_singleton.mpr rfl), by
            show okK (va_up u.2.2.2 q (k, nI c, pl, nI t) q).1
            rw [va_same]; exact hk⟩
        · rw [va_other e] at hj2
          obtain ⟨g1, g2⟩ := hOK j q' hj2
          refine ⟨List.mem_append_left _ g1, ?_⟩
          show okK (va_up u.2.2.2 q (k, nI c, pl, nI t) q').1
          have hne : q' ≠ q := fun z => hq (z ▸ g1)
          rw [va_other hne]; exact g2
      · refine ⟨by omega, fun s hs => ?_⟩
        by_cases e : s = n
        · subst e
          simp only [if_pos]
          exact ⟨hk, hc1, hc9, ht, Nat.pos_of_ne_zero (by omega), Nat.zero_testBit _⟩
        · simp only [if_neg e]
          obtain ⟨g1, g2, g3, g4, g5, g6⟩ := hP.2 s (by omega)
          exact ⟨g1, g2, g3, g4, by omega, g6⟩
      · refine ⟨rfl, fun s hs => ?_⟩
        by_cases e : s = n
        · subst e
          simp only [if_pos]
          refine ⟨q, va_same, ?_, ?_, fun _ => ?_, fun p hp => ?_, ?_⟩
          · show (va_up u.2.2.2 q (k, nI c, pl, nI t) q).1 = k
            rw [va_same]
          · show (va_up u.2.2.2 q (k, nI c, pl, nI t) q).2.1 = nI c
            rw [va_same]
          · show (va_up u.2.2.2 q (k, nI c, pl, nI t) q).2.2.2 = nI t
            rw [va_same]
          · show bL (va_up u.2.2.2 q (k, nI c, pl, nI t) q).2.2.1 p = P p
            rw [va_same]; exact hpl p hp
          · exact pk_us
        · simp only [if_neg e]
          obtain ⟨q2, z0, z1, z2, z7, zB, zh⟩ := hC.2 s (by omega)
          have hq2 : q2 ≠ q := fun z => hq (z ▸ (hOK s q2 z0).1)
          have eZ : va_up u.2.2.2 q (k, nI c, pl, nI t) q2 = u.2.2.2 q2 := va_other hq2
          refine ⟨q2, (va_other e).trans z0, ?_, ?_, ?_, ?_, (pk_un e).trans zh⟩
          · show (va_up u.2.2.2 q (k, nI c, pl, nI t) q2).1 = K s
            rw [eZ]; exact z1
          · show (va_up u.2.2.2 q (k, nI c, pl, nI t) q2).2.1 = nI (C s)
            rw [eZ]; exact z2
          · show K s = 7 → (va_up u.2.2.2 q (k, nI c, pl, nI t) q2).2.2.2 = nI (T s)
            rw [eZ]; exact z7
          · show ∀ p, p < 64 → bL (va_up u.2.2.2 q (k, nI c, pl, nI t) q2).2.2.1 p = B s p
            rw [eZ]; exact zB
      · have r1 : σ'' 1 = upd (v 1) n (nI (kd k)) := i1 1 (by decide) (by decide) (by decide)
        have r2 : σ'' 2 = upd (v 2) n (nI c) := i1 2 (by decide) (by decide) (by decide)
        have r7 : σ'' 7 = upd (v 7) n (nI t) := i1 7 (by decide) (by decide) (by decide)
        have r11 : σ'' 11 = upd (v 11) n 0 := i1 11 (by decide) (by decide) (by decide)
        refine ⟨rfl, fun s hs => ?_⟩
        show σ'' 1 s = _ ∧ σ'' 2 s = _ ∧ (_ → σ'' 7 s = _) ∧ (∀ c, c < 256 → σ'' 8 (256 * s + c) = _) ∧ σ'' 9 s = _ ∧ σ'' 10 s = _ ∧ σ'' 11 s = _
        rw [r1, r2, r7, r11]
        by_cases e : s = n
        · subst e
          simp only [if_pos]
          refine ⟨pk_us, pk_us, fun _ => pk_us, i2, ?_, ?_, pk_us⟩
          · rw [i4, sm_pc]
          · rw [i6, mx_rc]
        · simp only [if_neg e]
          obtain ⟨g1, g2, g3, g4, g5, g6, g7⟩ := hM.2 s (by omega)
          refine ⟨(pk_un e).trans g1, (pk_un e).trans g2, fun z => (pk_un e).trans (g3 z), fun c hc => ?_, ?_, ?_, (pk_un e).trans g7⟩
          · rw [i3 _ (by omega)]; exact g4 c hc
          · rw [i5 s e]; exact (pk_un e).trans g5
          · rw [i7 s e]; exact (pk_un e).trans g6
      · refine ⟨hS.1, hS.2.1, hS.2.2.1, ?_⟩
        show σ'' 12 0 = nI S
        rw [i1 12 (by decide) (by decide) (by decide)]; exact hS.2.2.2
      · show sg (sg σ'' 0 (fun _ => nI (n + 1))) 13 (fun _ => 0) 13 0 = 0
        rfl
      · have r19 : σ'' 19 = v 19 := i1 19 (by decide) (by decide) (by decide)
        have r21 : σ'' 21 = v 21 := i1 21 (by decide) (by decide) (by decide)
        have r24 : σ'' 24 = v 24 := i1 24 (by decide) (by decide) (by decide)
        have r25 : σ'' 25 = v 25 := i1 25 (by decide) (by decide) (by decide)
        have r26 : σ'' 26 = v 26 := i1 26 (by decide) (by decide) (by decide)
        show RPh (u.1 15) (σ'' 19) ∧ RBr WP (u.1 39 0) (u.1 23) (u.1 19) (u.1 20) (u.1 21) (u.1 22) (σ'' 21 0) ∧ RSht (u.1 40 0) (u.1 44 0) (u.1 29) (σ'' 24 0) (σ'' 25 0) (fun k => σ'' 26 (256 * 0 + k)) ∧ RSht (u.1 41 0) (u.1 45 0) (u.1 30) (σ'' 24 1) (σ'' 25 1) (fun k => σ'' 26 (256 * 1 + k)) ∧ RSht (u.1 42 0) (u.1 46 0) (u.1 31) (σ'' 24 2) (σ'' 25 2) (fun k => σ'' 26 (256 * 2 + k)) ∧ RSht (u.1 43 0) (u.1 47 0) (u.1 32) (σ'' 24 3) (σ'' 25 3) (fun k => σ'' 26 (256 * 3 + k))
        rw [r19, r21, r24, r25, r26]
        exact hRest
  · have e : n = 10 := by omega
    subst e
    refine ⟨-3, u.1, v, ?_, ?_, ?_⟩
    · unfold fX11_put fX4_shapesTold
      rw [bd_s, hC.1, if_neg (fun z => z rfl)]
    · unfold fX12_add
      rw [hM.1, if_neg (fun z => z rfl)]
    · intro q hq
      have esh : shPut u.1 u.2.1 q = u.2.1 := by
        unfold shPut; rw [hC.1, if_pos (by decide)]
      rw [esh]
      refine ⟨10, K, C, T, H, B, S, shOK_grow hOK hq, hP, ⟨hC.1, fun s hs => ?_⟩, hM, hS, hPl, hRest⟩
      obtain ⟨q2, z0, z1, z2, z7, zB, zh⟩ := hC.2 s hs
      have hq2 : q2 ≠ q := fun z => hq (z ▸ (hOK s q2 z0).1)
      have eZ : va_up u.2.2.2 q (k, nI c, pl, nI t) q2 = u.2.2.2 q2 := va_other hq2
      refine ⟨q2, z0, ?_, ?_, ?_, ?_, zh⟩
      · show (va_up u.2.2.2 q (k, nI c, pl, nI t) q2).1 = K s
        rw [eZ]; exact z1
      · show (va_up u.2.2.2 q (k, nI c, pl, nI t) q2).2.1 = nI (C s)
        rw [eZ]; exact z2
      · show K s = 7 → (va_up u.2.2.2 q (k, nI c, pl, nI t) q2).2.2.2 = nI (T s)
        rw [eZ]; exact z7
      · show ∀ p, p < 64 → bL (va_up u.2.2.2 q (k, nI c, pl, nI t) q2).2.2.1 p = B s p
        rw [eZ]; exact zB
end ADD
