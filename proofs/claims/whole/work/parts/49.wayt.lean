/-! way and wayAt -/
def gtN (g : Nat) : Nat := if g = 0 then 1 else if g = 1 then 7 else if g = 2 then 14 else 8
theorem gtN_lt (g : Nat) : gtN g < 16 := by unfold gtN; split <;> (try split) <;> (try split) <;> omega
def opn (b : Nat) : Nat := 65535 &&& (b ^^^ 4294967295)
theorem opn_lt (b : Nat) : opn b < 65536 := Nat.lt_of_le_of_lt Nat.and_le_left (by decide)
def resW (b g : Nat) : Option (List Nat) := if (opn b).testBit (gtN g) then dfs 17 (gtN g) (opn b) else none
def rlW : Option (List Nat) → Int32
  | none => -4
  | some L => nI L.length
def WP0 : WPT := fun b g len row => len = rlW (resW b g) ∧ ∀ L, resW b g = some L → ∀ k, k < L.length → row k = nI (L.getD k 0)
theorem resW_len {b g : Nat} {L : List Nat} (h : resW b g = some L) : L.length = cd (opn b) ∧ 0 < L.length ∧ L.length ≤ 16 := by
  unfold resW at h
  by_cases q : (opn b).testBit (gtN g) = true
  · rw [if_pos q] at h
    have e := dfs_len 17 _ _ (gtN_lt g) (opn_lt b) q L h
    have e2 := cd_clr (opn_lt b) (gtN_lt g) q
    have e3 := cd16 (opn_lt b)
    exact ⟨e, by omega, by omega⟩
  · rw [if_neg q] at h; cases h
theorem r_find {b g : Nat} (hg : g < 4) {v : Nat → Nat → Int32} (hv : v 21 0 = nI b) : ∃ (F : Nat) (v2 : Nat → Nat → Int32), fX12_findWay F v (nI g) = some (rlW (resW b g), v2) ∧ (∀ j, j ≠ 23 → v2 j = v j) ∧ (∀ L, resW b g = some L → ∀ k, k < L.length → v2 23 k = nI (L.getD k 0)) := by
  have ho := opn_lt b
  have eo : (65535 : Int32) &&& (v 21 0 ^^^ ((-1) : Int32)) = nI (opn b) := by rw [hv]; exact not_nI 65535 b
  have hgf : fX12_gateField (nI g) = some (nI (gtN g)) := (by decide : ∀ g, g < 4 → fX12_gateField (nI g) = some (nI (gtN g))) g hg
  have hgl := gtN_lt g
  have a0 : ∀ (k : Option (Int32 × (Nat → Nat → Int32))), aS 16 (0 : Int32) k = k := fun k => aS_n (i := 0) (by decide) (by decide)
  have z0 : (0 : Int32).toNatClampNeg = 0 := rfl
  have h16 := cd16 ho
  by_cases hgo : (opn b).testBit (gtN g) = true
  · have hp : 2 ^ gtN g < 65536 := Nat.pow_lt_pow_right (n := 16) (by omega) hgl
    obtain ⟨A1, A2⟩ := r_all ho h16 17 (gtN g) (opn b) 0 (2 ^ gtN g) (sg v 23 (upd (v 23) 0 (nI (gtN g)))) hgl ho hgo hp (by rw [Nat.testBit_two_pow]; exact decide_eq_true rfl) (fun h hh => by
      rw [clr_tb (by omega), Nat.testBit_two_pow]
      by_cases e : h = gtN g
      · rw [decide_eq_true e, decide_eq_true e.symm]
      · rw [decide_eq_false e, decide_eq_false (fun z => e z.symm)]) (Nat.zero_add _) (by omega) (by rw [sg_at]; exact pk_us)
    have hr : resW b g = dfs 17 (gtN g) (opn b) := by unfold resW; rw [if_pos hgo]
    have hcp := cd_clr ho hgl hgo
    have pre : ∀ F, 60 ≤ F → fX12_findWay F v (nI g) = fX12_findWay_L53 F (nI (opn b)) (nI (cd (opn b))) (fun y8 σ9 => if ¬ y8 = 0 then (some (nI (cd (opn b)), σ9)) else (some (((-4) : Int32), σ9))) F (nI (2 ^ gtN g)) (nI (0 + 1)) 0 (sg v 23 (upd (v 23) 0 (nI (gtN g)))) := by
      intro F hF
      unfold fX12_findWay
      rw [eo, nm_s, r_ones (by omega) (by omega), bd_s, hgf, bd_s, shr_b (by omega) (by omega), hgo, if_pos (by decide), a0, nm_s, sh1 (by omega), nm_s, z0]
      rfl
    cases hd : dfs 17 (gtN g) (opn b) with
    | some L =>
      obtain ⟨K, σ', c1, c2, c3, c4⟩ := A1 L hd
      have hL := dfs_len 17 _ _ hgl ho hgo L hd
      refine ⟨60 + K, σ', ?_, fun j hj => (c1 j hj).trans (sg_ne hj _), fun L' hL' k hk => ?_⟩
      · rw [pre _ (by omega), c4 _ (60 + K) (by omega) 60, hr, hd, if_pos (nI_ne0 (by omega) (by omega))]
        rw [← hL]; rfl
      · rw [hr, hd] at hL'
        cases hL'
        have := c3 k hk
        rw [Nat.zero_add] at this
        exact this
    | none =>
      obtain ⟨K, σ', c1, c2, c4⟩ := A2 hd
      refine ⟨60 + K, σ', ?_, fun j hj => (c1 j hj).trans (sg_ne hj _), fun L' hL' k hk => by rw [hr, hd] at hL'; cases hL'⟩
      rw [pre _ (by omega), c4 _ (60 + K) (by omega) 60, hr, hd, fX12_findWay_L53, nb_s, if_pos (by decide), if_neg (by decide)]
      rfl
  · have hr : resW b g = none := by unfold resW; rw [if_neg hgo]
    refine ⟨60, v, ?_, fun _ _ => rfl, fun L hL => by rw [hr] at hL; cases hL⟩
    unfold fX12_findWay
    rw [eo, nm_s, r_ones (by omega) (by omega), bd_s, hgf, bd_s, shr_b (by omega) (by omega), ts_nt hgo, if_neg (fun z => z (by decide)), hr]
    rfl
section WAYT
variable {sh : Nat → Option Nat} {Z : ZT}
theorem sr4_n {α : Type} (k : Nat → Option α) : ∀ g, g < 4 → sr4 (nI g) k = k (19 + g) := by
  intro g hg
  rcases (by omega : g = 0 ∨ g = 1 ∨ g = 2 ∨ g = 3) with rfl | rfl | rfl | rfl <;> rfl
theorem c_len {b g : Nat} (hg : g < 4) {σ : Nat → Nat → Int32} (h39 : σ 39 0 = nI b) (hc : σ 23 g = -9 ∨ WP0 b g (σ 23 g) (σ (19 + g))) : ∃ σ', fX9_lengthFrom sh Z σ (nI g) = some (rlW (resW b g), σ') ∧ (∀ j, j ≠ 19 + g → j ≠ 23 → σ' j = σ j) ∧ (∀ k, k ≠ g → σ' 23 k = σ 23 k) ∧ WP0 b g (σ' 23 g) (σ' (19 + g)) := by
  have ho := opn_lt b
  have hgl := gtN_lt g
  have eo : (65535 : Int32) &&& (σ 39 0 ^^^ ((-1) : Int32)) = nI (opn b) := by rw [h39]; exact not_nI 65535 b
  have hgg : gates g = nI (gtN g) := (by decide : ∀ g, g < 4 → gates g = nI (gtN g)) g hg
  have h16 := cd16 ho
  have j77 : ∀ σ1 : Nat → Nat → Int32, fX9_lengthFrom_J77 sh Z (nI g) σ1 = some (σ1 23 g, σ1) := by
    intro σ1; unfold fX9_lengthFrom_J77; rw [aI_n hg (by decide)]
  have j76 : ∀ (σ1 : Nat → Nat → Int32) x, fX9_lengthFrom_J76 sh Z (nI g) x (nI g) σ1 = some (x, sg σ1 23 (upd (σ1 23) g x)) := by
    intro σ1 x; unfold fX9_lengthFrom_J76; rw [aS_n hg (by decide), nm_s, nI_clamp (by omega), j77, sg_at, pk_us]
  by_cases h9 : σ 23 g = -9
  · have pre : fX9_lengthFrom sh Z σ (nI g) = (if b2 ((opn b).testBit (gtN g)) = 0 then (fX9_lengthFrom_J56 sh Z (nI g) (nI (opn b)) σ) else (bd (fX9_goesOn (19 + g) 17 sh Z σ (nI 0) (nI (gtN g)) (nI (opn b))) fun (v10, σ11) => if v10 = 0 then (fX9_lengthFrom_J56 sh Z (nI g) (nI (opn b)) σ11) else (fX9_lengthFrom_J57 sh Z (nI g) (nI (opn b)) (1 : Int32) σ11))) := by
      unfold fX9_lengthFrom
      rw [aI_n hg (by decide), h9, if_neg (fun z => z rfl), eo, nm_s, aI_n hg (by decide), hgg, c_open ho hgl, bd_s, sr4_n _ g hg, aI_n hg (by decide), hgg]
      rfl
    have no : ∀ σ1 : Nat → Nat → Int32, fX9_lengthFrom_J56 sh Z (nI g) (nI (opn b)) σ1 = some (-4, sg σ1 23 (upd (σ1 23) g (-4))) := by
      intro σ1; unfold fX9_lengthFrom_J56 fX9_lengthFrom_J57; rw [if_pos rfl, j76]
    have fin : ∀ (σ1 : Nat → Nat → Int32) x, (∀ j, j ≠ 19 + g → σ1 j = σ j) → x = rlW (resW b g) → (∀ L, resW b g = some L → ∀ k, k < L.length → σ1 (19 + g) k = nI (L.getD k 0)) → (∀ j, j ≠ 19 + g → j ≠ 23 → sg σ1 23 (upd (σ1 23) g x) j = σ j) ∧ (∀ k, k ≠ g → sg σ1 23 (upd (σ1 23) g x) 23 k = σ 23 k) ∧ WP0 b g (sg σ1 23 (upd (σ1 23) g x) 23 g) (sg σ1 23 (upd (σ1 23) g x) (19 + g)) := by
      intro σ1 x h1 h2 h3
      refine ⟨fun j hj hj2 => by rw [sg_ne hj2]; exact h1 j hj, fun k hk => ?_, ?_, fun L hL k hk => ?_⟩
      · rw [sg_at, pk_un hk, h1 23 (by omega)]
      · rw [sg_at, pk_us]; exact h2
      · rw [sg_ne (by omega)]; exact h3 L hL k hk
    by_cases hgo : (opn b).testBit (gtN g) = true
    · have hr : resW b g = dfs 17 (gtN g) (opn b) := by unfold resW; rw [if_pos hgo]
      obtain ⟨σ1, e, a1, a2, a3⟩ := c_goes (sh := sh) (Z := Z) (19 + g) 17 0 (gtN g) (opn b) σ hgl ho hgo (by omega) (by omega)
      rw [pre, hgo, if_neg (by decide), e, bd_s]
      cases hd : dfs 17 (gtN g) (opn b) with
      | none =>
        refine ⟨_, Eq.trans (no σ1) (by rw [hr, hd]; rfl), fin σ1 (-4) a1 (by rw [hr, hd]; rfl) (fun L hL => by rw [hr, hd] at hL; cases hL)⟩
      | some L =>
        have hL := dfs_len 17 _ _ hgl ho hgo L hd
        have e2 : fX9_lengthFrom_J57 sh Z (nI g) (nI (opn b)) (1 : Int32) σ1 = some (nI L.length, sg σ1 23 (upd (σ1 23) g (nI L.length))) := by
          unfold fX9_lengthFrom_J57
          rw [if_neg (by decide), c_pop32 (by omega), bd_s, j76, hL]
          rfl
        refine ⟨_, Eq.trans e2 (by rw [hr, hd]; rfl), fin σ1 (nI L.length) a1 (by rw [hr, hd]; rfl) (fun L' hL' k hk => ?_)⟩
        rw [hr, hd] at hL'
        cases hL'
        have := a3 L hd k hk
        rw [Nat.zero_add] at this
        exact this
    · have hr : resW b g = none := by unfold resW; rw [if_neg hgo]
      rw [pre, ts_nt hgo, if_pos (by decide)]
      refine ⟨_, Eq.trans (no σ) (by rw [hr]; rfl), fin σ (-4) (fun _ _ => rfl) (by rw [hr]; rfl) (fun L hL => by rw [hr] at hL; cases hL)⟩
  · rcases hc with z | hw
    · exact absurd z h9
    · refine ⟨σ, ?_, fun _ _ _ => rfl, fun _ _ => rfl, hw⟩
      unfold fX9_lengthFrom
      rw [aI_n hg (by decide), if_pos h9, j77, hw.1]
end WAYT
section WAYR
variable {PP : PPT}
theorem rel_way {u : SS} {v : Nat → Nat → Int32} (hR : Rel PP WP0 u v) : ∃ b, u.1 39 0 = nI b ∧ v 21 0 = nI b ∧ (∀ g, g < 4 → u.1 23 g = -9 ∨ WP0 b g (u.1 23 g) (u.1 (19 + g))) ∧ ∀ g, g < 4 → ∀ σ' v2 : Nat → Nat → Int32, (∀ j, j ≠ 19 + g → j ≠ 23 → σ' j = u.1 j) → (∀ k, k ≠ g → σ' 23 k = u.1 23 k) → WP0 b g (σ' 23 g) (σ' (19 + g)) → (∀ j, j ≠ 23 → v2 j = v j) → Rel PP WP0 (σ', u.2.1, u.2.2.1, u.2.2.2) v2 := by
  obtain ⟨n, K, C, T, H, B, S, hOK, hP, hC, hM, hS, hPl, hPh, ⟨b, hb, hb1, hb2, w0, w1, w2, w3⟩, hRest⟩ := id hR
  have old : ∀ g, g < 4 → u.1 23 g = -9 ∨ WP0 b g (u.1 23 g) (u.1 (19 + g)) := by
    intro g hg
    rcases (by omega : g = 0 ∨ g = 1 ∨ g = 2 ∨ g = 3) with rfl | rfl | rfl | rfl
    · exact w0
    · exact w1
    · exact w2
    · exact w3
  refine ⟨b, hb1, hb2, old, fun g hg σ' v2 h1 h2 h3 h4 => ?_⟩
  have new : ∀ h, h < 4 → σ' 23 h = -9 ∨ WP0 b h (σ' 23 h) (σ' (19 + h)) := by
    intro h hh
    by_cases e : h = g
    · subst e; exact Or.inr h3
    · rw [h2 h e, h1 (19 + h) (by omega) (by omega)]; exact old h hh
  obtain ⟨Rv, rfl⟩ : ∃ R, v2 = sg v 23 R := ⟨v2 23, by
    funext j
    by_cases e : j = 23
    · subst e; rw [sg_at]
    · rw [sg_ne e]; exact h4 j e⟩
  obtain ⟨R, Ln, rfl⟩ : ∃ R Ln, σ' = sg (sg u.1 (19 + g) R) 23 Ln := ⟨σ' (19 + g), σ' 23, by
    funext j
    by_cases e : j = 23
    · subst e; rw [sg_at]
    · rw [sg_ne e]
      by_cases e2 : j = 19 + g
      · subst e2; rw [sg_at]
      · rw [sg_ne e2]; exact h1 j e2 e⟩
  have n0 := new 0 (by decide)
  have n1 := new 1 (by decide)
  have n2 := new 2 (by decide)
  have n3 := new 3 (by decide)
  clear new h1 h2 h3 h4
  rcases (by omega : g = 0 ∨ g = 1 ∨ g = 2 ∨ g = 3) with rfl | rfl | rfl | rfl
  · exact ⟨n, K, C, T, H, B, S, hOK, hP, hC, hM, hS, hPl, hPh, ⟨b, hb, hb1, hb2, n0, n1, n2, n3⟩, hRest⟩
  · exact ⟨n, K, C, T, H, B, S, hOK, hP, hC, hM, hS, hPl, hPh, ⟨b, hb, hb1, hb2, n0, n1, n2, n3⟩, hRest⟩
  · exact ⟨n, K, C, T, H, B, S, hOK, hP, hC, hM, hS, hPl, hPh, ⟨b, hb, hb1, hb2, n0, n1, n2, n3⟩, hRest⟩
  · exact ⟨n, K, C, T, H, B, S, hOK, hP, hC, hM, hS, hPl, hPh, ⟨b, hb, hb1, hb2, n0, n1, n2, n3⟩, hRest⟩
theorem t_way : st_way (Rel PP WP0) := by
  intro u v x1 hR
  have ei : fX12_in x1.toInt64 (0 : Int64) (3 : Int64) = fX11_within x1 0 (nI 3) := r_inw x1 0 3
  have e3 : ((4 : Int32) - (1 : Int32)) = nI 3 := by decide
  rcases w0 x1 3 (by decide) with h | ⟨h, g, hg, rfl⟩
  · refine ⟨0, -1, u.1, v, ?_, ?_, hR⟩
    · unfold fX11_way; rw [e3, h]; rfl
    · unfold fX12_way; rw [ei, h]; rfl
  · obtain ⟨b, q1, q2, q3, q4⟩ := rel_way hR
    obtain ⟨σ', c1, c2, c3, c4⟩ := c_len (sh := u.2.1) (Z := u.2.2.2) (show g < 4 by omega) q1 (q3 g (by omega))
    obtain ⟨F, v2, r1, r2, -⟩ := r_find (show g < 4 by omega) q2
    refine ⟨F, rlW (resW b g), σ', v2, ?_, ?_, q4 g (by omega) σ' v2 c2 c3 c4 r2⟩
    · unfold fX11_way; rw [e3, h, bd_s, if_neg (by decide), c1]; rfl
    · unfold fX12_way; rw [ei, h, bd_s, if_neg (by decide), r1]; rfl
theorem t_wayAt : st_wayAt (Rel PP WP0) := by
  intro u v x1 x2 hR
  have ei : fX12_in x1.toInt64 (0 : Int64) (3 : Int64) = fX11_within x1 0 (nI 3) := r_inw x1 0 3
  have e3 : ((4 : Int32) - (1 : Int32)) = nI 3 := by decide
  rcases w0 x1 3 (by decide) with h | ⟨h, g, hg, rfl⟩
  · refine ⟨0, -1, u.1, v, ?_, ?_, hR⟩
    · unfold fX11_wayAt; rw [e3, h]; rfl
    · unfold fX12_wayAt; rw [ei, h]; rfl
  by_cases hx : 0 ≤ x2
  · obtain ⟨b, q1, q2, q3, q4⟩ := rel_way hR
    obtain ⟨σ', c1, c2, c3, c4⟩ := c_len (sh := u.2.1) (Z := u.2.2.2) (show g < 4 by omega) q1 (q3 g (by omega))
    obtain ⟨F, v2, r1, r2, r3⟩ := r_find (show g < 4 by omega) q2
    have hRel := q4 g (by omega) σ' v2 c2 c3 c4 r2
    have ca : fX11_wayAt u.2.1 u.2.2.2 u.1 (nI g) x2 = (if ¬ rlW (resW b g) = ((-4) : Int32) then (if rlW (resW b g) ≤ x2 then (some (((-1) : Int32), σ')) else (aI (σ' (19 + g)) 16 x2 fun v7 => some (v7, σ'))) else (some (((-4) : Int32), σ'))) := by
      unfold fX11_wayAt fX9_fieldAt
      rw [e3, h, bd_s, if_neg (by decide), if_pos hx, c1, bd_s]
      show bd (if ¬ rlW (resW b g) = ((-4) : Int32) then (if rlW (resW b g) ≤ x2 then (some (((-1) : Int32), σ')) else (sr4 (nI g) fun k6a => aI (σ' k6a) 16 x2 fun v7 => some (v7, σ'))) else (some (((-4) : Int32), σ'))) (fun z => some (z.1, z.2)) = _
      rw [sr4_n _ g (by omega)]
      have eta : ∀ o : Option (Int32 × (Nat → Nat → Int32)), bd o (fun z => some (z.1, z.2)) = o := by intro o; cases o <;> rfl
      exact eta _
    have cm : fX12_wayAt F v (nI g) x2 = (if 0 ≤ rlW (resW b g) then (if rlW (resW b g) ≤ x2 then (some (((-1) : Int32), v2)) else (aI (v2 23) 16 x2 fun v8 => some (v8, v2))) else (some (((-4) : Int32), v2))) := by
      unfold fX12_wayAt
      rw [ei, h, bd_s, if_neg (by decide), if_pos hx, r1]; rfl
    cases hres : resW b g with
    | none =>
      rw [hres] at ca cm
      refine ⟨F, -4, σ', v2, ?_, ?_, hRel⟩
      · rw [ca]; rfl
      · rw [cm]; rfl
    | some L =>
      obtain ⟨-, l1, l2⟩ := resW_len hres
      rw [hres] at ca cm
      have lw : rlW (some L) = nI L.length := rfl
      have n4 : ¬ nI L.length = ((-4) : Int32) := fun z => by
        have := (fa_eq _ _).mp z
        rw [nI_toInt (by omega)] at this
        have e4 : ((-4) : Int32).toInt = -4 := by decide
        rw [e4] at this; omega
      rw [lw, if_pos n4] at ca
      rw [lw, if_pos (nI_pos' (by omega))] at cm
      by_cases hl : nI L.length ≤ x2
      · rw [if_pos hl] at ca cm
        exact ⟨F, -1, σ', v2, ca, cm, hRel⟩
      · rw [if_neg hl] at ca cm
        have k1 := (fa_le _ _).mp hx
        have k2 := mt (fa_le _ _).mpr hl
        rw [nI_toInt (by omega)] at k2
        have k0 : (0 : Int32).toInt = 0 := by decide
        rw [k0] at k1
        obtain ⟨k, hk, rfl⟩ : ∃ k, k < L.length ∧ x2 = nI k := ⟨x2.toInt.toNat, by omega, (fa_eq _ _).mpr (by rw [nI_toInt (by omega)]; omega)⟩
        rw [aI_n (by omega) (by decide)] at ca cm
        rw [c4.2 L hres k hk] at ca
        rw [r3 L hres k hk] at cm
        exact ⟨F, _, σ', v2, ca, cm, hRel⟩
  · refine ⟨0, -1, u.1, v, ?_, ?_, hR⟩
    · unfold fX11_wayAt; rw [e3, h, bd_s, if_neg (by decide), if_neg hx]
    · unfold fX12_wayAt; rw [ei, h, bd_s, if_neg (by decide), if_neg hx]
end WAYR
