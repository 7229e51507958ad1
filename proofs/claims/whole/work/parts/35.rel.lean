/-! the relation that every call keeps -/
def RSht (lane len : Int32) (it : Nat → Int32) (ml mn : Int32) (mi : Nat → Int32) : Prop := (lane = -1 ∧ ml = -1) ∨ ∃ l n : Nat, l ≤ 2 ∧ n ≤ 256 ∧ lane = nI l ∧ ml = nI l ∧ len = nI n ∧ mn = nI n ∧ ∀ k, k < n → it k = mi k
abbrev PPT : Type := Nat → (Nat → Nat) → (Nat → Nat → Bool) → Nat → Int32 → Int32 → (Nat → Int32) → (Nat → Int32) → (Nat → Int32) → Int32 → (Nat → Int32) → Prop
abbrev WPT : Type := Nat → Nat → Int32 → (Nat → Int32) → Prop
def RPh (a b : Nat → Int32) : Prop := ∀ c, c < 256 → b c = a c ∧ (a c = -5 ∨ ∃ k, k ≤ 9 ∧ a c = nI k)
def RBr (WP : WPT) (c0 : Int32) (len w0 w1 w2 w3 : Nat → Int32) (m0 : Int32) : Prop := ∃ b, b < 65536 ∧ c0 = nI b ∧ m0 = nI b ∧ (len 0 = -9 ∨ WP b 0 (len 0) w0) ∧ (len 1 = -9 ∨ WP b 1 (len 1) w1) ∧ (len 2 = -9 ∨ WP b 2 (len 2) w2) ∧ (len 3 = -9 ∨ WP b 3 (len 3) w3)
def RPl (PP : PPT) (n : Nat) (H : Nat → Nat) (B : Nat → Nat → Bool) (S : Nat) (k0 d0 c0 : Int32) (ds od : Nat → Int32) (m0 : Int32) (ah : Nat → Int32) (md : Int32) (mp : Nat → Int32) : Prop := (k0 = 0 ∧ m0 = 0) ∨ (k0 = 1 ∧ m0 = 1 ∧ PP n H B S d0 c0 ds od ah md mp)
def RelD (PP : PPT) (WP : WPT) (σ : Nat → Nat → Int32) (sh : Nat → Option Nat) (LP : List Nat) (Z : ZT) (v : Nat → Nat → Int32) (n : Nat) (K C T H : Nat → Nat) (B : Nat → Nat → Bool) (S : Nat) : Prop :=
  shOK sh LP Z ∧ PicOK n K C T H ∧ CVs σ sh Z n K C T H B ∧ MVs v n K C T H B ∧ (1 ≤ S ∧ S ≤ 256 ∧ σ 34 0 = nI S ∧ v 12 0 = nI S) ∧ RPl PP n H B S (σ 35 0) (σ 37 0) (σ 38 0) (σ 12) (σ 13) (v 13 0) (v 14) (v 16 0) (v 17) ∧ RPh (σ 15) (v 19) ∧ RBr WP (σ 39 0) (σ 23) (σ 19) (σ 20) (σ 21) (σ 22) (v 21 0) ∧ RSht (σ 40 0) (σ 44 0) (σ 29) (v 24 0) (v 25 0) (fun k => v 26 (256 * 0 + k)) ∧ RSht (σ 41 0) (σ 45 0) (σ 30) (v 24 1) (v 25 1) (fun k => v 26 (256 * 1 + k)) ∧ RSht (σ 42 0) (σ 46 0) (σ 31) (v 24 2) (v 25 2) (fun k => v 26 (256 * 2 + k)) ∧ RSht (σ 43 0) (σ 47 0) (σ 32) (v 24 3) (v 25 3) (fun k => v 26 (256 * 3 + k))
def Rel (PP : PPT) (WP : WPT) (u : SS) (v : Nat → Nat → Int32) : Prop := ∃ n K C T H B S, RelD PP WP u.1 u.2.1 u.2.2.1 u.2.2.2 v n K C T H B S
theorem r_inw (x lo hi : Int32) : fX12_in x.toInt64 lo.toInt64 hi.toInt64 = fX11_within x lo hi := by rw [r_in, c_within]
theorem wNat (x : Int32) (L N : Nat) (hN : N < 2 ^ 31) : fX11_within x (nI L) (nI N) = some 0 ∨ (fX11_within x (nI L) (nI N) = some 1 ∧ ∃ a, L ≤ a ∧ a ≤ N ∧ x = nI a) ∨ 2 ^ 31 ≤ L := by
  rcases Nat.lt_or_ge L (2 ^ 31) with hL | hL
  · rw [c_within]
    by_cases h : nI L ≤ x ∧ x ≤ nI N
    · right; left
      rw [decide_eq_true h]
      refine ⟨rfl, ?_⟩
      have h1 := (fa_le _ _).mp h.1
      have h2 := (fa_le _ _).mp h.2
      rw [nI_toInt hL] at h1
      rw [nI_toInt hN] at h2
      refine ⟨x.toInt.toNat, by omega, by omega, ?_⟩
      apply (fa_eq _ _).mpr
      rw [nI_toInt (by omega)]
      omega
    · left; rw [decide_eq_false h]; rfl
  · right; right; exact hL
theorem w0 (x : Int32) (N : Nat) (hN : N < 2 ^ 31) : fX11_within x 0 (nI N) = some 0 ∨ (fX11_within x 0 (nI N) = some 1 ∧ ∃ a, a ≤ N ∧ x = nI a) := by
  rcases wNat x 0 N hN with h | ⟨h, a, -, h2, h3⟩ | h
  · exact Or.inl h
  · exact Or.inr ⟨h, a, h2, h3⟩
  · omega
theorem w1 (x : Int32) (N : Nat) (hN : N < 2 ^ 31) : fX11_within x 1 (nI N) = some 0 ∨ (fX11_within x 1 (nI N) = some 1 ∧ ∃ a, 1 ≤ a ∧ a ≤ N ∧ x = nI a) := by
  rcases wNat x 1 N hN with h | ⟨h, a, h1, h2, h3⟩ | h
  · exact Or.inl h
  · exact Or.inr ⟨h, a, h1, h2, h3⟩
  · omega
theorem rc_cell (x y : Int32) : fX12_isCell x y = fX11_isCell x y := by
  unfold fX12_isCell fX11_isCell
  rw [show (0 : Int64) = (0 : Int32).toInt64 from rfl, show (15 : Int64) = (15 : Int32).toInt64 from rfl, r_inw, r_inw]
theorem isC (x y : Int32) : fX11_isCell x y = some 0 ∨ (fX11_isCell x y = some 1 ∧ ∃ a b, a < 16 ∧ b < 16 ∧ x = nI a ∧ y = nI b) := by
  unfold fX11_isCell
  rcases w0 x 15 (by decide) with h | ⟨h, a, ha, rfl⟩
  · left; rw [show (15 : Int32) = nI 15 from rfl, h]; rfl
  · rcases w0 y 15 (by decide) with h2 | ⟨h2, b, hb, rfl⟩
    · left; rw [show (15 : Int32) = nI 15 from rfl, h, bd_s, if_neg (by decide), h2]; rfl
    · right
      refine ⟨?_, a, b, by omega, by omega, rfl, rfl⟩
      rw [show (15 : Int32) = nI 15 from rfl, h, bd_s, if_neg (by decide), h2]; rfl
theorem ix16 (a b : Nat) : ((16 : Int32) * nI b) + nI a = nI (16 * b + a) := by
  rw [show (16 : Int32) = nI 16 from rfl, pk_mul, nI_add]
section OPS1
variable {PP : PPT} {WP : WPT}
theorem t_seen : st_seen (Rel PP WP) := by
  intro u v x1 x2 hR
  obtain ⟨n, K, C, T, H, B, S, hOK, hP, hC, hM, hS, hPl, hPh, hRest⟩ := id hR
  rcases isC x1 x2 with h | ⟨h, a, b, ha, hb, rfl, rfl⟩
  · refine ⟨0, -1, ?_, ?_, hR⟩
    · unfold fX11_seen; rw [h]; rfl
    · unfold fX12_seen; rw [rc_cell, h]; rfl
  · refine ⟨0, u.1 15 (16 * b + a), ?_, ?_, hR⟩
    · unfold fX11_seen fX3_colourOf
      rw [h, bd_s, if_neg (by decide), ix16, aI_n (by omega) (by decide)]; rfl
    · unfold fX12_seen
      rw [rc_cell, h, bd_s, if_neg (by decide), ix16, aI_n (by omega) (by decide), (hPh _ (by omega)).1]
theorem RPh.upd {a b : Nat → Int32} (h : RPh a b) (j : Nat) {x : Int32} (hx : x = -5 ∨ ∃ k, k ≤ 9 ∧ x = nI k) : RPh (upd a j x) (upd b j x) := by
  intro c hc
  by_cases e : c = j
  · subst e
    rw [pk_us, pk_us]; exact ⟨rfl, hx⟩
  · rw [pk_un e, pk_un e]; exact h c hc
theorem t_smear : st_smear (Rel PP WP) := by
  intro u v x1 x2 hR
  obtain ⟨n, K, C, T, H, B, S, hOK, hP, hC, hM, hS, hPl, hPh, hRest⟩ := id hR
  rcases isC x1 x2 with h | ⟨h, a, b, ha, hb, rfl, rfl⟩
  · refine ⟨0, -1, u.1, v, ?_, ?_, hR⟩
    · unfold fX11_smear; rw [h]; rfl
    · unfold fX12_smear; rw [rc_cell, h]; rfl
  · refine ⟨0, u.1 15 (16 * b + a), sg u.1 15 (upd (u.1 15) (16 * b + a) (-5)), sg v 19 (upd (v 19) (16 * b + a) (-5)), ?_, ?_, ?_⟩
    · unfold fX11_smear fX3_smearCell
      rw [h, bd_s, if_neg (by decide), ix16, aI_n (by omega) (by decide), aS_n (by omega) (by decide), nI_clamp (by omega)]; rfl
    · unfold fX12_smear
      rw [rc_cell, h, bd_s, if_pos (by decide), ix16, aI_n (by omega) (by decide), aS_n (by omega) (by decide), nI_clamp (by omega), (hPh _ (by omega)).1]; rfl
    · exact ⟨n, K, C, T, H, B, S, hOK, hP, hC, hM, hS, hPl, hPh.upd _ (Or.inl rfl), hRest⟩
theorem t_sand : st_sand (Rel PP WP) := by
  intro u v x1 hR
  obtain ⟨n, K, C, T, H, B, S, hOK, hP, hC, hM, ⟨hS1, hS2, hS3, hS4⟩, hPl, hRest⟩ := id hR
  have ei : fX12_in x1.toInt64 (1 : Int64) (256 : Int64) = fX11_within x1 1 (nI 256) := r_inw x1 1 256
  rcases w1 x1 256 (by decide) with h | ⟨h, a, ha1, ha2, rfl⟩
  · refine ⟨0, -1, u.1, v, ?_, ?_, hR⟩
    · unfold fX11_sand; rw [show (256 : Int32) = nI 256 from rfl, h]; rfl
    · unfold fX12_sand; rw [ei, h]; rfl
  · refine ⟨0, nI S, sg (sg u.1 34 (fun _ => nI a)) 35 (fun _ => 0), sg (sg v 12 (fun _ => nI a)) 13 (fun _ => 0), ?_, ?_, ?_⟩
    · unfold fX11_sand fX10_changeSand; rw [show (256 : Int32) = nI 256 from rfl, h, bd_s, if_pos (by decide), ← hS3]; rfl
    · unfold fX12_sand; rw [ei, h, bd_s, if_pos (by decide), ← hS4]; rfl
    · exact ⟨n, K, C, T, H, B, a, hOK, hP, hC, hM, ⟨ha1, ha2, rfl, rfl⟩, Or.inl ⟨rfl, rfl⟩, hRest⟩
theorem t_bar : st_bar (Rel PP WP) := by
  intro u v x1 hR
  obtain ⟨n, K, C, T, H, B, S, hOK, hP, hC, hM, hS, hPl, hPh, ⟨b, hb, hb1, hb2, hb3⟩, hRest⟩ := id hR
  have ei : fX12_in x1.toInt64 (0 : Int64) (65535 : Int64) = fX11_within x1 0 (nI 65535) := r_inw x1 0 65535
  rcases w0 x1 65535 (by decide) with h | ⟨h, a, ha, rfl⟩
  · refine ⟨0, -1, u.1, v, ?_, ?_, hR⟩
    · unfold fX11_bar; rw [show (65535 : Int32) = nI 65535 from rfl, h]; rfl
    · unfold fX12_bar; rw [ei, h]; rfl
  · refine ⟨10, nI b, sg (sg (sg (sg (sg u.1 39 (fun _ => nI a)) 23 (upd (u.1 23) 0 (-9))) 23 (upd (upd (u.1 23) 0 (-9)) 1 (-9))) 23 (upd (upd (upd (u.1 23) 0 (-9)) 1 (-9)) 2 (-9))) 23 (upd (upd (upd (upd (u.1 23) 0 (-9)) 1 (-9)) 2 (-9)) 3 (-9)), sg v 21 (fun _ => nI a), ?_, ?_, ?_⟩
    · unfold fX11_bar fX9_changeBars
      rw [show (65535 : Int32) = nI 65535 from rfl, h, bd_s, if_neg (by decide), nm_s]
      rw [← hb1]; rfl
    · unfold fX12_bar; rw [ei, h, bd_s, if_pos (by decide), ← hb2]; rfl
    · exact ⟨n, K, C, T, H, B, S, hOK, hP, hC, hM, hS, hPl, hPh, ⟨a, by omega, rfl, rfl, Or.inl rfl, Or.inl rfl, Or.inl rfl, Or.inl rfl⟩, hRest⟩
end OPS1
