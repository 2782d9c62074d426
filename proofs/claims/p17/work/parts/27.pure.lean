theorem l_15 : (15 : Int32).toInt = 15 := by decide
theorem io_law (L : Nat) (xs : Nat → Int32) (hL : L ≤ 2560) : ∀ (n : Nat) (σ : io_M) (i : Int32), 0 ≤ i.toInt → i.toInt ≤ 2565 → 2565 - i.toInt < 5 * n → io_E (120 * i.toInt) σ → wl_L_law_18 L xs n σ i := by
  intro n
  induction n with
  | zero => intro σ i _ _ h _; exact absurd h (by omega)
  | succ n ih =>
    intro σ i h0 h1 h2 hJ
    have z5 := l_5
    have zL : (Int32.ofNat L - 5).toInt = (L : Int) - 5 := by
      have e : (Int32.ofNat L).toInt = L := pz_nI (by omega)
      rw [pz_sub (by rw [e, z5]; omega), e, z5]
    have e5 : (i + 5).toInt = i.toInt + 5 := by rw [pz_add (by rw [z5]; omega), z5]
    have hb : 0 ≤ 120 * i.toInt ∧ 120 * i.toInt ≤ 1000000 := by omega
    unfold wl_L_law_18
    refine ⟨fun _ => trivial, fun c => ?_⟩
    have hc := pz_nlt c
    rw [zL] at hc
    have hi : ∀ (j : Int32) (m : Int), j.toInt = m → 0 ≤ m → m ≤ 4 → vp_in (i + j) L := by
      intro j m ej hm0 hm4
      exact pz_in.mpr (by rw [pz_add (by rw [ej]; omega), ej]; omega)
    have i0 : vp_in i L := pz_in.mpr (by omega)
    have i1 := hi 1 1 l_1 (by omega) (by omega)
    have i2 := hi 2 2 l_2 (by omega) (by omega)
    have i3 := hi 3 3 l_3 (by omega) (by omega)
    have i4 := hi 4 4 l_4 (by omega) (by omega)
    have nx : ∀ s : io_M, io_E (120 * i.toInt + 600) s → wl_L_law_18 L xs n s (i + 5) := by
      intro s hs
      refine ih s (i + 5) (by omega) (by omega) (by omega) ?_
      have e : 120 * (i + 5).toInt = 120 * i.toInt + 600 := by rw [e5]; omega
      rw [e]
      exact hs
    have n0 : ∀ s : io_M, io_E (120 * i.toInt) s → wl_L_law_18 L xs n s (i + 5) := fun s hs => nx s (hs.mono (by omega))
    refine ⟨i0, fun _ => ?_, fun _ => ⟨fun _ => ⟨i1, i2, fun c => ?_, fun c => ?_⟩, fun _ => ⟨fun _ => ?_, fun _ => ⟨fun _ => ?_, fun _ => ⟨fun _ => ?_, fun _ => ⟨fun _ => ?_, fun _ => ⟨fun _ => ?_, fun _ => ⟨fun _ => ?_, fun _ => ⟨fun _ => ?_, fun _ => ⟨fun _ => ?_, fun _ => ⟨fun _ => ?_, fun _ => ⟨fun _ => ?_, fun _ => ⟨fun _ => ?_, fun _ => ⟨fun _ => ?_, fun _ => ⟨fun _ => ?_, fun _ => ⟨fun _ => ?_, fun _ => n0 _ hJ⟩⟩⟩⟩⟩⟩⟩⟩⟩⟩⟩⟩⟩⟩⟩⟩
    · exact ⟨i1, i2, pe_lay i1 i2 hJ (fun r s h => n0 s h)⟩
    · exact pe_there hJ (Or.inl rfl) (fun r s k => ⟨i1, i2, fun z => k, fun z => absurd c z⟩) (fun r s h => n0 s h)
    · exact pe_there hJ (Or.inr rfl) (fun r s k => ⟨i1, i2, fun z => absurd z c, fun z => k⟩) (fun r s h => n0 s h)
    · exact ⟨i1, i2, pe_permit i1 i2 hJ (fun r s h => n0 s h)⟩
    · exact ⟨i1, pe_input i1 hJ (fun r s h => n0 s h)⟩
    · exact ⟨i1, i2, i3, i4, pe_node i1 i2 i3 i4 hJ (fun r s h => n0 s h)⟩
    · exact pe_clear hb.1 hJ (fun r s h => n0 s h)
    · exact ⟨i1, pe_run i1 hb hJ (fun r s h => nx s h)⟩
    · exact pe_value hJ (fun r s h => n0 s h)
    · exact pe_where hJ (fun r s h => n0 s h)
    · exact pe_worked hJ (fun r s h => n0 s h)
    · exact ⟨i1, pe_order i1 hJ (fun r s h => n0 s h)⟩
    · exact ⟨i1, i2, pe_handle i1 i2 hJ (fun r r' s h => n0 s h)⟩
    · exact ⟨i1, i2, pe_content i1 i2 hJ (fun r s h => n0 s h)⟩
    · exact ⟨i1, pe_size i1 hJ (fun r s h => n0 s h)⟩
    · exact ⟨i1, pe_printed i1 hJ (fun r s h => n0 s h)⟩
    · exact ⟨i1, pe_told i1 hJ (fun r s h => ⟨fun _ => n0 s h, fun q => q rfl⟩)⟩
theorem io_pure (L : Nat) (xs : Nat → Int32) (hL : L ≤ 2560) (fp fm : Nat → Int32) (hp : ∀ j, j < 8 → fp j = 3) (hm : ∀ j, j < 8 → fm j = 3) : ∃ n, wl_L_law_18 L xs n (io_s0 fp fm) 0 := by
  have z0 := l_0
  exact ⟨514, io_law L xs hL 514 _ 0 (by omega) (by omega) (by omega) (by rw [z0]; exact io_E0 fp fm hp hm)⟩
