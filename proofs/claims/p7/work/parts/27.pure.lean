theorem l_15 : (15 : Int32).toInt = 15 := by decide
theorem io_law (L : Nat) (xs : Nat → Int32) (hL : L ≤ 2560) : ∀ (n : Nat) (σ : io_M) (i : Int32), 0 ≤ i.toInt → i.toInt ≤ 2565 → 2565 - i.toInt < 5 * n → io_J (120 * i.toInt) σ → wl_L_law_18 L xs n σ i := by
  intro n
  induction n with
  | zero => intro σ i _ _ h _; exact absurd h (by omega)
  | succ n ih =>
    intro σ i h0 h1 h2 hJ
    have z5 := l_5
    have zL : (Int32.ofNat L - 5).toInt = (L : Int) - 5 := by
      have e : (Int32.ofNat L).toInt = L := pz_nI (by omega)
      rw [pz_sub (by rw [e, z5]; omega), e, z5]
    have e5 : (i + 5).toInt = i.toInt + 5 := by rw [pz_add (by rw [z5]; omega), z5]
    have hb : 0 ≤ 120 * i.toInt ∧ 120 * i.toInt ≤ 1000000 := by omega
    unfold wl_L_law_18
    refine ⟨fun _ => trivial, fun c => ?_⟩
    have hc := pz_nlt c
    rw [zL] at hc
    have hi : ∀ (j : Int32) (m : Int), j.toInt = m → 0 ≤ m → m ≤ 4 → vp_in (i + j) L := by
      intro j m ej hm0 hm4
      exact pz_in.mpr (by rw [pz_add (by rw [ej]; omega), ej]; omega)
    have i0 : vp_in i L := pz_in.mpr (by omega)
    have i1 := hi 1 1 l_1 (by omega) (by omega)
    have i2 := hi 2 2 l_2 (by omega) (by omega)
    have i3 := hi 3 3 l_3 (by omega) (by omega)
    have i4 := hi 4 4 l_4 (by omega) (by omega)
    have nx : ∀ s : io_M, io_J (120 * i.toInt + 600) s → wl_L_law_18 L xs n s (i + 5) := by
      intro s hs
      refine ih s (i + 5) (by omega) (by omega) (by omega) ?_
      have e : 120 * (i + 5).toInt = 120 * i.toInt + 600 := by rw [e5]; omega
      rw [e]
      exact hs
    have n0 : ∀ s : io_M, io_J (120 * i.toInt) s → wl_L_law_18 L xs n s (i + 5) := fun s hs => nx s (hs.mono (by omega))
    have rn : ∀ s, io_J (120 * i.toInt) s → ∀ s', rZ (120 * i.toInt) s' → rK s s' → wl_L_law_18 L xs n s' (i + 5) := fun s h s' a b => n0 s' (h.r a (Int.le_refl _) b)
    refine ⟨i0, fun _ => ⟨i1, i2, sf_lay hJ.1 (fun r s hw hF => ⟨i1, i2, sz_lay (hJ.f0 hw hF).2.1 (fun r' s' hz hk => rn s (hJ.f0 hw hF) s' hz hk)⟩)⟩, fun _ => ⟨fun _ => ⟨i1, i2, fun _ => ?_, fun _ => ?_⟩, fun _ => ⟨fun _ => ?_, fun _ => ⟨fun _ => ⟨i1, sf_input hJ.1 (fun r s hw hF => ⟨i1, sz_input (hJ.fc hw hF).2.1 (fun r' s' hz hk => rn s (hJ.fc hw hF) s' hz hk)⟩)⟩, fun _ => ⟨fun _ => ?_, fun _ => ⟨fun _ => ?_, fun _ => ⟨fun _ => ⟨i1, sf_run hb hJ.1 (fun r s hw hF => ⟨i1, ?_⟩)⟩, fun _ => ⟨fun _ => sf_value (fun r => sz_value (fun r' => n0 _ hJ)), fun _ => ⟨fun _ => sf_where (fun r => sz_where (fun r' => n0 _ hJ)), fun _ => ⟨fun _ => sf_worked (fun r => sz_worked (fun r' => n0 _ hJ)), fun _ => ⟨fun _ => ⟨i1, sf_order (fun r => ⟨i1, sz_order hJ.2.1 (fun r' => n0 _ hJ)⟩)⟩, fun _ => ⟨fun _ => ⟨i1, i2, sf_handle hJ.1.1 (fun r => ⟨i1, i2, sz_handle hJ.2.1 (fun r' => n0 _ hJ)⟩)⟩, fun _ => ⟨fun _ => ⟨i1, i2, sf_content hJ.1.1 (fun r => ⟨i1, i2, sz_content hJ.2.1 (fun r' => n0 _ hJ)⟩)⟩, fun _ => ⟨fun _ => ⟨i1, sf_size hJ.1.1 (fun r => ⟨i1, sz_size (fun r' => n0 _ hJ)⟩)⟩, fun _ => ⟨fun _ => ⟨i1, sf_printed (fun r => ⟨i1, sz_printed hJ.2.1 (fun r' => n0 _ hJ)⟩)⟩, fun _ => ⟨fun _ => ⟨i1, sf_told (fun r => ⟨i1, sz_told (fun r' => n0 _ hJ)⟩)⟩, fun _ => n0 _ hJ⟩⟩⟩⟩⟩⟩⟩⟩⟩⟩⟩⟩⟩⟩⟩⟩
    · exact sf_there hJ.1 (fun r s hw hF => ⟨i1, i2, fun _ => sz_there (hJ.f0 hw hF).2.1 (fun r' s' hz hk => rn s (hJ.f0 hw hF) s' hz hk), fun _ => sz_there (hJ.f0 hw hF).2.1 (fun r' s' hz hk => rn s (hJ.f0 hw hF) s' hz hk)⟩)
    · exact sf_there hJ.1 (fun r s hw hF => ⟨i1, i2, fun _ => sz_there (hJ.f0 hw hF).2.1 (fun r' s' hz hk => rn s (hJ.f0 hw hF) s' hz hk), fun _ => sz_there (hJ.f0 hw hF).2.1 (fun r' s' hz hk => rn s (hJ.f0 hw hF) s' hz hk)⟩)
    · exact ⟨i1, i2, pj_permit i1 i2 hJ (fun r s h => n0 s h)⟩
    · exact ⟨i1, i2, i3, i4, pj_node i1 i2 i3 i4 hJ (fun r s h => n0 s h)⟩
    · exact pj_clear hb.1 hJ (fun r s h => ⟨fun _ => n0 s h, fun q => q rfl⟩)
    · have hJ2 : io_J (120 * i.toInt + 600) s := hJ.fr hw (by omega) hF
      have hz : rZ (120 * i.toInt) s := hJ.2.1.of (fun k q => hF.2.2 k (by omega))
      exact sz_run hb hz (fun r' s' hz2 hk => nx s' (hJ2.r hz2 (Int.le_refl _) hk))
theorem io_pure (L : Nat) (xs : Nat → Int32) (hL : L ≤ 2560) (fp fm : Nat → Int32) (hp : ∀ j, j < 8 → fp j = 3) (hm : ∀ j, j < 8 → fm j = 3) : ∃ n, wl_L_law_18 L xs n (io_s0 fp fm) 0 := by
  have z0 := l_0
  exact ⟨514, io_law L xs hL 514 _ 0 (by omega) (by omega) (by omega) (by rw [z0]; exact io_J0 fp fm hp hm)⟩
