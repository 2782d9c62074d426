theorem l_0 : (0 : Int32).toInt = 0 := by decide
theorem l_1 : (1 : Int32).toInt = 1 := by decide
theorem l_2 : (2 : Int32).toInt = 2 := by decide
theorem l_3 : (3 : Int32).toInt = 3 := by decide
theorem l_4 : (4 : Int32).toInt = 4 := by decide
theorem l_5 : (5 : Int32).toInt = 5 := by decide
theorem l_m1 : (-1 : Int32).toInt = -1 := by decide
theorem l_20 : (20 : Int32).toInt = 20 := by decide
theorem l_40 : (40 : Int32).toInt = 40 := by decide
theorem l_60 : (60 : Int32).toInt = 60 := by decide
theorem l_100 : (100 : Int32).toInt = 100 := by decide
theorem l_200 : (200 : Int32).toInt = 200 := by decide
theorem l_300 : (300 : Int32).toInt = 300 := by decide
theorem l_600 : (600 : Int32).toInt = 600 := by decide
theorem pn_8 {f : Int32} (hf : 0 ≤ f.toInt ∧ f.toInt < 8) : f.toNatClampNeg < 8 := by rw [pz_cl]; omega
theorem pn_20 {f : Int32} (hf : 0 ≤ f.toInt ∧ f.toInt < 20) : f.toNatClampNeg < 20 := by rw [pz_cl]; omega
/-- a doing of a handle: disk, handles and buffers alone -/
def io_F2 (σ σ' : io_M) : Prop := σ' 90 = σ 90 ∧ (∀ k, 40 ≤ k → k < 80 → σ' k = σ k) ∧ ∀ k, 92 ≤ k → σ' k = σ k
theorem io_F2.rf {σ : io_M} : io_F2 σ σ := ⟨rfl, fun _ _ _ => rfl, fun _ _ => rfl⟩
theorem io_F2.tr {a b c : io_M} (h : io_F2 a b) (g : io_F2 b c) : io_F2 a c := ⟨g.1.trans h.1, fun k hk hl => (g.2.1 k hk hl).trans (h.2.1 k hk hl), fun k hk => (g.2.2 k hk).trans (h.2.2 k hk)⟩
theorem io_F2.to1 {a b : io_M} (h : io_F2 a b) : io_F1 a b := ⟨h.1, h.2.2⟩
theorem io_F0.to2 {a b : io_M} (h : io_F0 a b) : io_F2 a b := ⟨h.1, fun k _ hl => h.2.1 k hl, h.2.2⟩
theorem io_F2.up {σ σ' : io_M} (h : io_F2 σ σ') {k j : Nat} {v : Int32} (hk : k < 40 ∨ (80 ≤ k ∧ k < 90) ∨ k = 91) : io_F2 σ (io_up σ' k j v) := ⟨by rw [pu_ne (by omega)]; exact h.1, fun z hz hl => by rw [pu_ne (by omega)]; exact h.2.1 z hz hl, fun z hz => by rw [pu_ne (by omega)]; exact h.2.2 z hz⟩
section PD
variable {σ : io_M} {f v p x : Int32} {post : Int32 → io_M → Prop} {pv : io_M → Prop} {h : Nat}
theorem sp_append (hC : io_CI σ) (hf : 0 ≤ f.toInt ∧ f.toInt < 8) (hp : ∀ r σ', io_CI σ' → io_F0 σ σ' → post r σ') : wp_X1_append σ f v post := by
  have hl := CI_91 hC f.toNatClampNeg
  have hn := pn_8 hf
  have hi := pz_in (n := 8).mpr hf
  have z := l_40
  refine ⟨hi, fun _ => hp _ _ hC io_F0.rf, fun c => ⟨fun d => ⟨hi, pz_in.mpr ⟨hl.1, ?_⟩, ?_⟩, fun _ => hp _ _ hC io_F0.rf⟩⟩
  · have := pz_nle c
    show (σ 91 f.toNatClampNeg).toInt < 40
    omega
  · intro s5 e5
    refine ⟨hi, fun s7 e7 s9 e9 => ⟨hi, fun s11 e11 => ?_⟩⟩
    subst e11; subst e9; subst e7; subst e5
    have := pz_nle c
    refine hp _ _ ((((hC.up (ok_R hn)).up (ok_91 ?_)).up ok_88).up (ok_89 (by rw [vz_1]; exact Or.inr rfl))) ((((io_F0.rf.up ?_).up ?_).up ?_).up ?_)
    · rw [pz_1 (by omega)]
      omega
    · exact Or.inl (by omega)
    · exact Or.inr rfl
    · exact Or.inl (by omega)
    · exact Or.inl (by omega)
theorem sp_write (hC : io_CI σ) (hf : 0 ≤ f.toInt ∧ f.toInt < 8) (hp : ∀ r σ', io_CI σ' → io_F0 σ σ' → post r σ') : wp_X1_write σ f p v post := by
  have hl := CI_91 hC f.toNatClampNeg
  have hn := pn_8 hf
  have hi := pz_in (n := 8).mpr hf
  refine ⟨hi, sp_within (fun _ => ⟨fun _ => sp_append hC hf (fun r s a b => hp r s a b), fun c => absurd rfl c⟩) (fun q => ⟨fun c => absurd c (by decide), fun _ => ⟨hi, pz_in.mpr ⟨q.1, ?_⟩, fun s e => ?_⟩⟩)⟩
  · show p.toInt < 40
    omega
  · subst e
    exact hp _ _ (hC.up (ok_R hn)) (io_F0.rf.up (Or.inl (by omega)))
theorem sp_fl62 {σ0 : io_M} (hh : h < 20) (hC : io_CI σ) (hF : io_F2 σ0 σ) (hp : ∀ r σ', io_CI σ' → io_F2 σ0 σ' → post r σ') : wj_X2_flush_62 h σ x post := by
  have z := l_0
  have hk2 : ∀ v : Int32, io_ok h 10 v := fun v => ok_H hh (fun q => by omega) (fun q => by omega)
  have hk3 : io_ok h 2 0 := ok_H hh (fun _ => by omega) (fun q => by omega)
  refine ⟨fun _ s1 e1 s2 e2 => ?_, fun _ s1 e1 s2 e2 => ?_⟩
  · subst e2; subst e1
    exact hp _ _ ((hC.up (hk2 _)).up hk3) ((hF.up (Or.inl (by omega))).up (Or.inl (by omega)))
  · subst e2; subst e1
    exact hp _ _ ((hC.up (hk2 _)).up hk3) ((hF.up (Or.inl (by omega))).up (Or.inl (by omega)))
theorem sp_flushL {σ0 : io_M} (hh : h < 20) (hp : ∀ r σ', io_CI σ' → io_F2 σ0 σ' → post r σ') : ∀ (n : Nat) (σ : io_M) (x : Int32), io_CI σ → io_F2 σ0 σ → 0 ≤ x.toInt → (σ h 2).toInt - x.toInt < n → x.toInt ≤ (σ h 2).toInt → wl_X2_flush_14 n h σ x post := by
  intro n
  induction n with
  | zero => intro σ x _ _ _ h1 h2; exact absurd h1 (by omega)
  | succ n ih =>
    intro σ x hC hF h0 h1 h2
    have hw := CI_w hC hh
    have hfl := CI_f hC hh
    unfold wl_X2_flush_14
    refine ⟨fun _ => sp_fl62 hh hC hF hp, fun c => ?_⟩
    have hc := pz_nle c
    refine ⟨pz_in.mpr ⟨h0, ?_⟩, sp_write hC ⟨hfl.1, by omega⟩ (fun r s hC' hF' => ⟨fun _ => sp_fl62 hh hC' (hF.tr hF'.to2) hp, fun _ s2 e2 => ?_⟩)⟩
    · show x.toInt < 20
      omega
    · subst e2
      have e3 : s h 2 = σ h 2 := by rw [hF'.2.1 h (by omega)]
      have e4 : (io_up s h 6 (s h 6 + 1)) h 2 = σ h 2 := by rw [pu_same (by decide), e3]
      have e5 := pz_1 (x := x) (by omega)
      refine ih _ _ (hC'.up (ok_H hh (fun q => by omega) (fun q => by omega))) ((hF.tr hF'.to2).up (Or.inl (by omega))) (by omega) ?_ ?_
      · rw [e4, e5]; omega
      · rw [e4, e5]; omega
theorem sp_flush (hh : h < 20) (hC : io_CI σ) (hp : ∀ r σ', io_CI σ' → io_F2 σ σ' → post r σ') : wp_X2_flush σ h post := by
  have hw := CI_w hC hh
  have z := l_0
  refine ⟨fun _ => ⟨21, sp_flushL hh hp 21 σ 0 hC io_F2.rf (by omega) (by omega) (by omega)⟩, fun _ => hp _ _ hC io_F2.rf⟩
theorem sp_byteAt (hC : io_CI σ) (hf : 0 ≤ f.toInt ∧ f.toInt < 8) (hp : ∀ r, post r σ) : wp_X1_byteAt σ f p post := by
  have hl := CI_91 hC f.toNatClampNeg
  have hi := pz_in (n := 8).mpr hf
  have z := l_0
  refine ⟨fun _ => hp _, fun c => ⟨hi, fun _ => hp _, fun d => ⟨hi, pz_in.mpr ⟨?_, ?_⟩, hp _⟩⟩⟩
  · have := pz_nlt c
    omega
  · have := pz_nle d
    show p.toInt < 40
    omega
theorem sp_nextByte (hh : h < 20) (hC : io_CI σ) (hp : ∀ r σ', io_CI σ' → io_F2 σ σ' → post r σ') : wp_X2_nextByte σ h post := by
  have hfl := CI_f hC hh
  refine sp_byteAt hC ⟨hfl.1, by omega⟩ (fun r => ⟨fun _ => hp _ _ hC io_F2.rf, fun _ s1 e1 s2 e2 => ?_⟩)
  subst e2; subst e1
  exact hp _ _ ((hC.up (ok_H hh (fun q => by omega) (fun q => by omega))).up (ok_H hh (fun q => by omega) (fun q => by omega))) ((io_F2.rf.up (Or.inl (by omega))).up (Or.inl (by omega)))
theorem sp_take (hh : h < 20) (hC : io_CI σ) (hp : ∀ r σ', io_CI σ' → io_F2 σ σ' → post r σ') : wp_X2_take σ h post := by
  have key : wp_X2_flush σ h (fun r6 s7 => ((r6 = 0 → (wp_X2_nextByte s7 h (fun r9 s10 => ((r9 = (-1) → (wp_X9_turned s10 3 (fun r12 s13 => post r12 s13))) ∧ (¬ (r9 = (-1)) → post r9 s10))))) ∧ (¬ (r6 = 0) → post r6 s7))) := sp_flush hh hC (fun r s hC' hF' => ⟨fun _ => sp_nextByte hh hC' (fun r2 s2 hC2 hF2 => ⟨fun _ => hp _ _ hC2 (hF'.tr hF2), fun _ => hp _ _ hC2 (hF'.tr hF2)⟩), fun _ => hp _ _ hC' hF'⟩)
  have k0 : post ((-1) - 4) σ := hp _ _ hC io_F2.rf
  refine ⟨fun _ => ⟨fun _ => k0, fun c => absurd rfl c⟩, fun _ => ⟨fun _ => ⟨fun _ => k0, fun c => absurd rfl c⟩, fun _ => ⟨fun c => absurd c (by decide), fun _ => key⟩⟩⟩
theorem sp_lengthOf (hC : io_CI σ) (hf : 0 ≤ f.toInt ∧ f.toInt < 8) (hp : ∀ r, 0 ≤ r.toInt ∧ r.toInt ≤ 40 → post r σ) : wp_X1_lengthOf σ f post := ⟨pz_in (n := 8).mpr hf, hp _ (CI_91 hC _)⟩
theorem sp_measure (hh : h < 20) (hC : io_CI σ) (hp : ∀ r σ', io_CI σ' → io_F2 σ σ' → post r σ') : wp_X2_measure σ h post :=
  sp_flush hh hC (fun r s hC' hF' => ⟨fun _ => sp_lengthOf hC' ⟨(CI_f hC' hh).1, by have := CI_f hC' hh; omega⟩ (fun r2 _ => hp _ _ hC' hF'), fun _ => hp _ _ hC' hF'⟩)
theorem sp_changeBuffer (hh : h < 20) (hC : io_CI σ) (hp : ∀ r σ', io_CI σ' → io_F2 σ σ' → post r σ') : wp_X2_changeBuffer σ h x post :=
  sp_flush hh hC (fun r s hC' hF' => ⟨fun _ s2 e2 => by subst e2; exact hp _ _ (hC'.up (ok_H hh (fun q => by omega) (fun q => by omega))) (hF'.up (Or.inl (by omega))), fun _ => hp _ _ hC' hF'⟩)
theorem sp_close (hh : h < 20) (hC : io_CI σ) (hp : ∀ r σ', io_CI σ' → io_F2 σ σ' → post r σ') : wp_X2_close σ h post :=
  ⟨fun _ => sp_flush hh hC (fun r s hC' hF' s2 e2 => by subst e2; exact hp _ _ (hC'.up (ok_H hh (fun q => by omega) (fun q => by omega))) (hF'.up (Or.inl (by omega)))), fun _ s2 e2 => by subst e2; exact hp _ _ (hC.up (ok_H hh (fun q => by omega) (fun q => by omega))) (io_F2.rf.up (Or.inl (by omega)))⟩
theorem sp_tellPlace (hp : ∀ r, post r σ) : wp_X2_tellPlace σ h post := ⟨fun _ => hp _, fun _ => hp _⟩
theorem sp_isDue (hp : ∀ r, post r σ) : wp_X2_isDue σ h x post := ⟨fun _ => ⟨fun _ => hp _, fun _ => ⟨fun _ => hp _, fun _ => hp _⟩⟩, fun _ => ⟨fun _ => hp _, fun _ => ⟨fun _ => hp _, fun _ => hp _⟩⟩⟩
theorem sp_put (hh : h < 20) (hC : io_CI σ) (hp : ∀ r σ', io_CI σ' → io_F2 σ σ' → post r σ') : wp_X2_put σ h x post := by
  have hw := CI_w hC hh
  have z := l_20
  have k0 : post ((-1) - 4) σ := hp _ _ hC io_F2.rf
  refine ⟨fun _ => ⟨fun _ => ⟨fun _ => k0, fun c => absurd rfl c⟩, fun _ => ⟨fun c => absurd c (by decide), fun _ => ⟨fun c => ⟨pz_in.mpr ⟨hw.1, ?_⟩, fun s1 e1 s2 e2 s3 e3 => ?_⟩, fun _ => k0⟩⟩⟩, fun _ => k0⟩
  · have := pz_lt.mp c
    show (σ h 2).toInt < 20
    omega
  · subst e3; subst e2; subst e1
    have hc := pz_lt.mp c
    have e4 : (io_up σ (20 + h) (σ h 2).toNatClampNeg (x &&& 255)) h 2 = σ h 2 := by rw [pu_ne (by omega)]
    have hC3 : io_CI (io_up (io_up (io_up σ (20 + h) (σ h 2).toNatClampNeg (x &&& 255)) h 2 ((io_up σ (20 + h) (σ h 2).toNatClampNeg (x &&& 255)) h 2 + 1)) h 8 ((io_up (io_up σ (20 + h) (σ h 2).toNatClampNeg (x &&& 255)) h 2 ((io_up σ (20 + h) (σ h 2).toNatClampNeg (x &&& 255)) h 2 + 1)) h 8 + 1)) :=
      ((hC.up (ok_B hh)).up (ok_H hh (fun _ => by rw [e4, pz_1 (by omega)]; omega) (fun q => by omega))).up (ok_H hh (fun q => by omega) (fun q => by omega))
    have hF3 := ((io_F2.rf (σ := σ)).up (k := 20 + h) (j := (σ h 2).toNatClampNeg) (v := (x &&& 255)) (Or.inl (by omega))).up (k := h) (j := 2) (v := (io_up σ (20 + h) (σ h 2).toNatClampNeg (x &&& 255)) h 2 + 1) (Or.inl (by omega))
    have hF4 := hF3.up (k := h) (j := 8) (v := (io_up (io_up σ (20 + h) (σ h 2).toNatClampNeg (x &&& 255)) h 2 ((io_up σ (20 + h) (σ h 2).toNatClampNeg (x &&& 255)) h 2 + 1)) h 8 + 1) (Or.inl (by omega))
    exact sp_isDue (fun r => ⟨fun _ => hp _ _ hC3 hF4, fun _ => sp_flush hh hC3 (fun r s a b => hp _ _ a (hF4.tr b))⟩)
theorem sp_seek (hh : h < 20) (hC : io_CI σ) (hp : ∀ r σ', io_CI σ' → io_F2 σ σ' → post r σ') : wp_X2_seek σ h x post :=
  sp_flush hh hC (fun r s hC' hF' => ⟨fun _ => ⟨fun _ => hp _ _ hC' hF', fun _ => ⟨fun _ => hp _ _ hC' hF', fun _ => sp_lengthOf hC' ⟨(CI_f hC' hh).1, by have := CI_f hC' hh; omega⟩ (fun r2 _ => ⟨fun _ s2 e2 => by subst e2; exact hp _ _ (hC'.up (ok_H hh (fun q => by omega) (fun q => by omega))) (hF'.up (Or.inl (by omega))), fun _ => hp _ _ hC' hF'⟩)⟩⟩, fun _ => hp _ _ hC' hF'⟩)
end PD
