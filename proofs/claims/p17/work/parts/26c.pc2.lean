/-- opening a handle, beginning a list: their counts too -/
def io_F3 (σ σ' : io_M) : Prop := σ' 90 = σ 90 ∧ ∀ k, 92 ≤ k → k ≠ 101 → k ≠ 103 → σ' k = σ k
theorem io_F3.rf {σ : io_M} : io_F3 σ σ := ⟨rfl, fun _ _ _ _ => rfl⟩
theorem io_F3.tr {a b c : io_M} (h : io_F3 a b) (g : io_F3 b c) : io_F3 a c := ⟨g.1.trans h.1, fun k h1 h2 h3 => (g.2 k h1 h2 h3).trans (h.2 k h1 h2 h3)⟩
theorem io_F1.to3 {a b : io_M} (h : io_F1 a b) : io_F3 a b := ⟨h.1, fun k h1 _ _ => h.2 k h1⟩
theorem io_F2.to3 {a b : io_M} (h : io_F2 a b) : io_F3 a b := h.to1.to3
theorem io_F0.to3 {a b : io_M} (h : io_F0 a b) : io_F3 a b := h.to1.to3
theorem io_F3.up {σ σ' : io_M} (h : io_F3 σ σ') {k j : Nat} {v : Int32} (hk : k < 90 ∨ k = 91 ∨ k = 101 ∨ k = 103) : io_F3 σ (io_up σ' k j v) := ⟨by rw [pu_ne (by omega)]; exact h.1, fun z h1 h2 h3 => by rw [pu_ne (by omega)]; exact h.2 z h1 h2 h3⟩
section PE
variable {σ : io_M} {f v p x : Int32} {post : Int32 → io_M → Prop} {pv : io_M → Prop} {po : Option Nat → io_M → Prop} {h j : Nat}
theorem sp_grow (hj : j < 20) (hC : io_CI σ) (hp : ∀ r σ', io_CI σ' → io_F1 σ σ' → (σ (40 + j) 2).toInt ≤ (σ' (40 + j) 2).toInt → post r σ') : wp_X5_grow σ j post := by
  have hs := CI_s hC hj
  have hl := CI_l hC hj
  have z := l_0
  have z4 := l_40
  refine ⟨fun _ => hp _ _ hC io_F1.rf (Int.le_refl _), fun c => ?_⟩
  have hc := pz_nlt c
  have h20 : (σ (40 + j) 1).toNatClampNeg < 20 := by rw [pz_cl]; omega
  have k0 : post 0 σ := hp _ _ hC io_F1.rf (Int.le_refl _)
  refine ⟨h20, fun _ => ⟨fun q => absurd q (by decide), fun _ => ⟨fun c2 => absurd c2 c, fun _ => ⟨h20, sp_nextByte h20 hC (fun r s hC' hF' => ?_)⟩⟩⟩, fun _ => ⟨fun _ => k0, fun q => absurd rfl q⟩⟩
  have e : s (40 + j) = σ (40 + j) := hF'.2.1 _ (by omega) (by omega)
  have hend : (s (40 + j) 1 < 0 → False) ∧ (¬ (s (40 + j) 1 < 0) → (s (40 + j) 1).toNatClampNeg < 20 ∧ (wp_X2_endReading s ((s (40 + j) 1).toNatClampNeg) (fun s16 => post 0 s16))) := by
    rw [e]
    refine ⟨c, fun _ => ⟨h20, fun s2 e2 => ?_⟩⟩
    subst e2
    refine hp _ _ (hC'.up (ok_H h20 (fun q => by omega) (fun q => by omega))) (hF'.to1.up (Or.inl (by omega))) ?_
    rw [pu_ne (by omega), e]
    exact Int.le_refl _
  refine ⟨fun _ => hend, fun _ => ⟨fun d => ⟨pz_in.mpr ⟨?_, ?_⟩, fun s1 e1 s2 e2 => ?_⟩, fun _ => hend⟩⟩
  · rw [e]; exact hl.1
  · have := pz_lt.mp d
    show (s (40 + j) 2).toInt < 40
    omega
  · subst e2; subst e1
    have hd := pz_lt.mp d
    rw [e] at hd
    have e3 : (io_up s (20 + (40 + j)) ((s (40 + j) 2)).toNatClampNeg r) (40 + j) = σ (40 + j) := by rw [pu_ne (by omega), e]
    refine hp _ _ ((hC'.up (ok_I hj)).up (ok_L hj (fun q => by omega) (fun _ => ?_))) ((hF'.to1.up (Or.inl (by omega))).up (Or.inl (by omega))) ?_
    · rw [e3, pz_1 (by omega)]; omega
    · rw [pu_self, e3, pz_1 (by omega)]; omega
theorem sp_reachL {σ0 : io_M} {x2 x3 : Int32} (hj : j < 20) (h2 : 0 ≤ x2.toInt) (h3 : x3.toInt ≤ 40) (hp : ∀ r σ', io_CI σ' → io_F1 σ0 σ' → 0 ≤ r.toInt → r.toInt ≤ 40 → post r σ') : ∀ (n : Nat) (σ : io_M) (x4 x5 : Int32), io_CI σ → io_F1 σ0 σ → x2.toInt ≤ (σ (40 + j) 2).toInt → 0 ≤ x5.toInt → x5.toInt ≤ 41 → 41 - x5.toInt < n → wl_X5_reach_18 n j σ x2 x3 x4 x5 post := by
  intro n
  induction n with
  | zero => intro σ x4 x5 _ _ _ _ h5 h6; exact absurd h6 (by omega)
  | succ n ih =>
    intro σ x4 x5 hC hF hx h0 h5 h6
    have hl := CI_l hC hj
    have e1 : ((σ (40 + j) 2) - x2).toInt = (σ (40 + j) 2).toInt - x2.toInt := pz_sub (by omega)
    have hend : post ((σ (40 + j) 2) - x2) σ := hp _ _ hC hF (by omega) (by omega)
    unfold wl_X5_reach_18
    refine ⟨fun _ => hend, fun _ => ⟨fun _ => hend, fun c => sp_grow hj hC (fun r s hC' hF' hm => ?_)⟩⟩
    have hc := pz_nlt c
    have e2 := pz_1 (x := x5) (by omega)
    exact ih _ _ _ hC' (hF.tr hF') (by omega) (by omega) (by omega) (by omega)
theorem sp_reach (hj : j < 20) (hC : io_CI σ) (hp : ∀ r σ', io_CI σ' → io_F1 σ σ' → 0 ≤ r.toInt → r.toInt ≤ 40 → post r σ') : wp_X5_reach σ j p post := by
  have hl := CI_l hC hj
  have z := l_40
  refine ⟨42, sp_reachL hj hl.1 ?_ hp 42 σ 1 _ hC io_F1.rf (Int.le_refl _) hl.1 (by omega) (by omega)⟩
  by_cases c : 40 < p
  · rw [if_pos c]; omega
  · rw [if_neg c]
    have := pz_nlt c
    omega
theorem sp_item (hj : j < 20) (hC : io_CI σ) (hp : ∀ r, post r σ) : wp_X5_item σ j p post := by
  have hl := CI_l hC hj
  refine sp_within (fun _ => ⟨fun _ => hp _, fun c => absurd rfl c⟩) (fun q => ⟨fun c => absurd c (by decide), fun _ => ⟨pz_in.mpr ⟨q.1, ?_⟩, hp _⟩⟩)
  show p.toInt < 40
  omega
theorem sp_isHeldL (hC : io_CI σ) (hp : ∀ r, post r σ) : ∀ (n : Nat) (x3 : Int32), 0 ≤ x3.toInt → x3.toInt ≤ 20 → 20 - x3.toInt < n → wl_X3_isHeld_2 n σ f x x3 post := by
  intro n
  have hc := CI_hc hC
  induction n with
  | zero => intro x3 _ h1 h2; exact absurd h2 (by omega)
  | succ n ih =>
    intro x3 h0 h1 h2
    unfold wl_X3_isHeld_2
    refine ⟨fun _ => hp _, fun c => ?_⟩
    have hn := pz_nle c
    have hi : vp_in x3 20 := pz_in.mpr ⟨h0, by show x3.toInt < 20; omega⟩
    have e2 := pz_1 (x := x3) (by omega)
    have go : wl_X3_isHeld_2 n σ f x (x3 + 1) post := ih _ (by omega) (by omega) (by omega)
    have no : ((0 : Int32) = 0 → wl_X3_isHeld_2 n σ f x (x3 + 1) post) ∧ (¬ ((0 : Int32) = 0) → (vp_in x3 20 ∧ (wp_X2_writes σ ((x3).toNatClampNeg) (fun r108 s109 => ((r108 = 0 → ((x = 0 → post 1 s109) ∧ (¬ (x = 0) → wl_X3_isHeld_2 n s109 f x (x3 + 1) post))) ∧ (¬ (r108 = 0) → post 1 s109)))))) := ⟨fun _ => go, fun q => absurd rfl q⟩
    refine ⟨hi, fun _ => no, fun _ => ⟨fun _ => ⟨fun q => absurd q (by decide), fun _ => ⟨hi, fun _ => ⟨fun _ => ⟨fun _ => hp _, fun _ => go⟩, fun q => absurd rfl q⟩, fun _ => ⟨fun q => absurd q (by decide), fun _ => hp _⟩⟩⟩, fun _ => no⟩⟩
theorem sp_isHeld (hC : io_CI σ) (hp : ∀ r, post r σ) : wp_X3_isHeld σ f x post := ⟨21, sp_isHeldL hC hp 21 0 (by rw [l_0]; omega) (by rw [l_0]; omega) (by rw [l_0]; omega)⟩
theorem sp_grants (hf : 0 ≤ f.toInt ∧ f.toInt < 8) (hp : ∀ r, post r σ) : wp_X1_grants σ f x post := ⟨pz_in (n := 8).mpr hf, fun _ => hp _, fun _ => hp _⟩
theorem sp_isThere (hC : io_CI σ) (hf : 0 ≤ f.toInt ∧ f.toInt < 8) (hp : ∀ r, post r σ) : wp_X1_isThere σ f post := ⟨pz_in (n := 8).mpr hf, CI_89 hC _, hp _⟩
theorem sp_mayTake (hp : ∀ r, post r σ) : wp_X9_mayTake σ f post := ⟨fun _ => hp _, fun _ => ⟨fun _ => hp _, fun _ => hp _⟩⟩
theorem sp_ro81 (hC : io_CI σ) (hp : ∀ r, (r = 0 → (σ 101 2).toInt < 20) → post r σ) : wj_X3_refusalToOpen_81 σ x f post :=
  sp_isHeld hC (fun r => ⟨fun _ => ⟨fun c => hp _ (fun _ => by have := pz_lt.mp c; rw [l_20] at this; exact this), fun _ => hp _ (fun q => absurd q (by decide))⟩, fun _ => hp _ (fun q => absurd q (by decide))⟩)
theorem sp_ro70 (hC : io_CI σ) (hp : ∀ r, (r = 0 → (σ 101 2).toInt < 20) → post r σ) : wj_X3_refusalToOpen_70 σ f x post := ⟨fun _ => sp_ro81 hC hp, fun _ => sp_ro81 hC hp⟩
theorem sp_ro49 (hC : io_CI σ) (hf : 0 ≤ f.toInt ∧ f.toInt < 8) (hp : ∀ r, (r = 0 → (σ 101 2).toInt < 20) → post r σ) : wj_X3_refusalToOpen_49 σ f x post := ⟨fun _ => sp_ro70 hC hp, fun _ => sp_grants hf (fun r => ⟨fun _ => hp _ (fun q => absurd q (by decide)), fun _ => sp_ro70 hC hp⟩)⟩
theorem sp_ro30 (hC : io_CI σ) (hf : 0 ≤ f.toInt ∧ f.toInt < 8) (hp : ∀ r, (r = 0 → (σ 101 2).toInt < 20) → post r σ) : wj_X3_refusalToOpen_30 σ f x v post := sp_mayTake (fun r => ⟨fun _ => sp_ro49 hC hf hp, fun _ => sp_grants hf (fun r => ⟨fun _ => hp _ (fun q => absurd q (by decide)), fun _ => sp_ro49 hC hf hp⟩)⟩)
theorem sp_ro9 (hC : io_CI σ) (hf : 0 ≤ f.toInt ∧ f.toInt < 8) (hp : ∀ r, (r = 0 → (σ 101 2).toInt < 20) → post r σ) : wj_X3_refusalToOpen_9 σ f x v post := ⟨fun _ => sp_isThere hC hf (fun r => ⟨fun _ => hp _ (fun q => absurd q (by decide)), fun _ => sp_ro30 hC hf hp⟩), fun _ => sp_ro30 hC hf hp⟩
theorem sp_refusalToOpen (hC : io_CI σ) (hf : 0 ≤ f.toInt ∧ f.toInt < 8) (hp : ∀ r, (r = 0 → (σ 101 2).toInt < 20) → post r σ) : wp_X3_refusalToOpen σ f x post := ⟨fun _ => sp_ro9 hC hf hp, fun _ => sp_ro9 hC hf hp⟩
theorem ok_101 {v : Int32} (h : 0 ≤ v.toInt ∧ v.toInt ≤ 20) : io_ok 101 2 v := fun _ => h
theorem ok_103 {v : Int32} (h : 0 ≤ v.toInt ∧ v.toInt ≤ 20) : io_ok 103 1 v := fun _ => h
theorem sp_hbegin (hh : h < 20) (hC : io_CI σ) (hf : 0 ≤ f.toInt ∧ f.toInt < 8) (hp : ∀ σ', io_CI σ' → io_F2 σ σ' → pv σ') : wp_X2_begin σ h f x pv := by
  have z := l_0
  have g : ∀ (j : Nat) (v : Int32), j ≠ 2 → j ≠ 4 → io_ok h j v := fun j v h2 h4 => ok_H hh (fun q => absurd q h2) (fun q => absurd q h4)
  have key : ∀ (s : io_M) (y : Int32), io_CI s → io_F2 σ s → wj_X2_begin_28 h s y pv := by
    intro s y hC' hF' s1 e1 s2 e2 s3 e3 s4 e4 s5 e5 s6 e6 s7 e7
    subst e7; subst e6; subst e5; subst e4; subst e3; subst e2; subst e1
    exact hp _ (((((((hC'.up (g 6 _ (by decide) (by decide))).up (g 7 _ (by decide) (by decide))).up (g 3 _ (by decide) (by decide))).up (ok_H hh (fun _ => by omega) (fun q => by omega))).up (g 8 _ (by decide) (by decide))).up (g 9 _ (by decide) (by decide))).up (g 10 _ (by decide) (by decide))) (((((((hF'.up (Or.inl (by omega))).up (Or.inl (by omega))).up (Or.inl (by omega))).up (Or.inl (by omega))).up (Or.inl (by omega))).up (Or.inl (by omega))).up (Or.inl (by omega)))
  intro s1 e1 s2 e2
  subst e2; subst e1
  have hC2 := (hC.up (k := h) (j := 4) (v := f) (ok_H hh (fun q => by omega) (fun _ => by omega))).up (k := h) (j := 5) (v := x) (g 5 _ (by decide) (by decide))
  have hF2 := ((io_F2.rf (σ := σ)).up (k := h) (j := 4) (v := f) (Or.inl (by omega))).up (k := h) (j := 5) (v := x) (Or.inl (by omega))
  exact ⟨fun _ => sp_lengthOf hC2 hf (fun r _ => key _ _ hC2 hF2), fun _ => key _ _ hC2 hF2⟩
theorem sp_open (hC : io_CI σ) (hf : 0 ≤ f.toInt ∧ f.toInt < 8) (hp : ∀ r σ', io_CI σ' → io_F3 σ σ' → post r σ') : wp_X3_open σ f x post := by
  have hi := pz_in (n := 8).mpr hf
  have hcc := CI_hc hC
  refine sp_refusalToOpen hC hf (fun r hr => ⟨fun c => ⟨hi, fun s1 e1 => ?_⟩, fun _ => hp _ _ hC io_F3.rf⟩)
  have h20 := hr c
  have key : ∀ s : io_M, io_CI s → io_F3 σ s → s 101 = σ 101 → wj_X3_open_34 s f x post := by
    intro s hC' hF' e
    have hv : vp_in (s 101 2) 20 := pz_in.mpr (by rw [e]; exact ⟨hcc.1, h20⟩)
    refine ⟨hv, sp_hbegin (io_lt hv) hC' hf (fun s2 hC2 hF2 s3 e3 => ?_)⟩
    subst e3
    have e2 : s2 101 = σ 101 := (hF2.2.2 101 (by omega)).trans e
    exact hp _ _ (hC2.up (ok_101 (by rw [e2, pz_1 (by omega)]; omega))) ((hF'.tr hF2.to3).up (by omega))
  subst e1
  have hC1 : io_CI (io_up σ 89 f.toNatClampNeg (vp_nar .boolean 1)) := hC.up (ok_89 (by rw [vz_1]; exact Or.inr rfl))
  have hF1 : io_F3 σ (io_up σ 89 f.toNatClampNeg (vp_nar .boolean 1)) := io_F3.rf.up (by omega)
  refine ⟨fun _ => ⟨hi, fun s2 e2 => ⟨hi, fun s3 e3 => ?_⟩⟩, fun _ => key _ hC1 hF1 (by rw [pu_ne (by decide)])⟩
  subst e3; subst e2
  refine key _ ((hC1.up ok_88).up (ok_91 (by rw [l_0]; omega))) ((hF1.up (by omega)).up (by omega)) ?_
  rw [pu_ne (by decide), pu_ne (by decide), pu_ne (by decide)]
theorem sp_refusalToMove (hC : io_CI σ) (hf : 0 ≤ f.toInt ∧ f.toInt < 8) (hg : 0 ≤ x.toInt ∧ x.toInt < 8) (hp : ∀ r, post r σ) : wp_X3_refusalToMove σ f x post :=
  sp_isThere hC hf (fun r => ⟨fun _ => hp _, fun _ => sp_grants hf (fun r => ⟨fun _ => hp _, fun _ => sp_grants hg (fun r => ⟨fun _ => hp _, fun _ => sp_isHeld hC (fun r => ⟨fun _ => sp_isHeld hC (fun r => ⟨fun _ => hp _, fun _ => hp _⟩), fun _ => hp _⟩)⟩)⟩)⟩)
theorem sp_removeFile (hC : io_CI σ) (hf : 0 ≤ f.toInt ∧ f.toInt < 8) (hp : ∀ r σ', io_CI σ' → io_F3 σ σ' → post r σ') : wp_X3_removeFile σ f post := by
  have hi := pz_in (n := 8).mpr hf
  refine sp_refusalToMove hC hf hf (fun r => ⟨fun _ => ⟨hi, fun s1 e1 => ⟨hi, fun s2 e2 => ⟨hi, fun s3 e3 => ?_⟩⟩⟩, fun _ => hp _ _ hC io_F3.rf⟩)
  subst e3; subst e2; subst e1
  exact hp _ _ (((hC.up ok_88).up (ok_91 (by rw [l_0]; omega))).up (ok_89 (by rw [vz_0]; exact Or.inl rfl))) (((io_F3.rf.up (by omega)).up (by omega)).up (by omega))
theorem CI_row {σ : io_M} (h : io_CI σ) {k : Nat} (hk : k < 8) (r : Nat → Int32) : io_CI (va_up σ (80 + k) r) := by
  intro k' j'
  unfold va_up
  by_cases e : k' = 80 + k
  · rw [if_pos e, e]; exact ok_R hk
  · rw [if_neg e]; exact h k' j'
theorem sp_renameFile (hC : io_CI σ) (hf : 0 ≤ f.toInt ∧ f.toInt < 8) (hg : 0 ≤ x.toInt ∧ x.toInt < 8) (hp : ∀ r σ', io_CI σ' → io_F3 σ σ' → post r σ') : wp_X3_renameFile σ f x post := by
  have hi := pz_in (n := 8).mpr hf
  have hj := pz_in (n := 8).mpr hg
  have hl := CI_91 hC f.toNatClampNeg
  have hn := pn_8 hg
  have z := l_0
  refine sp_refusalToMove hC hf hg (fun r => ⟨fun _ => ⟨fun _ => hp _ _ hC io_F3.rf, fun _ => ⟨hj, fun s1 e1 => ?_⟩⟩, fun _ => hp _ _ hC io_F3.rf⟩)
  subst e1
  have e2 : (io_up σ 88 4 (σ 88 4 - σ 91 x.toNatClampNeg)) 91 = σ 91 := by rw [pu_ne (by decide)]
  refine ⟨hi, hj, hi, ?_, ?_, fun s2 e3 => ⟨hi, hj, fun s3 e4 => ⟨hj, fun s4 e5 => ⟨hi, fun s5 e6 => ⟨hi, fun s6 e7 => ?_⟩⟩⟩⟩⟩
  · rw [e2]
    exact fun q => by have := pz_lt.mp q; omega
  · rw [e2, pz_cl]; omega
  · have hC2 : io_CI s2 := by rw [e3]; exact CI_row (hC.up ok_88) hn _
    have e91 : s2 91 = σ 91 := by rw [e3]; unfold va_up; rw [if_neg (by omega)]; exact e2
    have hF2 : io_F3 σ s2 := by
      rw [e3]
      refine ⟨?_, fun k h1 h2 h3 => ?_⟩
      · unfold va_up; rw [if_neg (by omega), pu_ne (by decide)]
      · unfold va_up; rw [if_neg (by omega), pu_ne (by omega)]
    subst e7; subst e6; subst e5; subst e4
    exact hp _ _ ((((hC2.up (ok_91 (by rw [e91]; exact hl))).up (ok_89 (by rw [vz_1]; exact Or.inr rfl))).up (ok_91 (by rw [l_0]; omega))).up (ok_89 (by rw [vz_0]; exact Or.inl rfl))) ((((hF2.up (by omega)).up (by omega)).up (by omega)).up (by omega))
theorem sp_lbegin (hh : h < 20) (hC : io_CI σ) (hp : ∀ r σ', io_CI σ' → io_F3 σ σ' → post r σ') : wp_X6_begin σ h post := by
  have hc := CI_lc hC
  have z := l_20
  have z0 := l_0
  have k0 : post ((-1) - 4) σ := hp _ _ hC io_F3.rf
  refine ⟨fun _ => k0, fun c => ⟨fun _ => ⟨fun _ s1 e1 => ⟨fun q => absurd q (by decide), fun _ => ?_⟩, fun _ => ⟨fun _ => k0, fun q => absurd rfl q⟩⟩, fun _ => ⟨fun _ => k0, fun q => absurd rfl q⟩⟩⟩
  have hn := pz_nle c
  subst e1
  have hC1 : io_CI (io_up σ h 7 1) := hC.up (ok_H hh (fun q => by omega) (fun q => by omega))
  have e : (io_up σ h 7 1) 103 = σ 103 := by rw [pu_ne (by omega)]
  have hv : vp_in ((io_up σ h 7 1) 103 1) 20 := pz_in.mpr (by rw [e]; exact ⟨hc.1, by show (σ 103 1).toInt < 20; omega⟩)
  refine ⟨hv, fun s2 e2 s3 e3 s4 e4 => ?_⟩
  have hj := io_lt hv
  have e3' : s3 103 = σ 103 := by rw [e3, pu_ne (by omega), e2, pu_ne (by omega), e]
  subst e4
  have hC3 : io_CI s3 := by
    rw [e3, e2]
    exact (hC1.up (ok_L hj (fun _ => by rw [pz_nI (by omega)]; omega) (fun q => by omega))).up (ok_L hj (fun q => by omega) (fun _ => by omega))
  have hF3 : io_F3 σ s3 := by
    rw [e3, e2]
    exact ((io_F3.rf.up (by omega)).up (by omega)).up (by omega)
  exact hp _ _ (hC3.up (ok_103 (by rw [e3', pz_1 (by omega)]; omega))) (hF3.up (by omega))
theorem sp_hpick (hC : io_CI σ) (h0 : po none σ) (h1 : ∀ i, i < 20 → po (some i) σ) : wp_X3_pick σ x po := by
  have hc := CI_hc hC
  refine sp_within (fun _ => ⟨fun _ => h0, fun c => absurd rfl c⟩) (fun q => ⟨fun c => absurd c (by decide), fun _ => ?_⟩)
  have hv : vp_in x 20 := pz_in.mpr ⟨q.1, by show x.toInt < 20; omega⟩
  exact ⟨hv, h1 _ (io_lt hv)⟩
theorem sp_lpick (hC : io_CI σ) (h0 : po none σ) (h1 : ∀ i, i < 20 → po (some i) σ) : wp_X6_pick σ x po := by
  have hc := CI_lc hC
  refine sp_within (fun _ => ⟨fun _ => h0, fun c => absurd rfl c⟩) (fun q => ⟨fun c => absurd c (by decide), fun _ => ?_⟩)
  have hv : vp_in x 20 := pz_in.mpr ⟨q.1, by show x.toInt < 20; omega⟩
  exact ⟨hv, h1 _ (io_lt hv)⟩
theorem sp_cbrL {σ0 : io_M} (hp : ∀ σ', io_CI σ' → io_F2 σ0 σ' → pv σ') : ∀ (n : Nat) (σ : io_M) (x : Int32), io_CI σ → io_F2 σ0 σ → 0 ≤ x.toInt → x.toInt ≤ 20 → 20 - x.toInt < n → wl_X3_closeBehindRun_2 n σ x pv := by
  intro n
  induction n with
  | zero => intro σ x _ _ _ h1 h2; exact absurd h2 (by omega)
  | succ n ih =>
    intro σ x hC hF h0 h1 h2
    have hc := CI_hc hC
    unfold wl_X3_closeBehindRun_2
    refine ⟨fun _ => hp _ hC hF, fun c => ?_⟩
    have hn := pz_nle c
    have hi : vp_in x 20 := pz_in.mpr ⟨h0, by show x.toInt < 20; omega⟩
    have e2 := pz_1 (x := x) (by omega)
    refine ⟨hi, fun _ => ⟨fun q => absurd q (by decide), fun _ => ⟨hi, sp_flush (io_lt hi) hC (fun r s hC' hF' => ih _ _ hC' (hF.tr hF') (by omega) (by omega) (by omega))⟩⟩, fun _ => ⟨fun _ => ih _ _ hC hF (by omega) (by omega) (by omega), fun q => absurd rfl q⟩⟩
theorem sp_cbr (hC : io_CI σ) (hp : ∀ σ', io_CI σ' → io_F2 σ σ' → pv σ') : wp_X3_closeBehindRun σ pv := ⟨21, sp_cbrL hp 21 σ 0 hC io_F2.rf (by rw [l_0]; omega) (by rw [l_0]; omega) (by rw [l_0]; omega)⟩
end PE
