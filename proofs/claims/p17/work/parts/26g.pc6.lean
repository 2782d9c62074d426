theorem io_Sc.of' {σ σ' : io_M} (h : io_Sc σ) (hk : ∀ k, 96 ≤ k → k ≤ 100 → σ' k = σ k) : io_Sc σ' := by
  unfold io_Sc
  rw [hk 96 (by omega) (by omega), hk 97 (by omega) (by omega), hk 98 (by omega) (by omega), hk 99 (by omega) (by omega), hk 100 (by omega) (by omega)]
  exact h
section PF
variable {σ : io_M} {p1 p2 p3 p4 x : Int32} {post : Int32 → io_M → Prop} {pv : io_M → Prop} {b0 : Int}
theorem io_FI.mono {b1 : Int} (h : io_FI b0 σ) (hb : b0 ≤ b1) : io_FI b1 σ := ⟨h.1, h.2.1, h.2.2.1, Int.le_trans h.2.2.2 hb⟩
/-- after a doing on the disk alone -/
theorem io_FI.d {σ' : io_M} (h : io_FI b0 σ) (hC : io_CI σ') (hF : io_F0 σ σ') : io_FI b0 σ' := ⟨hC, h.2.1.of hF.to3.toR, by rw [hF.2.2 93 (by omega)]; exact h.2.2⟩
theorem sf_lay (hw : io_FI b0 σ) (hp : ∀ r σ', io_FI b0 σ' → io_F0 σ σ' → post r σ') : wp_X9_lay σ p1 p2 post := by
  have z : (8 : Int32).toInt = 8 := by decide
  have k0 : ∀ r, post r σ := fun r => hp _ _ hw io_F0.rf
  refine sp_within (fun _ => ⟨fun _ => k0 _, fun c => absurd rfl c⟩) (fun q => ⟨fun c => absurd c (by decide), fun _ => ?_⟩)
  rw [z] at q
  exact sp_within (fun _ => ⟨fun _ => k0 _, fun c => absurd rfl c⟩) (fun _ => ⟨fun c => absurd c (by decide), fun _ => sp_append hw.1 q (fun r s hC hF => ⟨fun _ => hp _ _ (hw.d hC hF) hF, fun _ => sp_lengthOf hC q (fun r _ => hp _ _ (hw.d hC hF) hF)⟩)⟩)
theorem sf_there28 {y : Int32} (hw : io_FI b0 σ) (hf : 0 ≤ p1.toInt ∧ p1.toInt < 8) (hp : ∀ r σ', io_FI b0 σ' → io_F0 σ σ' → post r σ') : wj_X9_there_28 σ p1 p2 y post := by
  have hi := pz_in (n := 8).mpr hf
  refine ⟨fun _ => ⟨hi, fun s1 e1 => ⟨hi, fun s2 e2 => ⟨hi, fun s3 e3 => ?_⟩⟩⟩, fun _ => ⟨hi, fun s1 e1 => ?_⟩⟩
  · subst e3; subst e2; subst e1
    have hF := (((io_F0.rf (σ := σ)).up (k := 88) (j := 4) (v := (σ 88 4) - (σ 91 (p1).toNatClampNeg)) (by omega)).up (k := 91) (j := p1.toNatClampNeg) (v := 0) (by omega)).up (k := 89) (j := p1.toNatClampNeg) (v := vp_nar .boolean 0) (by omega)
    exact hp _ _ (hw.d (((hw.1.up ok_88).up (ok_91 (by rw [l_0]; omega))).up (ok_89 (by rw [vz_0]; exact Or.inl rfl))) hF) hF
  · subst e1
    have hF := (io_F0.rf (σ := σ)).up (k := 89) (j := p1.toNatClampNeg) (v := vp_nar .boolean 1) (by omega)
    exact hp _ _ (hw.d (hw.1.up (ok_89 (by rw [vz_1]; exact Or.inr rfl))) hF) hF
theorem sf_there (hw : io_FI b0 σ) (hp : ∀ r σ', io_FI b0 σ' → io_F0 σ σ' → post r σ') : wp_X9_there σ p1 p2 post := by
  have z : (8 : Int32).toInt = 8 := by decide
  refine sp_within (fun _ => ⟨fun _ => hp _ _ hw io_F0.rf, fun c => absurd rfl c⟩) (fun q => ⟨fun c => absurd c (by decide), fun _ => ?_⟩)
  rw [z] at q
  exact sp_isThere hw.1 q (fun r => ⟨fun _ => sf_there28 hw q hp, fun _ => sf_there28 hw q hp⟩)
/-- permit: what it answers, what it leaves -/
theorem sf_permit (hw : io_FI b0 σ) (h0 : ¬ ((0 ≤ p1.toInt ∧ p1.toInt < 8) ∧ 0 ≤ p2.toInt ∧ p2.toInt < 4) → post (-2) σ) (h1 : (0 ≤ p1.toInt ∧ p1.toInt < 8) → 0 ≤ p2.toInt ∧ p2.toInt < 4 → io_FI b0 (io_up σ 90 p1.toNatClampNeg p2) → post (σ 90 p1.toNatClampNeg) (io_up σ 90 p1.toNatClampNeg p2)) : wp_X9_permit σ p1 p2 post := by
  have z : (8 : Int32).toInt = 8 := by decide
  have z4 := l_4
  refine sp_within (fun q => ⟨fun _ => h0 (fun g => q (by omega)), fun c => absurd rfl c⟩) (fun q => ⟨fun c => absurd c (by decide), fun _ => ?_⟩)
  rw [z] at q
  refine sp_within (fun q2 => ⟨fun _ => h0 (fun g => q2 (by omega)), fun c => absurd rfl c⟩) (fun q2 => ⟨fun c => absurd c (by decide), fun _ => ?_⟩)
  have hi := pz_in (n := 8).mpr q
  refine ⟨hi, hi, fun s e => ?_⟩
  subst e
  refine h1 q (by omega) ⟨hw.1.up ?_, hw.2.1.of' (fun k a b => by rw [pu_ne (by omega)]), by rw [pu_ne (k' := 93) (by decide)]; exact hw.2.2⟩
  unfold io_ok
  rw [if_neg (by decide), if_neg (by decide), if_neg (by decide), if_neg (by decide), if_neg (by decide), if_neg (by decide), if_neg (by decide), if_neg (by decide), if_neg (by decide)]
  trivial
theorem ok_93 {j : Nat} {v : Int32} (h2 : j = 2 → 0 ≤ v.toInt ∧ v.toInt ≤ 100) (h3 : j = 3 → 0 ≤ v.toInt ∧ v.toInt ≤ 100) : io_ok 93 j v := ⟨h2, h3⟩
/-- only the console changed -/
def io_Fc (σ σ' : io_M) : Prop := ∀ k, k < 93 ∨ 95 < k → σ' k = σ k
theorem ok_94 {k j : Nat} {v : Int32} (h : k = 94 ∨ k = 95) : io_ok k j v := by
  unfold io_ok
  rw [if_neg (by omega), if_neg (by omega), if_neg (by omega), if_neg (by omega), if_neg (by omega), if_neg (by omega), if_neg (by omega), if_neg (by omega), if_neg (by omega)]
  trivial
theorem sf_input (hw : io_FI b0 σ) (hp : ∀ r σ', io_FI b0 σ' → io_Fc σ σ' → post r σ') : wp_X9_input σ p1 post := by
  have z := l_100
  have h1 := CI_come hw.1
  have k0 : ∀ r, post r σ := fun r => hp _ _ hw (fun _ _ => rfl)
  refine sp_within (fun _ => ⟨fun _ => k0 _, fun c => absurd rfl c⟩) (fun q => ⟨fun c => absurd c (by decide), fun _ => ⟨fun c => ⟨pz_in.mpr ⟨h1.1, ?_⟩, fun s1 e1 s2 e2 => ⟨fun c => absurd c (by decide), fun _ => ?_⟩⟩, fun _ => ⟨fun _ => k0 _, fun c => absurd rfl c⟩⟩⟩)
  · have := pz_lt.mp c
    show (σ 93 2).toInt < 100
    omega
  · have hc := pz_lt.mp c
    subst e2; subst e1
    have e3 : (io_up σ 94 (σ 93 2).toNatClampNeg p1) 93 = σ 93 := by rw [pu_ne (by decide)]
    refine hp _ _ ⟨(hw.1.up (ok_94 (by omega))).up ⟨fun _ => by rw [e3, pz_1 (by omega)]; omega, fun q => by omega⟩, hw.2.1.of' (fun k a b => by rw [pu_ne (by omega), pu_ne (by omega)]), ?_⟩ (fun k hk => by rw [pu_ne (by omega), pu_ne (by omega)])
    rw [pu_same (by decide), e3]
    exact hw.2.2
theorem sp_fits (hS : 0 ≤ (σ 96 4).toInt) (h0 : ¬ nd_f p1 x (σ 96 4).toNatClampNeg → post 0 σ) (h1 : nd_f p1 x (σ 96 4).toNatClampNeg → post 1 σ) : wp_X7_fits σ p1 x post := by
  have ze : ((σ 96 4).toNatClampNeg : Int) = (σ 96 4).toInt := by rw [pz_cl]; omega
  refine ⟨fun c => h1 (Or.inl c), fun c => ⟨fun d => sp_within (fun q => ⟨fun _ => h0 (fun g => ?_), fun c => absurd rfl c⟩) (fun q => ⟨fun c => absurd c (by decide), fun _ => h1 (Or.inr (Or.inl ⟨d, q.1, by omega⟩))⟩), fun d => sp_within (fun q => ⟨fun _ => h0 (fun g => ?_), fun c => absurd rfl c⟩) (fun q => ⟨fun c => absurd c (by decide), fun _ => h1 (Or.inr (Or.inr ⟨c, d, q⟩))⟩)⟩⟩
  · rcases g with g | g | g
    · exact c g
    · exact q ⟨g.2.1, by omega⟩
    · exact g.2.1 d
  · rcases g with g | g | g
    · exact c g
    · exact d g.1
    · exact q g.2.2
theorem sp_allows (hS : 0 ≤ (σ 96 4).toInt) (hc : 0 ≤ p1.toInt ∧ p1.toInt < 29) (h0 : ¬ nd_ok p1 p2 p3 p4 (σ 96 4).toNatClampNeg → post 0 σ) (h1 : nd_ok p1 p2 p3 p4 (σ 96 4).toNatClampNeg → post 1 σ) : wp_X7_allows σ p1 p2 p3 p4 post := by
  have hi := pz_in (n := 29).mpr hc
  refine ⟨hi, sp_fits hS (fun g => ⟨fun _ => h0 (fun q => g q.2.2.1), fun c => absurd rfl c⟩) (fun g1 => ⟨fun c => absurd c (by decide), fun _ => ⟨hi, sp_fits hS (fun g => ⟨fun _ => h0 (fun q => g q.2.2.2.1), fun c => absurd rfl c⟩) (fun g2 => ⟨fun c => absurd c (by decide), fun _ => ⟨hi, sp_fits hS (fun g => ⟨fun _ => h0 (fun q => g q.2.2.2.2), fun c => absurd rfl c⟩) (fun g3 => ⟨fun c => absurd c (by decide), fun _ => h1 ⟨hc.1, by omega, g1, g2, g3⟩⟩)⟩⟩)⟩⟩)⟩
/-- only the script changed -/
def io_Fs (σ σ' : io_M) : Prop := ∀ k, k < 96 ∨ 100 < k → σ' k = σ k
theorem ok_s {k j : Nat} {v : Int32} (h : 96 ≤ k ∧ k ≤ 100) : io_ok k j v := by
  unfold io_ok
  rw [if_neg (by omega), if_neg (by omega), if_neg (by omega), if_neg (by omega), if_neg (by omega), if_neg (by omega), if_neg (by omega), if_neg (by omega), if_neg (by omega)]
  trivial
/-- node: what it answers, what it leaves -/
theorem sf_node (hw : io_FI b0 σ) (h0 : ¬ nd_ok p1 p2 p3 p4 (σ 96 4).toNatClampNeg → post (-2) σ) (h3 : nd_ok p1 p2 p3 p4 (σ 96 4).toNatClampNeg → 60 ≤ (σ 96 4).toInt → post (-3) σ) (h1 : nd_ok p1 p2 p3 p4 (σ 96 4).toNatClampNeg → (σ 96 4).toInt < 60 → ∀ r σ', io_FI b0 σ' → io_Fs σ σ' → r.toInt = (σ 96 4).toInt → (σ' 96 4).toInt = (σ 96 4).toInt + 1 → σ' 97 = va_up (σ 97) (σ 96 4).toNatClampNeg p1 → σ' 98 = va_up (σ 98) (σ 96 4).toNatClampNeg p2 → σ' 99 = va_up (σ 99) (σ 96 4).toNatClampNeg p3 → σ' 100 = va_up (σ 100) (σ 96 4).toNatClampNeg p4 → post r σ') : wp_X9_node σ p1 p2 p3 p4 post := by
  have hS := hw.2.1
  have z : (29 : Int32).toInt = 29 := by decide
  have z60 := l_60
  have z1 := l_1
  refine sp_within (fun q => ⟨fun _ => h0 (fun g => q ⟨g.1, by have := g.2.1; omega⟩), fun c => absurd rfl c⟩) (fun q => ⟨fun c => absurd c (by decide), fun _ => ?_⟩)
  rw [z] at q
  refine sp_allows hS.1 q (fun g => ⟨fun _ => h0 g, fun c => absurd rfl c⟩) (fun g => ⟨fun c => absurd c (by decide), fun _ => ⟨fun c => ?_, fun c => h3 g (by have := pz_nlt c; omega)⟩⟩)
  have hc := pz_lt.mp c
  rw [z60] at hc
  have hv : vp_in (σ 96 4) 60 := pz_in.mpr ⟨hS.1, hc⟩
  generalize hN : (σ 96 4).toNatClampNeg = N at *
  refine ⟨hv, fun s1 e1 => ?_⟩
  have a1 : s1 96 4 = σ 96 4 := by rw [e1, pu_ne (by decide)]
  refine ⟨by rw [a1]; exact hv, fun s2 e2 => ?_⟩
  have a2 : s2 96 4 = σ 96 4 := by rw [e2, pu_ne (by decide), a1]
  refine ⟨by rw [a2]; exact hv, fun s3 e3 => ?_⟩
  have a3 : s3 96 4 = σ 96 4 := by rw [e3, pu_ne (by decide), a2]
  refine ⟨by rw [a3]; exact hv, fun s4 e4 s5 e5 => ?_⟩
  have a4 : s4 96 4 = σ 96 4 := by rw [e4, pu_ne (by decide), a3]
  have a5 : s5 96 4 = σ 96 4 + 1 := by rw [e5, pu_self, a4]
  rw [a1, hN] at e2
  rw [a2, hN] at e3
  rw [a3, hN] at e4
  have b7 : s5 97 = va_up (σ 97) N p1 := by rw [e5, pu_ne (by decide), e4, pu_ne (by decide), e3, pu_ne (by decide), e2, pu_ne (by decide), e1]; unfold io_up va_up; rw [if_pos rfl]
  have b8 : s5 98 = va_up (σ 98) N p2 := by rw [e5, pu_ne (by decide), e4, pu_ne (by decide), e3, pu_ne (by decide), e2]; unfold io_up; rw [e1, pu_ne (by decide)]; unfold va_up; rw [if_pos rfl]
  have b9 : s5 99 = va_up (σ 99) N p3 := by rw [e5, pu_ne (by decide), e4, pu_ne (by decide), e3]; unfold io_up; rw [e2, pu_ne (by decide), e1, pu_ne (by decide)]; unfold va_up; rw [if_pos rfl]
  have b10 : s5 100 = va_up (σ 100) N p4 := by rw [e5, pu_ne (by decide), e4]; unfold io_up; rw [e3, pu_ne (by decide), e2, pu_ne (by decide), e1, pu_ne (by decide)]; unfold va_up; rw [if_pos rfl]
  have hFs : io_Fs σ s5 := fun k hk => by rw [e5, pu_ne (by omega), e4, pu_ne (by omega), e3, pu_ne (by omega), e2, pu_ne (by omega), e1, pu_ne (by omega)]
  have hl : (s5 96 4).toInt = (σ 96 4).toInt + 1 := by rw [a5, pz_1 (by omega)]
  have hNi : (N : Int) = (σ 96 4).toInt := by rw [← hN, pz_cl]; have := hS.1; omega
  refine h1 g hc _ s5 ⟨?_, ?_, ?_⟩ hFs ?_ hl b7 b8 b9 b10
  · rw [e5, e4, e3, e2, e1]
    exact ((((hw.1.up (ok_s (by omega))).up (ok_s (by omega))).up (ok_s (by omega))).up (ok_s (by omega))).up (ok_s (by omega))
  · refine ⟨by rw [hl]; have := hS.1; omega, by rw [hl]; omega, fun n hn => ?_⟩
    rw [hl] at hn
    rw [b7, b8, b9, b10]
    unfold va_up
    by_cases e : n = N
    · rw [if_pos e, if_pos e, if_pos e, if_pos e, e]
      exact g
    · rw [if_neg e, if_neg e, if_neg e, if_neg e]
      exact hS.2.2 n (by omega)
  · rw [hFs 93 (by omega)]
    exact hw.2.2
  · rw [pz_sub (by rw [hl, z1]; have := hS.1; omega), hl, z1]
    omega
theorem sf_clear (hw : io_FI b0 σ) (hb : 0 ≤ b0) (hp : ∀ σ', io_FI b0 σ' → (∀ k, k < 93 ∨ 100 < k → σ' k = σ k) → (σ' 96 4).toInt = 0 → post (σ 96 4) σ') : wp_X9_clear σ post := by
  intro s1 e1 s2 e2 s3 e3 s4 e4
  have z := l_0
  have hk : ∀ k, k ≠ 96 → k ≠ 93 → s4 k = σ k := fun k h1 h2 => by rw [e4, pu_ne h2, e3, pu_ne h2, e2, pu_ne h2, e1, pu_ne h1]
  have h96 : s4 96 4 = 0 := by rw [e4, pu_ne (by decide), e3, pu_ne (by decide), e2, pu_ne (by decide), e1, pu_self]
  refine hp _ ⟨?_, ⟨by rw [h96]; omega, by rw [h96]; omega, fun n hn => by rw [h96] at hn; omega⟩, ?_⟩ (fun k hk2 => hk k (by omega) (by omega)) (by rw [h96]; exact z)
  · rw [e4, e3, e2, e1]
    exact (((hw.1.up (ok_s (by omega))).up (ok_93 (fun _ => by omega) (fun q => by omega))).up (ok_93 (fun q => by omega) (fun _ => by omega))).up (ok_93 (fun q => by omega) (fun q => by omega))
  · rw [e4, pu_self]
    omega
theorem sf_run (hb : 0 ≤ b0 ∧ b0 ≤ 1000000) (hw : io_FI b0 σ) (hp : ∀ r σ', io_FI (b0 + 600) σ' → io_Fr σ σ' → post r σ') : wp_X9_run σ p1 post := by
  unfold wp_X9_run wp_X7_length
  exact sp_within (fun _ => ⟨fun _ => hp _ _ (hw.mono (by omega)) io_Fr.rf, fun c => absurd rfl c⟩) (fun q => ⟨fun c => absurd c (by decide), fun _ => sp_perform hb hw q hp⟩)
theorem sf_value (hp : ∀ r, post r σ) : wp_X9_value σ post := hp _
theorem sf_where (hp : ∀ r, post r σ) : wp_X9_where σ post := ⟨fun _ => hp _, fun _ => hp _⟩
theorem sf_worked (hp : ∀ r, post r σ) : wp_X9_worked σ post := hp _
theorem sf_order (hp : ∀ r, post r σ) : wp_X9_order σ p1 post := by
  unfold wp_X9_order wp_X4_entry
  have z := l_300
  refine sp_within (fun _ => ⟨fun _ => hp _, fun c => absurd rfl c⟩) (fun q => ⟨fun c => absurd c (by decide), fun _ => ⟨pz_in.mpr ⟨q.1, ?_⟩, hp _⟩⟩)
  show p1.toInt < 300
  have q2 := q.2
  by_cases c : 300 < σ 105 1
  · rw [if_pos c] at q2; omega
  · rw [if_neg c] at q2
    have := pz_nlt c
    omega
theorem sf_printed (hp : ∀ r, post r σ) : wp_X9_printed σ p1 post := by
  unfold wp_X9_printed wp_X0_printedByte
  have z := l_200
  refine sp_within (fun _ => ⟨fun _ => hp _, fun c => absurd rfl c⟩) (fun q => ⟨fun c => absurd c (by decide), fun _ => ⟨pz_in.mpr ⟨q.1, ?_⟩, hp _⟩⟩)
  show p1.toInt < 200
  have q2 := q.2
  by_cases c : 200 < σ 93 4
  · rw [if_pos c] at q2; omega
  · rw [if_neg c] at q2
    have := pz_nlt c
    omega
theorem sf_handle (hC : io_CI σ) (hp : ∀ r, post r σ) : wp_X9_handle σ p1 p2 post :=
  sp_within (fun _ => ⟨fun _ => hp _, fun c => absurd rfl c⟩) (fun q => ⟨fun c => absurd c (by decide), fun _ => sp_hpick hC ⟨fun _ => hp _, fun i q => (by cases q)⟩ (fun i hi => ⟨fun q => (by cases q), fun i2 q => ⟨fun _ => hp _, fun _ => ⟨fun _ => hp _, fun _ => ⟨fun _ => hp _, fun _ => ⟨fun _ => hp _, fun _ => ⟨fun _ => hp _, fun _ => hp _⟩⟩⟩⟩⟩⟩)⟩)
theorem sf_content (hC : io_CI σ) (hp : ∀ r, post r σ) : wp_X9_content σ p1 p2 post := by
  have z : (8 : Int32).toInt = 8 := by decide
  refine sp_within (fun _ => ⟨fun _ => hp _, fun c => absurd rfl c⟩) (fun q => ⟨fun c => absurd c (by decide), fun _ => sp_byteAt hC (by rw [z] at q; exact q) hp⟩)
theorem sf_size (hC : io_CI σ) (hp : ∀ r, post r σ) : wp_X9_size σ p1 post := by
  have z : (8 : Int32).toInt = 8 := by decide
  refine sp_within (fun _ => ⟨fun _ => hp _, fun c => absurd rfl c⟩) (fun q => ⟨fun c => absurd c (by decide), fun _ => ?_⟩)
  rw [z] at q
  exact sp_isThere hC q (fun r => ⟨fun _ => hp _, fun _ => sp_lengthOf hC q (fun r _ => hp _)⟩)
theorem sf_told (hp : ∀ r, post r σ) : wp_X9_told σ p1 post := ⟨fun _ => hp _, fun _ => ⟨fun _ => hp _, fun _ => ⟨fun _ => hp _, fun _ => ⟨fun _ => hp _, fun _ => ⟨fun _ => hp _, fun _ => ⟨fun _ => hp _, fun _ => ⟨fun _ => hp _, fun _ => hp _⟩⟩⟩⟩⟩⟩⟩
end PF
