theorem ru_ge {f : Nat → Int32} {p : Nat} {v : Int32} (h : (f p).toInt ≤ v.toInt) (j : Nat) : (f j).toInt ≤ (ru f p v j).toInt := by
  by_cases e : j = p
  · rw [e, ru_self]; exact h
  · rw [ru_ne e]; exact Int.le_refl _
/-- a handle goes on in its file, the file may grow -/
theorem rI_adv {e : Nat} {σ σ' : io_M} (hN f : Nat) (v q : Int32) (h : rI e σ) (hf : f = (σ 124 hN).toNatClampNeg) (h113 : σ' 113 = ru (σ 113) f v) (h126 : σ' 126 = ru (σ 126) hN q) (hk : ∀ k, (k = 122 ∨ k = 123 ∨ k = 124 ∨ k = 127 ∨ k = 129 ∨ k = 130 ∨ k = 135 ∨ k = 136) → σ' k = σ k) (h16 : σ' 111 16 = σ 111 16) (h28 : σ' 111 28 = σ 111 28) (hv : (σ 113 f).toInt ≤ v.toInt ∧ v.toInt ≤ 40) (hq : (σ 126 hN).toInt ≤ q.toInt ∧ q.toInt ≤ v.toInt) : rI e σ' := by
  obtain ⟨hD, hH, hL, hV⟩ := h
  unfold rI
  rw [h113, h126, hk 122 (by omega), hk 123 (by omega), hk 124 (by omega), hk 127 (by omega), hk 129 (by omega), hk 130 (by omega), hk 135 (by omega), hk 136 (by omega), h16, h28]
  refine ⟨fun j => ?_, ⟨hH.1, fun h hh => ?_⟩, ⟨hL.1, hL.2.1, fun l hl => ?_⟩, hV⟩
  · by_cases c : j = f
    · rw [c, ru_self]
      have := hD f
      omega
    · rw [ru_ne c]
      exact hD j
  · obtain ⟨g1, g2, g3, g4⟩ := hH.2 h hh
    have hb := ru_ge (f := σ 113) (p := f) (v := v) hv.1 (σ 124 h).toNatClampNeg
    have hp := ru_ge (f := σ 126) (p := hN) (v := q) hq.1 h
    refine ⟨g1, by omega, fun c => ?_, g4⟩
    have := g3 c
    by_cases d : h = hN
    · rw [d, ru_self, ← hf, ru_self]
      exact hq.2
    · rw [ru_ne d]
      omega
  · obtain ⟨g1, g2, g3, g4⟩ := hL.2.2 l hl
    have hp := ru_ge (f := σ 126) (p := hN) (v := q) hq.1 (σ 135 l).toNatClampNeg
    exact ⟨g1, g2, g3, fun c => by have := g4 c; omega⟩
theorem ru_id {f : Nat → Int32} {p : Nat} : ru f p (f p) = f := by
  funext j
  by_cases e : j = p
  · rw [e, ru_self]
  · rw [ru_ne e]
/-- what is waiting is gone, or has come -/
theorem rI_wait {e e' : Nat} {σ σ' : io_M} (hN : Nat) (v : Int32) (h : rI e σ) (h130 : σ' 130 = ru (σ 130) hN v) (hk : ∀ k, (k = 113 ∨ k = 122 ∨ k = 123 ∨ k = 124 ∨ k = 126 ∨ k = 127 ∨ k = 129 ∨ k = 135 ∨ k = 136) → σ' k = σ k) (h16 : σ' 111 16 = σ 111 16) (h28 : σ' 111 28 = σ 111 28) (he : e = e' ∨ e = hN) (hv : (hN : Int) < (σ 111 16).toInt → rw_c (hN = e') (σ 129 hN).toInt v.toInt) : rI e' σ' := by
  obtain ⟨hD, hH, hL, hV⟩ := h
  unfold rI
  rw [h130, hk 113 (by omega), hk 122 (by omega), hk 123 (by omega), hk 124 (by omega), hk 126 (by omega), hk 127 (by omega), hk 129 (by omega), hk 135 (by omega), hk 136 (by omega), h16, h28]
  refine ⟨hD, ⟨hH.1, fun h hh => ?_⟩, hL, hV⟩
  obtain ⟨g1, g2, g3, g4⟩ := hH.2 h hh
  refine ⟨g1, g2, g3, ?_⟩
  by_cases d : h = hN
  · subst d
    rw [ru_self]
    exact hv hh
  · rw [ru_ne d]
    refine ⟨g4.1, g4.2.1, fun q => g4.2.2 (fun t => ?_)⟩
    rcases he with z | z
    · exact q (t.trans z)
    · exact d (t.trans z)
section RB
variable {b0 : Int} {P : Nat} {m : Int} {σ0 σ : io_M} {p1 s v n x : Int32} {pv : io_M → Prop} {post : Int32 → io_M → Prop} {e : Nat}
def rfl_k (σ σ' : io_M) : Prop := ∀ k, k ≠ 113 → k ≠ 114 → k ≠ 126 → k ≠ 130 → k ≠ 134 → σ' k = σ k
theorem sr_flushGL {X : io_M → Prop} {σ1 : io_M} (hXu : ∀ (σ : io_M) (k j : Nat) (v : Int32), (k = 113 ∨ k = 114 ∨ k = 126 ∨ k = 130 ∨ k = 134) → X σ → X (io_up σ k j v)) (hp : ∀ r σ', io_bl r → rI 99 σ' ∧ X σ' → rfl_k σ1 σ' → σ' 130 p1.toNatClampNeg = 0 → post r σ') (hlt : 0 ≤ p1.toInt ∧ p1.toInt < (σ1 111 16).toInt) (hst : ¬ σ1 127 p1.toNatClampNeg = 2) (hw0 : ∀ j, j ≠ 130 → True) : ∀ (k : Nat) (σ : io_M) (x3 x4 : Int32), rI p1.toNatClampNeg σ → X σ → rfl_k σ1 σ → io_bl x3 → 0 ≤ x4.toInt → x4.toInt ≤ 21 → 21 - x4.toInt < k → wl_X10_flush_12 k σ p1 (σ1 124 p1.toNatClampNeg) x3 x4 post := by
  intro k
  have z0 := l_0
  have z40 := l_40
  induction k with
  | zero => intro σ x3 x4 _ _ _ _ _ h1 h2; exact absurd h2 (by omega)
  | succ k ih =>
    intro σ x3 x4 hI hX hk h3 h4 h5 h6
    have e111 : σ 111 = σ1 111 := hk 111 (by decide) (by decide) (by decide) (by decide) (by decide)
    have e124 : σ 124 = σ1 124 := hk 124 (by decide) (by decide) (by decide) (by decide) (by decide)
    have e127 : σ 127 = σ1 127 := hk 127 (by decide) (by decide) (by decide) (by decide) (by decide)
    have hn20 := hI.2.1.1
    have hcl := pz_cl p1
    have hlt' : ((p1.toNatClampNeg : Nat) : Int) < (σ 111 16).toInt := by rw [e111, hcl]; omega
    obtain ⟨⟨f1, f2⟩, g1, g2, gb, gw, gx⟩ := hI.2.1.2 p1.toNatClampNeg hlt'
    rw [e124] at f1 f2 g2
    have g2 := g2 (by rw [e127]; exact hst)
    have hi : vp_in p1 20 := pz_in.mpr ⟨hlt.1, by show p1.toInt < 20; rw [e111] at hn20; omega⟩
    have hi8 : vp_in (σ1 124 p1.toNatClampNeg) 8 := pz_in.mpr ⟨f1, by show (σ1 124 p1.toNatClampNeg).toInt < 8; omega⟩
    have hend : ∀ s502, s502 = io_up σ 130 p1.toNatClampNeg 0 → io_bl x3 ∧ post x3 s502 := by
      intro s e
      refine ⟨h3, hp _ _ h3 ⟨?_, ?_⟩ ?_ (by rw [e, pu_self])⟩
      · refine rI_wait (e := p1.toNatClampNeg) p1.toNatClampNeg 0 hI (by rw [e, pu_row]) (fun k hk => by rw [e, pu_ne (by omega)]) (by rw [e, pu_ne (by decide)]) (by rw [e, pu_ne (by decide)]) (Or.inr rfl) (fun _ => ⟨gb, by omega, fun _ => ⟨by omega, fun _ => by omega, fun _ => by omega⟩⟩)
      · rw [e]
        exact hXu _ _ _ _ (by omega) hX
      · intro k a b c d f
        rw [e, pu_ne d]
        exact hk k a b c d f
    unfold wl_X10_flush_12
    refine ⟨hi, fun _ => ⟨hi, hend⟩, fun c => ⟨fun _ => ⟨hi, hend⟩, fun c3 => ⟨hi, hi8, ?_⟩⟩⟩
    have hc := pz_nle c
    have e4 := pz_1 (x := x4) (by omega)
    have hD := hI.1 (σ1 124 p1.toNatClampNeg).toNatClampNeg
    -- bad: nothing more is laid
    have bad : ∀ x5, wj_X10_flush_78 (wl_X10_flush_12 k) σ p1 (σ1 124 p1.toNatClampNeg) x4 x5 post := by
      intro x5
      exact ⟨fun _ => ih σ 0 (x4 + 1) hI hX hk (Or.inl rfl) (by omega) (by omega) (by omega), fun q => absurd rfl q⟩
    have good : ∀ x5 : Int32, (x5 = 0 → (σ 126 p1.toNatClampNeg).toInt < (σ 113 (σ1 124 p1.toNatClampNeg).toNatClampNeg).toInt) → (¬ x5 = 0 → (σ 113 (σ1 124 p1.toNatClampNeg).toNatClampNeg).toInt < 40) → wj_X10_flush_74 (wl_X10_flush_12 k) σ p1 (σ1 124 p1.toNatClampNeg) x4 x5 post := by
      intro x5 hx0 hx1
      have hpl : (σ 126 p1.toNatClampNeg).toInt < 40 := by
        by_cases q : x5 = 0
        · have := hx0 q; omega
        · have := hx1 q; omega
      have e40 := pz_41 (x := σ1 124 p1.toNatClampNeg) (y := σ 126 p1.toNatClampNeg) (by omega) (by omega)
      have e20 := pz_21 (x := p1) (y := x4) (by rw [e111] at hn20; omega) (by omega)
      refine ⟨fun q => absurd q (by decide), fun _ => ⟨hi, pz_in.mpr ?_, pz_in.mpr ?_, fun s102 e102 => ⟨hi, hi, fun s104 e104 => ⟨fun c5 => ⟨hi8, hi8, fun s107 e107 => ⟨hi, hi, fun s109 e109 => ?_⟩⟩, fun c5 => ⟨hi8, hi8, fun s111 e111' => ⟨hi, hi, fun s113 e113 => ?_⟩⟩⟩⟩⟩⟩
      · rw [e20]; rw [e111] at hn20; show _ ∧ _ < (400 : Int); omega
      · rw [e40]; show _ ∧ _ < (320 : Int); omega
      · have r126 : s109 126 = ru (σ 126) p1.toNatClampNeg (σ 126 p1.toNatClampNeg + 1) := by rw [e109, pu_ne (by decide), e107, pu_ne (by decide), e104, pu_row, e102, pu_ne (by decide)]
        have r113 : s109 113 = ru (σ 113) (σ1 124 p1.toNatClampNeg).toNatClampNeg (σ 113 (σ1 124 p1.toNatClampNeg).toNatClampNeg) := by rw [e109, pu_ne (by decide), e107, pu_row, e104, pu_ne (by decide), e102, pu_ne (by decide)]
        have rk : ∀ k, k ≠ 113 → k ≠ 114 → k ≠ 126 → k ≠ 134 → s109 k = σ k := fun k a b c d => by rw [e109, pu_ne d, e107, pu_ne a, e104, pu_ne c, e102, pu_ne b]
        have ep := pz_1 (x := σ 126 p1.toNatClampNeg) (by omega)
        have := hx0 c5
        refine ih s109 1 (x4 + 1) (rI_adv p1.toNatClampNeg _ _ _ hI (by rw [e124]) r113 r126 (fun k hk => rk k (by omega) (by omega) (by omega) (by omega)) (by rw [rk 111 (by decide) (by decide) (by decide) (by decide)]) (by rw [rk 111 (by decide) (by decide) (by decide) (by decide)]) (by omega) (by omega)) ?_ (fun k a b c d f => (rk k a b c f).trans (hk k a b c d f)) (Or.inr rfl) (by omega) (by omega) (by omega)
        rw [e109, e107, e104, e102]
        exact hXu _ _ _ _ (by omega) (hXu _ _ _ _ (by omega) (hXu _ _ _ _ (by omega) (hXu _ _ _ _ (by omega) hX)))
      · have r126 : s113 126 = ru (σ 126) p1.toNatClampNeg (σ 126 p1.toNatClampNeg + 1) := by rw [e113, pu_ne (by decide), e111', pu_ne (by decide), e104, pu_row, e102, pu_ne (by decide)]
        have r113 : s113 113 = ru (σ 113) (σ1 124 p1.toNatClampNeg).toNatClampNeg (σ 113 (σ1 124 p1.toNatClampNeg).toNatClampNeg + 1) := by rw [e113, pu_ne (by decide), e111', pu_row, e104, pu_ne (by decide), e102, pu_ne (by decide)]
        have rk : ∀ k, k ≠ 113 → k ≠ 114 → k ≠ 126 → k ≠ 134 → s113 k = σ k := fun k a b c d => by rw [e113, pu_ne d, e111', pu_ne a, e104, pu_ne c, e102, pu_ne b]
        have ep := pz_1 (x := σ 126 p1.toNatClampNeg) (by omega)
        have eb := pz_1 (x := σ 113 (σ1 124 p1.toNatClampNeg).toNatClampNeg) (by omega)
        have := hx1 c5
        refine ih s113 1 (x4 + 1) (rI_adv p1.toNatClampNeg _ _ _ hI (by rw [e124]) r113 r126 (fun k hk => rk k (by omega) (by omega) (by omega) (by omega)) (by rw [rk 111 (by decide) (by decide) (by decide) (by decide)]) (by rw [rk 111 (by decide) (by decide) (by decide) (by decide)]) (by omega) (by omega)) ?_ (fun k a b c d f => (rk k a b c f).trans (hk k a b c d f)) (Or.inr rfl) (by omega) (by omega) (by omega)
        rw [e113, e111', e104, e102]
        exact hXu _ _ _ _ (by omega) (hXu _ _ _ _ (by omega) (hXu _ _ _ _ (by omega) (hXu _ _ _ _ (by omega) hX)))
    refine ⟨fun c1 => ⟨fun _ => good 0 (fun _ => pz_lt.mp c1) (fun q => absurd rfl q), fun q => absurd rfl q⟩, fun c1 => ⟨fun q => absurd q (by decide), fun _ => ⟨hi8, fun _ => bad 1, fun c2 => sr_allBytes (fun r => ⟨fun _ => bad 1, fun _ => good 1 (fun q => absurd q (by decide)) (fun _ => ?_)⟩)⟩⟩⟩
    have := pz_nle c2
    omega
theorem sr_flushG {X : io_M → Prop} (hXu : ∀ (σ : io_M) (k j : Nat) (v : Int32), (k = 113 ∨ k = 114 ∨ k = 126 ∨ k = 130 ∨ k = 134) → X σ → X (io_up σ k j v)) (hI : rI e σ) (hX : X σ) (he : e = 99 ∨ e = p1.toNatClampNeg) (hlt : 0 ≤ p1.toInt ∧ p1.toInt < (σ 111 16).toInt) (hst : ¬ σ 127 p1.toNatClampNeg = 2) (hp : ∀ r σ', io_bl r → rI 99 σ' ∧ X σ' → rfl_k σ σ' → σ' 130 p1.toNatClampNeg = 0 → post r σ') : wp_X10_flush σ p1 post := by
  have hn20 := hI.2.1.1
  have z0 := l_0
  have hI' : rI p1.toNatClampNeg σ := by
    obtain ⟨hD, hH, hL, hV⟩ := hI
    refine ⟨hD, ⟨hH.1, fun h hh => ?_⟩, hL, hV⟩
    obtain ⟨g1, g2, g3, g4, g5, g6⟩ := hH.2 h hh
    refine ⟨g1, g2, g3, g4, g5, fun q => g6 (fun t => ?_)⟩
    rcases he with z | z
    · omega
    · exact q (t.trans z)
  exact ⟨pz_in.mpr ⟨hlt.1, by show p1.toInt < 20; omega⟩, 22, sr_flushGL hXu hp hlt hst (fun _ _ => trivial) 22 σ 1 0 hI' hX (fun _ _ _ _ _ _ => rfl) (Or.inr rfl) (by omega) (by omega) (by omega)⟩
theorem sr_flush (hI : rI e σ) (hX : rX b0 P m σ0 σ) (he : e = 99 ∨ e = p1.toNatClampNeg) (hlt : 0 ≤ p1.toInt ∧ p1.toInt < (σ 111 16).toInt) (hst : ¬ σ 127 p1.toNatClampNeg = 2) (hp : ∀ r σ', io_bl r → rM b0 P m σ0 σ' → rfl_k σ σ' → σ' 130 p1.toNatClampNeg = 0 → post r σ') : wp_X10_flush σ p1 post :=
  sr_flushG (X := rX b0 P m σ0) (fun σ k j v hk h => rX_up h (by omega)) hI hX he hlt hst hp
end RB
