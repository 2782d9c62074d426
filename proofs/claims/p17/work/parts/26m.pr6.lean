section RD
variable {b0 : Int} {P : Nat} {m : Int} {σ0 σ : io_M} {p1 p2 p3 p4 s v n x : Int32} {pv : io_M → Prop} {post : Int32 → io_M → Prop} {e : Nat}
theorem sr_isSort (h : rM b0 P m σ0 σ) (hm : 0 ≤ m) (h1 : σ 111 46 = x → post 1 σ) (h0 : ∀ s', rP b0 P σ0 s' → post 0 s') : wp_X10_isSort σ n x post := ⟨h1, fun _ => sr_fails h hm h0⟩
theorem sr_isOpen (h : rM b0 P m σ0 σ) (hm : 0 ≤ m) (hl : 0 ≤ x.toInt ∧ x.toInt < (σ 111 16).toInt) (h1 : σ 127 x.toNatClampNeg = 0 → post 1 σ) (h0 : ∀ s', rP b0 P σ0 s' → post 0 s') : wp_X10_isOpen σ n x post :=
  ⟨pz_in.mpr ⟨hl.1, by have := h.hn; show x.toInt < 20; omega⟩, h1, fun _ => sr_fails h hm h0⟩
theorem sr_close40 {y : Int32} (h : rM b0 P 1 σ0 σ) (hl : 0 ≤ p2.toInt ∧ p2.toInt < (σ 111 16).toInt) (hp : ∀ s', rP b0 P σ0 s' → pv s') : wj_X10_close_40 σ p1 p2 y pv := by
  have hn := h.hn
  refine ⟨pz_in.mpr ⟨hl.1, by show p2.toInt < 20; omega⟩, fun s1 e1 => ?_⟩
  have hM : rM b0 P (0 + 1) σ0 s1 := by
    refine ⟨rI_state p2.toNatClampNeg 2 h.1 (by rw [e1, pu_row]) (fun k q => by rw [e1, pu_ne (by omega)]) (by rw [e1, pu_ne (by decide)]) (by rw [e1, pu_ne (by decide)]) (by decide) (Or.inl rfl), ?_⟩
    rw [e1]
    exact rX_up (h.2.le (by omega)) (by omega)
  exact sr_note hM (by omega) (fun s9 h9 _ _ => ⟨fun _ => sr_fails h9 (by omega) hp, fun _ => sr_gives h9 (by omega) tv_0 hp⟩)
theorem sr_close (h : rM b0 P 41 σ0 σ) (hl : 0 ≤ p2.toInt ∧ p2.toInt < (σ 111 16).toInt) (hp : ∀ s', rP b0 P σ0 s' → pv s') : wp_X10_close σ p1 p2 pv := by
  have hn := h.hn
  have hi : vp_in p2 20 := pz_in.mpr ⟨hl.1, by show p2.toInt < 20; omega⟩
  have h1 : rM b0 P 1 σ0 σ := ⟨h.1, h.2.le (by omega)⟩
  refine ⟨hi, fun _ => sr_gives h (by omega) tv_0 hp, fun c => ⟨hi, fun _ => sr_close40 h1 hl hp, fun _ => sr_flush h1.1 h1.2 (Or.inl rfl) hl c (fun r s hb hM hk hz => ?_)⟩⟩
  have e16 : s 111 16 = σ 111 16 := by rw [hk 111 (by decide) (by decide) (by decide) (by decide) (by decide)]
  have hl' : 0 ≤ p2.toInt ∧ p2.toInt < (s 111 16).toInt := by rw [e16]; exact hl
  exact ⟨fun _ => sr_close40 hM hl' hp, fun _ => sr_close40 hM hl' hp⟩
theorem sr_take (h : rM b0 P 41 σ0 σ) (hl : 0 ≤ p2.toInt ∧ p2.toInt < (σ 111 16).toInt) (ho : σ 127 p2.toNatClampNeg = 0) (hp : ∀ s', rP b0 P σ0 s' → pv s') : wp_X10_take σ p1 p2 pv := by
  have hn := h.hn
  have hi : vp_in p2 20 := pz_in.mpr ⟨hl.1, by show p2.toInt < 20; omega⟩
  have hcl := pz_cl p2
  refine ⟨hi, fun _ => sr_fails h (by omega) hp, fun _ => ⟨hi, fun _ => sr_fails h (by omega) hp, fun _ => sr_flush h.1 h.2 (Or.inl rfl) hl (by rw [ho]; decide) (fun r s hb hM hk hz => ⟨fun _ => sr_fails hM (by omega) hp, fun _ => ?_⟩)⟩⟩
  have e16 : s 111 16 = σ 111 16 := by rw [hk 111 (by decide) (by decide) (by decide) (by decide) (by decide)]
  have e127 : s 127 = σ 127 := hk 127 (by decide) (by decide) (by decide) (by decide) (by decide)
  obtain ⟨g1, g2, g3, g4⟩ := hM.1.2.1.2 p2.toNatClampNeg (by rw [e16]; omega)
  have g3 := g3 (by rw [e127, ho]; decide)
  have hD := hM.1.1 (s 124 p2.toNatClampNeg).toNatClampNeg
  have hi8 : vp_in (s 124 p2.toNatClampNeg) 8 := pz_in.mpr ⟨g1.1, by have := g1.2; show (s 124 p2.toNatClampNeg).toInt < 8; omega⟩
  refine ⟨hi, hi, hi8, fun c => ⟨hi, hi, pz_in.mpr ?_, hi, hi, fun s1 e1 => ⟨hi, hi, fun s2 e2 => ?_⟩⟩, fun _ => sr_fails hM (by omega) hp⟩
  · have := pz_lt.mp c
    rw [pz_41 (by omega) (by omega)]
    show _ ∧ _ < (320 : Int)
    omega
  · have hc := pz_lt.mp c
    have ep := pz_1 (x := s 126 p2.toNatClampNeg) (by omega)
    have hI1 : rI 99 s1 := by
      refine rI_adv p2.toNatClampNeg (s 124 p2.toNatClampNeg).toNatClampNeg (s 113 (s 124 p2.toNatClampNeg).toNatClampNeg) (s 126 p2.toNatClampNeg + 1) hM.1 rfl ?_ (by rw [e1, pu_row]) (fun k q => by rw [e1, pu_ne (by omega)]) (by rw [e1, pu_ne (by decide)]) (by rw [e1, pu_ne (by decide)]) (by omega) (by omega)
      rw [ru_id, e1, pu_ne (by decide)]
    have hM2 : rM b0 P (0 + 1) σ0 s2 := by
      refine ⟨by rw [e2]; exact rI_up hI1 (by omega), ?_⟩
      rw [e2, e1]
      exact rX_up (rX_up (hM.2.le (by omega)) (by omega)) (by omega)
    exact sr_note hM2 (by omega) (fun s9 h9 _ _ => sr_gives h9 (by omega) tv_0 hp)
theorem sr_seek (h : rM b0 P 41 σ0 σ) (hl : 0 ≤ p2.toInt ∧ p2.toInt < (σ 111 16).toInt) (ho : σ 127 p2.toNatClampNeg = 0) (hp : ∀ s', rP b0 P σ0 s' → pv s') : wp_X10_seek σ p1 p2 p3 pv := by
  have hn := h.hn
  have z0 := l_0
  have hi : vp_in p2 20 := pz_in.mpr ⟨hl.1, by show p2.toInt < 20; omega⟩
  have hcl := pz_cl p2
  refine sr_flush h.1 h.2 (Or.inl rfl) hl (by rw [ho]; decide) (fun r s hb hM hk hz => ⟨fun _ => sr_fails hM (by omega) hp, fun _ => ?_⟩)
  have e16 : s 111 16 = σ 111 16 := by rw [hk 111 (by decide) (by decide) (by decide) (by decide) (by decide)]
  have e127 : s 127 = σ 127 := hk 127 (by decide) (by decide) (by decide) (by decide) (by decide)
  obtain ⟨g1, g2, g3, g4⟩ := hM.1.2.1.2 p2.toNatClampNeg (by rw [e16]; omega)
  have hi8 : vp_in (s 124 p2.toNatClampNeg) 8 := pz_in.mpr ⟨g1.1, by have := g1.2; show (s 124 p2.toNatClampNeg).toInt < 8; omega⟩
  refine ⟨hi, fun _ => sr_fails hM (by omega) hp, fun _ => ⟨hi, hi8, sr_in (fun _ => ⟨fun _ => sr_fails hM (by omega) hp, fun q => absurd rfl q⟩) (fun hy => ⟨fun q => absurd q (by decide), fun _ => ⟨hi, fun s1 e1 => ?_⟩⟩)⟩⟩
  have hM2 : rM b0 P (0 + 1) σ0 s1 := by
    refine ⟨rI_seek p2.toNatClampNeg p3 hM.1 (by rw [e1, pu_row]) (fun k q => by rw [e1, pu_ne (by omega)]) (by rw [e1, pu_ne (by decide)]) (by rw [e1, pu_ne (by decide)]) (by omega) (by rw [e127]; exact ho), ?_⟩
    rw [e1]
    exact rX_up (hM.2.le (by omega)) (by omega)
  exact sr_note hM2 (by omega) (fun s9 h9 _ _ => sr_gives h9 (by omega) tv_0 hp)
theorem sr_opened (h : rM b0 P 41 σ0 σ) (hl : 0 ≤ p3.toInt ∧ p3.toInt < (σ 111 16).toInt) (ho : σ 127 p3.toNatClampNeg = 0) (hi60 : vp_in p1 60) (hb : p2 = 13 → 0 ≤ (σ 120 p1.toNatClampNeg).toInt ∧ (σ 120 p1.toNatClampNeg).toInt < 10) (hp : ∀ s', rP b0 P σ0 s' → pv s') : wp_X10_opened σ p1 p2 p3 pv := by
  have hn := h.hn
  have z0 := l_0
  have hi : vp_in p3 20 := pz_in.mpr ⟨hl.1, by show p3.toInt < 20; omega⟩
  have hcl := pz_cl p3
  refine ⟨fun _ => sr_take h hl ho hp, fun _ => ⟨fun _ => ⟨hi, fun _ => ⟨hi, fun s7 e7 => ?_⟩, fun _ => sr_fails h (by omega) hp⟩, fun _ => ⟨fun _ => ⟨hi, hi, sr_gives h (by omega) tv_0 hp⟩, fun _ => sr_flush h.1 h.2 (Or.inl rfl) hl (by rw [ho]; decide) (fun r s hbl hM hk hz => ⟨fun _ => sr_fails hM (by omega) hp, fun _ => ?_⟩)⟩⟩⟩
  · have h1 := h.1.2.2.1.1
    have h2 := h.1.2.2.1.2.1
    have h3 := rc_strict (st := σ 127) (p := p3.toNatClampNeg) (v := 1) (by decide) ho (σ 111 16).toInt.toNat (by omega)
    have h4 := rc_le (ru (σ 127) p3.toNatClampNeg 1) (σ 111 16).toInt.toNat
    have h28 : (σ 111 28).toInt < 20 := by omega
    have e28 : s7 111 28 = σ 111 28 := by rw [e7, pu_ne (by decide)]
    have hi2 : vp_in (s7 111 28) 20 := by rw [e28]; exact pz_in.mpr ⟨h1.1, h28⟩
    refine ⟨hi2, fun s9 e9 => ?_⟩
    have e289 : s9 111 28 = σ 111 28 := by rw [e9, pu_ne (by decide), e28]
    refine ⟨by rw [e289, ← e28]; exact hi2, fun s11 e11 => ?_⟩
    have e2811 : s11 111 28 = σ 111 28 := by rw [e11, pu_ne (by decide), e289]
    refine ⟨by rw [e2811, ← e28]; exact hi2, fun s13 e13 s15 e15 => ?_⟩
    have e2813 : s13 111 = σ 111 := by rw [e13, pu_ne (by decide), e11, pu_ne (by decide), e9, pu_ne (by decide), e7, pu_ne (by decide)]
    have hs : ∀ j, j ≠ 28 → s15 111 j = σ 111 j := fun j a => by rw [e15, pu_s a, e2813]
    have hk : ∀ k, k ≠ 111 → k ≠ 127 → k ≠ 135 → k ≠ 136 → k ≠ 138 → s15 k = σ k := fun k a b c d f => by rw [e15, pu_ne a, e13, pu_ne f, e11, pu_ne d, e9, pu_ne c, e7, pu_ne b]
    have h28' : (s15 111 28).toInt = (σ 111 28).toInt + 1 := by rw [e15, pu_self, e2813, pz_1 (by omega)]
    have hM : rM b0 P 41 σ0 s15 := by
      refine ⟨rI_lazy p3.toNatClampNeg p3 h.1 rfl hl ?_ ?_ ?_ (fun k q => hk k (by omega) (by omega) (by omega) (by omega) (by omega)) (hs 16 (by decide)) h28' ho, rX_cg h.2 (fun k q => hk k (by omega) (by omega) (by omega) (by omega) (by omega)) (fun j q => hs j (by omega)) (by rw [hs 16 (by decide)]; exact Int.le_refl _) (by omega)⟩
      · rw [e15, pu_ne (by decide), e13, pu_ne (by decide), e11, pu_ne (by decide), e9, pu_ne (by decide), e7, pu_row]
      · rw [e15, pu_ne (by decide), e13, pu_ne (by decide), e11, pu_ne (by decide), e9, pu_row, e28, e7, pu_ne (by decide)]
      · rw [e15, pu_ne (by decide), e13, pu_ne (by decide), e11, pu_row, e289, e9, pu_ne (by decide), e7, pu_ne (by decide)]
    refine sr_gives hM (by omega) ⟨fun q => absurd q (by decide), fun _ => ?_⟩ hp
    rw [pz_s1 (by omega)]
    omega
  · have e16 : s 111 16 = σ 111 16 := by rw [hk 111 (by decide) (by decide) (by decide) (by decide) (by decide)]
    obtain ⟨g1, g2, g3, g4⟩ := hM.1.2.1.2 p3.toNatClampNeg (by rw [e16]; omega)
    have hi8 : vp_in (s 124 p3.toNatClampNeg) 8 := pz_in.mpr ⟨g1.1, by have := g1.2; show (s 124 p3.toNatClampNeg).toInt < 8; omega⟩
    refine ⟨fun _ => ⟨hi, hi8, sr_gives hM (by omega) tv_0 hp⟩, fun _ => ⟨fun c13 => ⟨hi60, hi, fun s1 e1 => ?_⟩, fun _ => ⟨hi, hi, fun s1 e1 => ?_⟩⟩⟩
    · have e120 : s 120 = σ 120 := hk 120 (by decide) (by decide) (by decide) (by decide) (by decide)
      have e120' := hb c13
      rw [← e120] at e120'
      have hM2 : rM b0 P (0 + 1) σ0 s1 := by
        refine ⟨rI_buf p3.toNatClampNeg (s 120 p1.toNatClampNeg) hM.1 (by rw [e1, pu_row]) (fun k q => by rw [e1, pu_ne (by omega)]) (by rw [e1, pu_ne (by decide)]) (by rw [e1, pu_ne (by decide)]) (fun _ => ?_), ?_⟩
        · rw [hz]
          exact ⟨by omega, by omega, fun _ => by omega⟩
        · rw [e1]
          exact rX_up (hM.2.le (by omega)) (by omega)
      exact sr_note hM2 (by omega) (fun s9 h9 _ _ => sr_gives h9 (by omega) tv_0 hp)
    · have hM2 : rM b0 P (0 + 1) σ0 s1 := by
        refine ⟨rI_buf p3.toNatClampNeg (s 129 p3.toNatClampNeg) hM.1 (by rw [e1, pu_row]) (fun k q => by rw [e1, pu_ne (by omega)]) (by rw [e1, pu_ne (by decide)]) (by rw [e1, pu_ne (by decide)]) (fun _ => ⟨g4.1, g4.2.1, fun _ => g4.2.2 (by rw [hcl]; omega)⟩), ?_⟩
        rw [e1]
        exact rX_up (hM.2.le (by omega)) (by omega)
      exact sr_note hM2 (by omega) (fun s9 h9 _ _ => sr_gives h9 (by omega) tv_0 hp)
end RD
