section RC
variable {b0 : Int} {P : Nat} {m : Int} {σ0 σ : io_M} {p1 p2 p3 s v n x : Int32} {pv : io_M → Prop} {post : Int32 → io_M → Prop} {e : Nat}
theorem rM.hn (h : rM b0 P m σ0 σ) : 0 ≤ (σ 111 16).toInt ∧ (σ 111 16).toInt ≤ 20 := h.1.2.1.1
theorem sr_openRefused {f : Int32} (hh : (σ 111 16).toInt ≤ 20) (hf : 0 ≤ f.toInt ∧ f.toInt ≤ 7) (hp : ∀ r, (r = -1 → ¬ σ 111 16 = 20 ∧ (x = 0 → ¬ σ 112 f.toNatClampNeg = 0) ∧ (¬ x = 0 → ∀ h : Nat, (h : Int) < (σ 111 16).toInt → σ 124 h = f → σ 127 h = 2)) → post r σ) : wp_X10_openRefused σ f x post := by
  have hi : vp_in f 8 := pz_in.mpr ⟨hf.1, by show f.toInt < 8; omega⟩
  have no : ∀ r : Int32, ¬ r = -1 → post r σ := fun r q => hp r (fun t => absurd t q)
  have k52 : (x = 0 → ¬ σ 112 f.toNatClampNeg = 0) → wj_X10_openRefused_52 σ f x post := by
    intro hx
    refine ⟨fun c => sr_isHeldToWrite hh (fun r => ⟨fun _ => ⟨fun _ => no 5 (by decide), fun c20 => hp (-1) (fun _ => ⟨c20, hx, fun q => absurd c q⟩)⟩, fun _ => no 0 (by decide)⟩), fun c => sr_isHeld hh ⟨fun q => absurd q (by decide), fun _ => no 0 (by decide)⟩ (fun hl => ⟨fun _ => ⟨fun _ => no 5 (by decide), fun c20 => hp (-1) (fun _ => ⟨c20, hx, fun _ => hl⟩)⟩, fun q => absurd rfl q⟩)⟩
  have k35 : (x = 0 → ¬ σ 112 f.toNatClampNeg = 0) → wj_X10_openRefused_35 σ f x post := fun hx => ⟨fun _ => k52 hx, fun _ => ⟨hi, fun _ => no 2 (by decide), fun _ => k52 hx⟩⟩
  have k24 : (x = 0 → ¬ σ 112 f.toNatClampNeg = 0) → wj_X10_openRefused_24 σ f x post := fun hx => ⟨hi, fun _ => no 2 (by decide), fun _ => k35 hx⟩
  have k15 : (x = 0 → ¬ σ 112 f.toNatClampNeg = 0) → wj_X10_openRefused_15 σ f x post := fun hx => ⟨fun _ => k24 hx, fun _ => ⟨fun _ => k24 hx, fun _ => k35 hx⟩⟩
  exact ⟨fun _ => ⟨hi, fun _ => no 1 (by decide), fun c => k15 (fun _ => c)⟩, fun c => k15 (fun q => absurd q c)⟩
theorem sr_opens107 {f y : Int32} {σ1 : io_M} (h : rM b0 P 1 σ0 σ1) (hf : 0 ≤ f.toInt ∧ f.toInt ≤ 7) (hy : 0 ≤ y.toInt ∧ y.toInt ≤ (σ1 113 f.toNatClampNeg).toInt) (hlt : (σ1 111 16).toInt < 20) (e : σ = io_up (io_up σ1 124 (σ1 111 16).toNatClampNeg f) 125 (σ1 111 16).toNatClampNeg v) (hp : ∀ s', rP b0 P σ0 s' → pv s') : wj_X10_opens_107 σ n (σ1 111 16) y (σ1 111 16) pv := by
  have hn := h.hn
  have hi : vp_in (σ1 111 16) 20 := pz_in.mpr ⟨hn.1, hlt⟩
  refine ⟨hi, fun s1 e1 => ⟨hi, fun s2 e2 => ⟨hi, fun s3 e3 => ⟨hi, fun s4 e4 => ⟨hi, fun s5 e5 => ⟨hi, fun s6 e6 => ⟨hi, fun s7 e7 s8 e8 => ?_⟩⟩⟩⟩⟩⟩⟩
  have hk : ∀ k, k ≠ 124 → k ≠ 125 → k ≠ 126 → k ≠ 127 → k ≠ 129 → k ≠ 130 → k ≠ 132 → k ≠ 133 → k ≠ 134 → s7 k = σ1 k := by
    intro k a1 a2 a3 a4 a5 a6 a7 a8 a9
    rw [e7, pu_ne a9, e6, pu_ne a8, e5, pu_ne a7, e4, pu_ne a6, e3, pu_ne a5, e2, pu_ne a4, e1, pu_ne a3, e, pu_ne a2, pu_ne a1]
  have h111 : s7 111 = σ1 111 := hk 111 (by decide) (by decide) (by decide) (by decide) (by decide) (by decide) (by decide) (by decide) (by decide)
  have hk8 : ∀ k, k ≠ 111 → s8 k = s7 k := fun k a => by rw [e8, pu_ne a]
  have hs8 : ∀ j, j ≠ 16 → s8 111 j = σ1 111 j := fun j a => by rw [e8, pu_s a, h111]
  have h16 : (s8 111 16).toInt = (σ1 111 16).toInt + 1 := by rw [e8, pu_self, h111, pz_1 (by omega)]
  have hM : rM b0 P 1 σ0 s8 := by
    refine ⟨rI_new f y h.1 ?_ ?_ ?_ ?_ ?_ (fun k q => ?_) h16 (hs8 28 (by decide)) hf hy hlt, rX_cg h.2 (fun k q => ?_) (fun j q => hs8 j (by omega)) (by omega) (by rw [hs8 28 (by decide)]; exact Int.le_refl _)⟩
    · rw [hk8 124 (by decide), e7, pu_ne (by decide), e6, pu_ne (by decide), e5, pu_ne (by decide), e4, pu_ne (by decide), e3, pu_ne (by decide), e2, pu_ne (by decide), e1, pu_ne (by decide), e, pu_ne (by decide), pu_row]
    · rw [hk8 126 (by decide), e7, pu_ne (by decide), e6, pu_ne (by decide), e5, pu_ne (by decide), e4, pu_ne (by decide), e3, pu_ne (by decide), e2, pu_ne (by decide), e1, pu_row, e, pu_ne (by decide), pu_ne (by decide)]
    · rw [hk8 127 (by decide), e7, pu_ne (by decide), e6, pu_ne (by decide), e5, pu_ne (by decide), e4, pu_ne (by decide), e3, pu_ne (by decide), e2, pu_row, e1, pu_ne (by decide), e, pu_ne (by decide), pu_ne (by decide)]
    · rw [hk8 129 (by decide), e7, pu_ne (by decide), e6, pu_ne (by decide), e5, pu_ne (by decide), e4, pu_ne (by decide), e3, pu_row, e2, pu_ne (by decide), e1, pu_ne (by decide), e, pu_ne (by decide), pu_ne (by decide)]
    · rw [hk8 130 (by decide), e7, pu_ne (by decide), e6, pu_ne (by decide), e5, pu_ne (by decide), e4, pu_row, e3, pu_ne (by decide), e2, pu_ne (by decide), e1, pu_ne (by decide), e, pu_ne (by decide), pu_ne (by decide)]
    · rw [hk8 k (by omega), hk k (by omega) (by omega) (by omega) (by omega) (by omega) (by omega) (by omega) (by omega) (by omega)]
    · rw [hk8 k (by omega), hk k (by omega) (by omega) (by omega) (by omega) (by omega) (by omega) (by omega) (by omega) (by omega)]
  refine sr_note (m := 0) hM (by omega) (fun s9 h9 hk9 hs9 => sr_gives h9 (by omega) ⟨fun _ => ?_, fun q => absurd q (by decide)⟩ hp)
  rw [hs9 16 (by decide)]
  omega
theorem sr_opens (h : rM b0 P 41 σ0 σ) (hi : vp_in p1 60) (ha : 0 ≤ (σ 119 p1.toNatClampNeg).toInt ∧ (σ 119 p1.toNatClampNeg).toInt < 8) (hp : ∀ s', rP b0 P σ0 s' → pv s') : wp_X10_opens σ p1 pv := by
  have hn := h.hn
  have z0 := l_0
  have z20 := l_20
  have hi8 : vp_in (σ 119 p1.toNatClampNeg) 8 := pz_in.mpr ha
  refine ⟨hi, hi, sr_openRefused hn.2 ⟨ha.1, by omega⟩ (fun r hr => ⟨fun c => ?_, fun _ => sr_fails h (by omega) hp⟩)⟩
  obtain ⟨h20, hx0, hx1⟩ := hr c
  have hlt : (σ 111 16).toInt < 20 := by
    have : ¬ (σ 111 16).toInt = 20 := fun q => h20 (pz_eq.mpr (by omega))
    omega
  have hb := h.1.1 (σ 119 p1.toNatClampNeg).toNatClampNeg
  have k57 : ∀ s, rM b0 P 1 σ0 s → s 111 = σ 111 → wj_X10_opens_57 s p1 (σ 119 p1.toNatClampNeg) (σ 120 p1.toNatClampNeg) pv := by
    intro s hM e111
    refine ⟨hi8, fun s2 e2 => ?_⟩
    have hM2 : rM b0 P 1 σ0 s2 := by rw [e2]; exact rM_up hM (by omega)
    have e16 : s2 111 16 = σ 111 16 := by rw [e2, pu_ne (by decide), e111]
    have hi20 : vp_in (s2 111 16) 20 := by rw [e16]; exact pz_in.mpr ⟨hn.1, hlt⟩
    have hb2 := hM2.1.1 (σ 119 p1.toNatClampNeg).toNatClampNeg
    refine ⟨hi20, fun s3 e3 => ⟨hi20, fun s4 e4 => ⟨fun _ => ⟨hi8, ?_⟩, fun _ => ?_⟩⟩⟩
    · have e113 : s4 113 = s2 113 := by rw [e4, pu_ne (by decide), e3, pu_ne (by decide)]
      rw [e113]
      exact sr_opens107 hM2 ⟨ha.1, by omega⟩ ⟨hb2.1, Int.le_refl _⟩ (by rw [e16]; exact hlt) (by rw [e4, e3]) hp
    · exact sr_opens107 hM2 ⟨ha.1, by omega⟩ (by omega) (by rw [e16]; exact hlt) (by rw [e4, e3]) hp
  have hM1 : rM b0 P 1 σ0 σ := ⟨h.1, h.2.le (by omega)⟩
  have k50 : (∀ h : Nat, (h : Int) < (σ 111 16).toInt → σ 124 h = σ 119 p1.toNatClampNeg → σ 127 h = 2) → wj_X10_opens_50 σ p1 (σ 119 p1.toNatClampNeg) (σ 120 p1.toNatClampNeg) pv := by
    intro hx
    refine ⟨hi8, fun s e => k57 s ⟨?_, ?_⟩ (by rw [e, pu_ne (by decide)])⟩
    · exact rI_bytes (σ 119 p1.toNatClampNeg) 0 h.1 ha.1 (by rw [e, pu_row]) (fun k q => by rw [e, pu_ne (by omega)]) (by rw [e, pu_ne (by decide)]) (by rw [e, pu_ne (by decide)]) (by omega) hx
    · rw [e]
      exact rX_up hM1.2 (by omega)
  refine ⟨hi8, fun c0 => k50 (hx1 (fun q => hx0 q c0)), fun _ => ⟨fun c1 => k50 (hx1 (by rw [c1]; decide)), fun _ => k57 σ hM1 rfl⟩⟩
theorem sr_remove (h : rM b0 P 41 σ0 σ) (hi : vp_in p1 60) (ha : 0 ≤ (σ 119 p1.toNatClampNeg).toInt ∧ (σ 119 p1.toNatClampNeg).toInt < 8) (hp : ∀ s', rP b0 P σ0 s' → pv s') : wp_X10_remove σ p1 pv := by
  have hn := h.hn
  have z0 := l_0
  have hi8 : vp_in (σ 119 p1.toNatClampNeg) 8 := pz_in.mpr ha
  refine ⟨hi, hi8, fun _ => sr_fails h (by omega) hp, fun _ => ⟨hi8, fun _ => sr_fails h (by omega) hp, fun _ => sr_isHeld hn.2 ⟨fun q => absurd q (by decide), fun _ => sr_fails h (by omega) hp⟩ (fun hx => ⟨fun _ => ⟨hi8, fun s8 e8 => ⟨hi8, fun s10 e10 => ?_⟩⟩, fun q => absurd rfl q⟩)⟩⟩
  have h8 : rM b0 P 41 σ0 s8 := by rw [e8]; exact rM_up h (by omega)
  have hM : rM b0 P (0 + 1) σ0 s10 := by
    refine ⟨rI_bytes (σ 119 p1.toNatClampNeg) 0 h.1 ha.1 ?_ (fun k q => ?_) ?_ ?_ (by omega) hx, ?_⟩
    · rw [e10, pu_row, e8, pu_ne (by decide)]
    · rw [e10, pu_ne (by omega), e8, pu_ne (by omega)]
    · rw [e10, pu_ne (by decide), e8, pu_ne (by decide)]
    · rw [e10, pu_ne (by decide), e8, pu_ne (by decide)]
    · rw [e10]
      exact (rX_up h8.2 (by omega)).le (by omega)
  exact sr_note hM (by omega) (fun s9 h9 _ _ => sr_gives h9 (by omega) tv_0 hp)
theorem sr_renameL {f g : Int32} (hf : 0 ≤ f.toInt ∧ f.toInt < 8) (hg : 0 ≤ g.toInt ∧ g.toInt < 8) (hfg : ¬ f = g) (hp : ∀ s', rP b0 P σ0 s' → pv s') : ∀ (k : Nat) (σ : io_M) (x4 : Int32), rM b0 P 1 σ0 σ → (∀ h : Nat, (h : Int) < (σ 111 16).toInt → σ 124 h = f → σ 127 h = 2) → (∀ h : Nat, (h : Int) < (σ 111 16).toInt → σ 124 h = g → σ 127 h = 2) → 0 ≤ x4.toInt → x4.toInt ≤ 40 → 40 - x4.toInt < k → wl_X10_rename_96 k σ n f g x4 pv := by
  intro k
  have z0 := l_0
  have hi : vp_in f 8 := pz_in.mpr hf
  have hj : vp_in g 8 := pz_in.mpr hg
  induction k with
  | zero => intro σ x4 _ _ _ _ h1 h2; exact absurd h2 (by omega)
  | succ k ih =>
    intro σ x4 h hx hy h4 h5 h6
    have hb := h.1.1 f.toNatClampNeg
    unfold wl_X10_rename_96
    refine ⟨hi, fun _ => ⟨hi, hj, fun s1 e1 => ⟨hj, fun s2 e2 => ⟨hi, fun s3 e3 => ⟨hi, fun s4 e4 => ?_⟩⟩⟩⟩, fun c => ⟨pz_in.mpr ?_, pz_in.mpr ?_, fun s e => ?_⟩⟩
    · have h1 : rI 99 s1 := rI_bytes g _ h.1 hg.1 (by rw [e1, pu_row]) (fun k q => by rw [e1, pu_ne (by omega)]) (by rw [e1, pu_ne (by decide)]) (by rw [e1, pu_ne (by decide)]) hb hy
      have r : ∀ k, k ≠ 113 → k ≠ 112 → s3 k = σ k := fun k a b => by rw [e3, pu_ne a, e2, pu_ne b, e1, pu_ne a]
      have h3 : rI 99 s3 := by
        refine rI_bytes f 0 h1 hf.1 ?_ (fun k q => ?_) ?_ ?_ (by omega) (fun h q a => ?_)
        · rw [e3, pu_row, e2, pu_ne (by decide)]
        · rw [e3, pu_ne (by omega), e2, pu_ne (by omega)]
        · rw [e3, pu_ne (by decide), e2, pu_ne (by decide)]
        · rw [e3, pu_ne (by decide), e2, pu_ne (by decide)]
        · rw [e1, pu_ne (by decide)] at q a ⊢
          exact hx h q a
      have hM : rM b0 P (0 + 1) σ0 s4 := by
        refine ⟨by rw [e4]; exact rI_up h3 (by omega), ?_⟩
        rw [e4, e3, e2, e1]
        exact rX_up (rX_up (rX_up (rX_up (h.2.le (by omega)) (by omega)) (by omega)) (by omega)) (by omega)
      exact sr_note hM (by omega) (fun s9 h9 _ _ => sr_gives h9 (by omega) tv_0 hp)
    · have := pz_nle c
      rw [pz_41 (by omega) (by omega)]
      show _ ∧ _ < (320 : Int)
      omega
    · have := pz_nle c
      rw [pz_41 (by omega) (by omega)]
      show _ ∧ _ < (320 : Int)
      omega
    · have hc := pz_nle c
      have e2 := pz_1 (x := x4) (by omega)
      have r : ∀ k, k ≠ 114 → s k = σ k := fun k a => by rw [e, pu_ne a]
      refine ih s (x4 + 1) (by rw [e]; exact rM_up h (by omega)) ?_ ?_ (by omega) (by omega) (by omega)
      · rw [r 111 (by decide), r 124 (by decide), r 127 (by decide)]; exact hx
      · rw [r 111 (by decide), r 124 (by decide), r 127 (by decide)]; exact hy
theorem sr_rename (h : rM b0 P 41 σ0 σ) (hi : vp_in p1 60) (ha : 0 ≤ (σ 119 p1.toNatClampNeg).toInt ∧ (σ 119 p1.toNatClampNeg).toInt < 8) (hb : 0 ≤ (σ 120 p1.toNatClampNeg).toInt ∧ (σ 120 p1.toNatClampNeg).toInt < 8) (hp : ∀ s', rP b0 P σ0 s' → pv s') : wp_X10_rename σ p1 pv := by
  have hn := h.hn
  have z0 := l_0
  have hi8 : vp_in (σ 119 p1.toNatClampNeg) 8 := pz_in.mpr ha
  have hj8 : vp_in (σ 120 p1.toNatClampNeg) 8 := pz_in.mpr hb
  have no : ∀ v, wp_X10_fails σ p1 v pv := fun v => sr_fails h (by omega) hp
  refine ⟨hi, hi, hi8, fun _ => no _, fun _ => ⟨hi8, fun _ => no _, fun _ => ⟨hj8, fun _ => no _, fun _ => sr_isHeld hn.2 ⟨fun q => absurd q (by decide), fun _ => no _⟩ (fun hx => ⟨fun _ => sr_isHeld hn.2 ⟨fun q => absurd q (by decide), fun _ => no _⟩ (fun hy => ⟨fun _ => ⟨fun _ => sr_gives h (by omega) tv_0 hp, fun c => ⟨41, sr_renameL ha hb c hp 41 σ 0 ⟨h.1, h.2.le (by omega)⟩ hx hy (by omega) (by omega) (by omega)⟩⟩, fun q => absurd rfl q⟩), fun q => absurd rfl q⟩)⟩⟩⟩
end RC
