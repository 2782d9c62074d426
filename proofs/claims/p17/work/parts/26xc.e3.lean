theorem rfl_k.tr {a b d : io_M} (h : rfl_k a b) (g : rfl_k b d) : rfl_k a d := fun k q1 q2 q3 q4 q5 => (g k q1 q2 q3 q4 q5).trans (h k q1 q2 q3 q4 q5)
theorem rfl_k.rf {a : io_M} : rfl_k a a := fun _ _ _ _ _ _ => rfl
section EC
variable {c x c' x' : io_M} {post : Int32 → io_M → Prop} {h : Nat} {p1 y v : Int32} {X : io_M → Prop} {k : Nat}
theorem xf_bad (hI : rI h x) (hD : oD c x) (hp1 : p1.toNatClampNeg = h) (hp0 : 0 ≤ p1.toInt) (hlt : p1.toInt < (x 111 16).toInt) (hk : 0 < k) (hy : y.toInt < (x 130 h).toInt) (hnew : ¬ x 126 h < x 113 (x 124 h).toNatClampNeg) (hb : 40 ≤ (x 113 (x 124 h).toNatClampNeg).toInt ∨ 120 ≤ (c 88 4).toInt) (hpost : post 0 (io_up x 130 h 0)) : wl_X10_flush_12 (k + 1) x p1 (x 124 h) 1 y post := by
  have hcl := pz_cl p1
  have hlt' : (h : Int) < (x 111 16).toInt := by rw [← hp1, hcl]; omega
  have h20 := hI.2.1.1
  obtain ⟨⟨f1, f2⟩, g1, g2, gb, gw, gx⟩ := hI.2.1.2 h hlt'
  have hi : vp_in p1 20 := pz_in.mpr ⟨hp0, by show p1.toInt < 20; omega⟩
  have hi8 : vp_in (x 124 h) 8 := pz_in.mpr ⟨f1, by show (x 124 h).toInt < 8; omega⟩
  have z40 := l_40
  have z120 : (120 : Int32).toInt = 120 := by decide
  have bad : wj_X10_flush_78 (wl_X10_flush_12 k) x p1 (x 124 h) y 1 post := ⟨fun _ => xf_stop hi (by rw [hp1]; exact hpost) k hk, fun q => absurd rfl q⟩
  unfold wl_X10_flush_12
  rw [hp1]
  refine ⟨hi, fun q => absurd (pz_le.mp q) (by omega), fun _ => ⟨fun q => absurd q (by decide), fun _ => ⟨hi, hi8, fun q => absurd q hnew, fun _ => ⟨fun q => absurd q (by decide), fun _ => ⟨hi8, fun _ => bad, fun n40 => sx_all hD (fun r e => ⟨fun _ => bad, fun q => ?_⟩)⟩⟩⟩⟩⟩
  have a := pz_nle n40
  have b := pz_nle q
  omega
theorem xf_good (hXu : ∀ (σ : io_M) (k j : Nat) (v : Int32), (k = 113 ∨ k = 114 ∨ k = 126 ∨ k = 130 ∨ k = 134) → X σ → X (io_up σ k j v)) (hX : X x) (hI : rI h x) (hD : oD c x) (hp1 : p1.toNatClampNeg = h) (hp0 : 0 ≤ p1.toInt) (hlt : p1.toInt < (x 111 16).toInt) (hy : 0 ≤ y.toInt ∧ y.toInt < (x 130 h).toInt) (hpl : (x 126 h).toInt < 40) (hv : (x 126 h < x 113 (x 124 h).toNatClampNeg ∧ v = x 113 (x 124 h).toNatClampNeg) ∨ (¬ x 126 h < x 113 (x 124 h).toNatClampNeg ∧ (x 113 (x 124 h).toNatClampNeg).toInt < 40 ∧ (c 88 4).toInt < 120 ∧ v = x 113 (x 124 h).toNatClampNeg + 1))
    (hp : ∀ t, X t → (∀ k, k ≠ 113 → k ≠ 114 → k ≠ 126 → k ≠ 134 → t k = x k) → t 114 = ru (x 114) ((40 * x 124 h) + x 126 h).toNatClampNeg (x 131 ((20 * p1) + y).toNatClampNeg).toInt8.toInt32 → t 126 = ru (x 126) h (x 126 h + 1) → t 113 = ru (x 113) (x 124 h).toNatClampNeg v → wl_X10_flush_12 k t p1 (x 124 h) 1 (y + 1) post) : wl_X10_flush_12 (k + 1) x p1 (x 124 h) 1 y post := by
  have hcl := pz_cl p1
  have hlt' : (h : Int) < (x 111 16).toInt := by rw [← hp1, hcl]; omega
  have h20 := hI.2.1.1
  obtain ⟨⟨f1, f2⟩, g1, g2, gb, gw, gx⟩ := hI.2.1.2 h hlt'
  have hi : vp_in p1 20 := pz_in.mpr ⟨hp0, by show p1.toInt < 20; omega⟩
  have hi8 : vp_in (x 124 h) 8 := pz_in.mpr ⟨f1, by show (x 124 h).toInt < 8; omega⟩
  have z40 := l_40
  have z120 : (120 : Int32).toInt = 120 := by decide
  have e40 := pz_41 (x := x 124 h) (y := x 126 h) (by omega) (by omega)
  have e20 := pz_21 (x := p1) (y := y) (by omega) (by omega)
  have hi4 : vp_in ((40 * x 124 h) + x 126 h) 320 := pz_in.mpr (by rw [e40]; show _ ∧ _ < (320 : Int); omega)
  have hi2 : vp_in ((20 * p1) + y) 400 := pz_in.mpr (by rw [e20]; show _ ∧ _ < (400 : Int); omega)
  have go : ∀ x5 : Int32, (x5 = 0 → v = x 113 (x 124 h).toNatClampNeg) → (¬ x5 = 0 → v = x 113 (x 124 h).toNatClampNeg + 1) → wj_X10_flush_74 (wl_X10_flush_12 k) x p1 (x 124 h) y x5 post := by
    intro x5 q0 q1
    unfold wj_X10_flush_74 wj_X10_flush_79
    rw [hp1]
    refine ⟨fun q => absurd q (by decide), fun _ => ⟨hi, hi2, hi4, fun s102 e102 => ⟨hi, hi, fun s104 e104 => ⟨fun c5 => ⟨hi8, hi8, fun s107 e107 => ⟨hi, hi, fun s109 e109 => ?_⟩⟩, fun c5 => ⟨hi8, hi8, fun s107 e107 => ⟨hi, hi, fun s109 e109 => ?_⟩⟩⟩⟩⟩⟩
    · refine hp s109 ?_ (fun k a b d e => by rw [e109, pu_ne e, e107, pu_ne a, e104, pu_ne d, e102, pu_ne b]) ?_ ?_ ?_
      · rw [e109, e107, e104, e102]
        exact hXu _ _ _ _ (by omega) (hXu _ _ _ _ (by omega) (hXu _ _ _ _ (by omega) (hXu _ _ _ _ (by omega) hX)))
      · rw [e109, pu_ne (by decide), e107, pu_ne (by decide), e104, pu_ne (by decide), e102, pu_row]
      · rw [e109, pu_ne (by decide), e107, pu_ne (by decide), e104, pu_row, e102, pu_ne (by decide)]
      · rw [e109, pu_ne (by decide), e107, pu_row, e104, pu_ne (by decide), e102, pu_ne (by decide), q0 c5]
    · refine hp s109 ?_ (fun k a b d e => by rw [e109, pu_ne e, e107, pu_ne a, e104, pu_ne d, e102, pu_ne b]) ?_ ?_ ?_
      · rw [e109, e107, e104, e102]
        exact hXu _ _ _ _ (by omega) (hXu _ _ _ _ (by omega) (hXu _ _ _ _ (by omega) (hXu _ _ _ _ (by omega) hX)))
      · rw [e109, pu_ne (by decide), e107, pu_ne (by decide), e104, pu_ne (by decide), e102, pu_row]
      · rw [e109, pu_ne (by decide), e107, pu_ne (by decide), e104, pu_row, e102, pu_ne (by decide)]
      · rw [e109, pu_ne (by decide), e107, pu_row, e104, pu_ne (by decide), e102, pu_ne (by decide), q1 c5]
  unfold wl_X10_flush_12
  rw [hp1]
  refine ⟨hi, fun q => absurd (pz_le.mp q) (by omega), fun _ => ⟨fun q => absurd q (by decide), fun _ => ⟨hi, hi8, fun q => ?_, fun q => ?_⟩⟩⟩
  · rcases hv with w | w
    · exact ⟨fun _ => go 0 (fun _ => w.2) (fun q => absurd rfl q), fun q => absurd rfl q⟩
    · exact absurd q w.1
  · rcases hv with w | w
    · exact absurd w.1 q
    · refine ⟨fun q => absurd q (by decide), fun _ => ⟨hi8, fun t => absurd (pz_le.mp t) (by omega), fun _ => sx_all hD (fun r e => ⟨fun t => absurd (pz_le.mp t) (by omega), fun _ => go 1 (fun q => absurd q (by decide)) (fun _ => w.2.2.2)⟩)⟩⟩
theorem xf_loop (hh : h < 20) : ∀ (n : Nat) (c : io_M) (y : Int32) (post : Int32 → io_M → Prop), io_CI c → 0 ≤ y.toInt → y.toInt ≤ (c h 2).toInt → (c h 2).toInt - y.toInt < n → (∀ r c', io_CI c' → io_F2 c c' → (r = 0 ∨ r = -6) → flS h c y r c' → post r c') → wl_X2_flush_14 n h c y post := by
  intro n
  induction n with
  | zero => intro c y post _ _ h2 h3; exact absurd h3 (by omega)
  | succ n ih =>
    intro c y post hC h0 h2 h3 hp
    have hw := CI_w hC hh
    have hfl := CI_f hC hh
    have hf8 : 0 ≤ (c h 4).toInt ∧ (c h 4).toInt < 8 := ⟨hfl.1, by omega⟩
    have hn := pn_8 hf8
    have hi := pz_in (n := 8).mpr hf8
    have hlen := CI_91 hC (c h 4).toNatClampNeg
    have z0 := l_0
    have z40 := l_40
    have z120 : (120 : Int32).toInt = 120 := by decide
    have kC : ∀ v : Int32, io_CI (io_up (io_up c h 10 v) h 2 0) := fun v => (hC.up (ok_H hh (fun q => by omega) (fun q => by omega))).up (ok_H hh (fun _ => by omega) (fun q => by omega))
    have kF : ∀ v : Int32, io_F2 c (io_up (io_up c h 10 v) h 2 0) := fun v => (io_F2.rf.up (Or.inl (by omega))).up (Or.inl (by omega))
    have kk : ∀ (v : Int32) k, k ≠ h → (io_up (io_up c h 10 v) h 2 0) k = c k := fun v k q => by rw [pu_ne q, pu_ne q]
    have ks : ∀ (v : Int32) j, j ≠ 2 → j ≠ 10 → (io_up (io_up c h 10 v) h 2 0) h j = c h j := fun v j q1 q2 => by rw [pu_same q1, pu_same q2]
    have k2 : ∀ v : Int32, (io_up (io_up c h 10 v) h 2 0) h 2 = 0 := fun v => pu_self
    have hbad : ∀ v : Int32, ¬ (0 ≤ (c h 6).toInt ∧ (c h 6).toInt < (c 91 (c h 4).toNatClampNeg).toInt) → (40 ≤ (c 91 (c h 4).toNatClampNeg).toInt ∨ 120 ≤ (c 88 4).toInt) → y.toInt < (c h 2).toInt → post (-6) (io_up (io_up c h 10 v) h 2 0) := by
      intro v q1 q2 q3
      refine hp _ _ (kC v) (kF v) (Or.inr rfl) ?_
      intro x p1 X post k hXu hI hX hD hH hT hp1 hp0 hlt hst hk hpost
      have hcl := pz_cl p1
      have hlt' : (h : Int) < (x 111 16).toInt := by rw [← hp1, hcl]; omega
      obtain ⟨b1, b2, b3, b4, b5, b6⟩ := xf_end hh hI hD hH hT (kk v) (ks v) (k2 v) hlt'
      obtain ⟨a1, a2, a3, a4, a5, a6, a7⟩ := hH.2.2 h hlt'
      have gp := (hI.2.1.2 h hlt').2.1
      have d3 := (hD.1 _ hn).2.2.1
      rw [a1] at q1 q2 d3
      rw [d3] at q1 q2
      rw [a3] at q1
      rw [a6] at q3 hw
      cases k with
      | zero => omega
      | succ k => exact xf_bad hI hD hp1 hp0 hlt (by omega) q3 (fun q => q1 ⟨gp, pz_lt.mp q⟩) q2 (hpost 0 _ b1 (hXu _ _ _ _ (by omega) hX) b2 b3 b4 b5 b6 (Or.inl ⟨rfl, by decide⟩))
    have hstep : ∀ (s : io_M) (v : Int32) (c0 : io_M), y.toInt < (c h 2).toInt → io_CI s → io_F2 c s → s h 2 = c h 2 → (∀ x : io_M, rI h x → oD c x → oH c x → oT x → (h : Int) < (x 111 16).toInt → x 127 h = 0 → (x 126 h).toInt < 40 ∧ ((x 126 h < x 113 (x 124 h).toNatClampNeg ∧ v = x 113 (x 124 h).toNatClampNeg) ∨ (¬ x 126 h < x 113 (x 124 h).toNatClampNeg ∧ (x 113 (x 124 h).toNatClampNeg).toInt < 40 ∧ (c 88 4).toInt < 120 ∧ v = x 113 (x 124 h).toNatClampNeg + 1)) ∧ (∀ k, k ≠ 80 + (c h 4).toNatClampNeg → k ≠ h → k ≠ 88 → k ≠ 89 → k ≠ 91 → s k = c k) ∧ s (80 + (c h 4).toNatClampNeg) = ru (c (80 + (c h 4).toNatClampNeg)) (c h 6).toNatClampNeg (c (20 + h) y.toNatClampNeg) ∧ s h = ru (c h) 6 (c h 6 + 1) ∧ s 91 = ru (c 91) (c h 4).toNatClampNeg v ∧ s 89 = ru (c 89) (c h 4).toNatClampNeg 1 ∧ (s 88 4).toInt = (c 88 4).toInt + v.toInt - (x 113 (x 124 h).toNatClampNeg).toInt ∧ (s 88 4).toInt ≤ 120) → wl_X2_flush_14 n h s (y + 1) post := by
      intro s v c0 q hCs hFs e2 hx
      have e5 := pz_1 (x := y) (by omega)
      refine ih s (y + 1) post hCs (by omega) (by rw [e2]; omega) (by rw [e2]; omega) (fun r c' a b d hS => hp r c' a (hFs.tr b) d ?_)
      intro x p1 X post k hXu hI hX hD hH hT hp1 hp0 hlt hst hk hpost
      have hcl := pz_cl p1
      have hlt' : (h : Int) < (x 111 16).toInt := by rw [← hp1, hcl]; omega
      obtain ⟨w1, w2, w3, w4, w5, w6, w7, w8, w9⟩ := hx x hI hD hH hT hlt' hst
      have a6 := (hH.2.2 h hlt').2.2.2.2.2.1
      rw [a6] at q hw
      obtain ⟨⟨f1, f2⟩, g1, g2, gb, gw, gx⟩ := hI.2.1.2 h hlt'
      have g2 := g2 (by rw [hst]; decide)
      have hD40 := hI.1 (x 124 h).toNatClampNeg
      cases k with
      | zero => omega
      | succ k =>
        refine xf_good hXu hX hI hD hp1 hp0 hlt ⟨h0, q⟩ w1 w2 (fun t hXt t1 t2 t3 t4 => ?_)
        have hv : (x 113 (x 124 h).toNatClampNeg).toInt ≤ v.toInt ∧ v.toInt ≤ (x 113 (x 124 h).toNatClampNeg).toInt + 1 ∧ v.toInt ≤ 40 ∧ (x 126 h).toInt + 1 ≤ v.toInt ∧ (v.toInt = (x 113 (x 124 h).toNatClampNeg).toInt ∨ (x 113 (x 124 h).toNatClampNeg).toInt ≤ (x 126 h).toInt) := by
          rcases w2 with w | w
          · have := pz_lt.mp w.1
            rw [w.2]
            omega
          · have := pz_nlt w.1
            rw [w.2.2.2, pz_1 (by omega)]
            omega
        obtain ⟨u1, u2, u3, u4, u5⟩ := xf_step hh hI hD hH hT hp1 hp0 hlt hst ⟨h0, q⟩ w1 hv w3 w4 w5 w6 w7 w8 w9 t1 t2 t3 t4
        have e111 : t 111 = x 111 := t1 111 (by decide) (by decide) (by decide) (by decide)
        have k := hS t p1 X post k hXu u1 hXt u2 u3 u4 hp1 hp0 (by rw [e111]; exact hlt) (by rw [t1 127 (by decide) (by decide) (by decide) (by decide)]; exact hst) (by omega) (fun rr x' i1 i2 i3 i4 i5 i6 i7 i8 => hpost rr x' i1 i2 (u5.tr i3) i4 i5 i6 i7 i8)
        rw [t1 124 (by decide) (by decide) (by decide) (by decide)] at k
        exact k
    unfold wl_X2_flush_14
    refine ⟨fun cw => ?_, fun cw => ⟨pz_in.mpr ⟨h0, ?_⟩, hi, ?_⟩⟩
    · have hy : y = c h 2 := pz_eq.mpr (by have := pz_le.mp cw; omega)
      refine ⟨fun _ s1 e1 s2 e2 => ?_, fun q => absurd hy q⟩
      rw [e2, e1]
      refine hp _ _ (kC _) (kF _) (Or.inl rfl) ?_
      intro x p1 X post k hXu hI hX hD hH hT hp1 hp0 hlt hst hk hpost
      have hcl := pz_cl p1
      have hlt' : (h : Int) < (x 111 16).toInt := by rw [← hp1, hcl]; omega
      have h20 := hI.2.1.1
      have hi20 : vp_in p1 20 := pz_in.mpr ⟨hp0, by show p1.toInt < 20; omega⟩
      obtain ⟨b1, b2, b3, b4, b5, b6⟩ := xf_end hh hI hD hH hT (kk _) (ks _) (k2 (c h 10 + y)) hlt'
      have a6 := (hH.2.2 h hlt').2.2.2.2.2.1
      cases k with
      | zero => omega
      | succ k =>
        unfold wl_X10_flush_12
        rw [hp1]
        refine ⟨hi20, fun _ => ⟨hi20, fun s e => ⟨Or.inr rfl, ?_⟩⟩, fun q => absurd (pz_le.mpr (by rw [← a6, hy]; exact Int.le_refl _)) q⟩
        rw [e]
        exact hpost 1 _ b1 (hXu _ _ _ _ (by omega) hX) b2 b3 b4 b5 b6 (Or.inr ⟨rfl, rfl⟩)
    · have := pz_nle cw
      show y.toInt < 20
      omega
    · have hcw := pz_nle cw
      refine sp_within (fun q => ⟨fun _ => ?_, fun d => absurd rfl d⟩) (fun q => ⟨fun d => absurd d (by decide), fun _ => ⟨hi, pz_in.mpr ⟨q.1, ?_⟩, fun s7 e7 => ⟨fun d => absurd d (by decide), fun _ s8 e8 => ?_⟩⟩⟩)
      · have bad : ∀ s : io_M, s = c → (40 ≤ (c 91 (c h 4).toNatClampNeg).toInt ∨ 120 ≤ (c 88 4).toInt) → ((0 : Int32) = 0 → wj_X2_flush_62 h s y post) ∧ (¬ ((0 : Int32) = 0) → (∀ s206, s206 = io_up s h 6 ((s h 6) + 1) → wl_X2_flush_14 n h s206 (y + 1) post)) := by
          intro s es hb
          subst es
          refine ⟨fun _ => ⟨fun d => ?_, fun _ s1 e1 s2 e2 => ?_⟩, fun d => absurd rfl d⟩
          · rw [d] at hcw; omega
          · rw [e2, e1]
            exact hbad _ q hb hcw
        refine ⟨hi, fun d => bad c rfl (Or.inl (by have := pz_le.mp d; omega)), fun d40 => ⟨fun d120 => ?_, fun d => bad c rfl (Or.inr (by have := pz_nlt d; omega))⟩⟩
        have hd := pz_nle d40
        have hd2 := pz_lt.mp d120
        refine ⟨hi, pz_in.mpr ⟨hlen.1, by show (c 91 (c h 4).toNatClampNeg).toInt < 40; omega⟩, fun s5 e5 => ⟨hi, fun s6 e6 s9 e9 => ⟨hi, fun s11 e11 => ⟨fun d => absurd d (by decide), fun _ s12 e12 => ?_⟩⟩⟩⟩
        have hCs : io_CI s12 := by
          rw [e12, e11, e9, e6, e5]
          exact ((((hC.up (ok_R hn)).up (ok_91 (by rw [pz_1 (by omega)]; omega))).up ok_88).up (ok_89 (by rw [vz_1]; exact Or.inr rfl))).up (ok_H hh (fun q => by omega) (fun q => by omega))
        have hFs : io_F2 c s12 := by
          rw [e12, e11, e9, e6, e5]
          exact ((((io_F2.rf.up (by omega)).up (by omega)).up (by omega)).up (by omega)).up (by omega)
        have eh : s11 h = c h := by rw [e11, pu_ne (by omega), e9, pu_ne (by omega), e6, pu_ne (by omega), e5, pu_ne (by omega)]
        refine hstep s12 (c 91 (c h 4).toNatClampNeg + 1) c hcw hCs hFs (by rw [e12, pu_same (by decide), eh]) (fun x hI hD hH hT hlt' hst => ?_)
        obtain ⟨⟨f1, f2⟩, g1, g2, gb, gw, gx⟩ := hI.2.1.2 h hlt'
        have g2 := g2 (by rw [hst]; decide)
        obtain ⟨a1, a2, a3, a4, a5, a6, a7⟩ := hH.2.2 h hlt'
        have d3 := (hD.1 _ hn).2.2.1
        have d1 := (hD.1 _ hn).1
        have hu := hD.2
        have e88 : (s12 88 4).toInt = (c 88 4).toInt + 1 := by rw [e12, pu_ne (by omega), e11, pu_ne (by decide), e9, pu_self, e6, pu_ne (by decide), e5, pu_ne (by omega), pz_1 (by omega)]
        have d3' : c 91 (c h 4).toNatClampNeg = x 113 (x 124 h).toNatClampNeg := by rw [d3, a1]
        have e13 := pz_1 (x := x 113 (x 124 h).toNatClampNeg) (by have := hI.1 (x 124 h).toNatClampNeg; omega)
        have hq : (x 113 (x 124 h).toNatClampNeg).toInt ≤ (x 126 h).toInt := by
          rw [d3', a3] at q
          omega
        have epl : c h 6 = c 91 (c h 4).toNatClampNeg := by rw [a3, d3']; exact pz_eq.mpr (by omega)
        rw [d3'] at hd
        refine ⟨by omega, Or.inr ⟨fun t => by have := pz_lt.mp t; omega, by omega, by omega, by rw [d3']⟩, fun k b1 b2 b3 b4 b5 => ?_, ?_, ?_, ?_, ?_, ?_, by omega⟩
        · rw [e12, pu_ne b2, e11, pu_ne b4, e9, pu_ne b3, e6, pu_ne b5, e5, pu_ne b1]
        · rw [e12, pu_ne (by omega), e11, pu_ne (by omega), e9, pu_ne (by omega), e6, pu_ne (by omega), e5, pu_row, epl]
        · rw [e12, pu_row, eh]
        · rw [e12, pu_ne (by omega), e11, pu_ne (by decide), e9, pu_ne (by decide), e6, pu_row, e5, pu_ne (by omega)]
        · rw [e12, pu_ne (by omega), e11, pu_row, e9, pu_ne (by decide), e6, pu_ne (by decide), e5, pu_ne (by omega), vz_1]
        · rw [e88, d3', e13]; omega
      · show (c h 6).toInt < 40
        omega
      · have hCs : io_CI s8 := by
          rw [e8, e7]
          exact (hC.up (ok_R hn)).up (ok_H hh (fun q => by omega) (fun q => by omega))
        have hFs : io_F2 c s8 := by
          rw [e8, e7]
          exact (io_F2.rf.up (by omega)).up (by omega)
        have eh : s7 h = c h := by rw [e7, pu_ne (by omega)]
        refine hstep s8 (c 91 (c h 4).toNatClampNeg) c hcw hCs hFs (by rw [e8, pu_same (by decide), eh]) (fun x hI hD hH hT hlt' hst => ?_)
        obtain ⟨a1, a2, a3, a4, a5, a6, a7⟩ := hH.2.2 h hlt'
        have d3 := (hD.1 _ hn).2.2.1
        have d1 := (hD.1 _ hn).1
        have hu := hD.2
        have dT := (hT h hlt').2 (by rw [hst]; decide)
        have d3' : c 91 (c h 4).toNatClampNeg = x 113 (x 124 h).toNatClampNeg := by rw [d3, a1]
        have d1' : c 89 (c h 4).toNatClampNeg = 1 := by rw [d1, a1, dT]
        have e88 : s8 88 = c 88 := by rw [e8, pu_ne (by omega), e7, pu_ne (by omega)]
        have q1 := q
        rw [d3', a3] at q1
        have := hI.1 (x 124 h).toNatClampNeg
        refine ⟨by omega, Or.inl ⟨pz_lt.mpr q1.2, d3'⟩, fun k b1 b2 b3 b4 b5 => ?_, ?_, ?_, ?_, ?_, ?_, by rw [e88]; omega⟩
        · rw [e8, pu_ne b2, e7, pu_ne b1]
        · rw [e8, pu_ne (by omega), e7, pu_row]
        · rw [e8, pu_row, eh]
        · rw [e8, pu_ne (by omega), e7, pu_ne (by omega), ru_id]
        · rw [e8, pu_ne (by omega), e7, pu_ne (by omega), ← d1', ru_id]
        · rw [e88, d3']; omega
end EC
