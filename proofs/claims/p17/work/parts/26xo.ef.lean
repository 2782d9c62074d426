/-- why a file may not be moved -/
def mvD (c : io_M) (f g : Int32) : Prop := (c 90 f.toNatClampNeg) &&& 2 = 0 ∨ (c 90 g.toNatClampNeg) &&& 2 = 0
def mvH (c : io_M) (f g : Int32) : Prop := hdC c f 0 ∨ hdC c g 0
def mvK (c : io_M) (f g k : Int32) : Prop := (k = 1 ∧ c 89 f.toNatClampNeg = 0) ∨ (k = 2 ∧ ¬ c 89 f.toNatClampNeg = 0 ∧ mvD c f g) ∨ (k = 0 ∧ ¬ c 89 f.toNatClampNeg = 0 ∧ ¬ mvD c f g ∧ mvH c f g) ∨ (k = -1 ∧ ¬ c 89 f.toNatClampNeg = 0 ∧ ¬ mvD c f g ∧ ¬ mvH c f g)
def pS (c : io_M) (r : Int32) (c' : io_M) (V : io_M → (io_M → Prop) → Prop) : Prop := ∀ (b0 : Int) (P : Nat) (x : io_M) (pv : io_M → Prop), b0 ≤ 1000000 → rM b0 P 41 x x → (x 111 7).toInt + (P + 1) ≤ b0 + (x 111 35).toInt → oR c x → (∀ x', rP b0 P x x' → oR c' x' → oO r c' x' → pv x') → V x pv
def vRd (n : Int32) (x : io_M) (pv : io_M → Prop) : Prop := ((x 111 5) = (x 111 4) → (wp_X10_fails x n 3 pv)) ∧ (¬ ((x 111 5) = (x 111 4)) → (∀ s14, s14 = io_up x 111 5 ((x 111 5) + 1) → (wp_X10_note s14 n (fun s17 => (vp_in ((s17 111 5) - 1) 100 ∧ (wp_X10_gives s17 0 ((s17 116 (((s17 111 5) - 1)).toNatClampNeg) &&& 255) pv))))))
def vPr (n v : Int32) (x : io_M) (pv : io_M → Prop) : Prop := (200 ≤ (x 111 7) → wj_X10_goTexts_114 x n pv) ∧ (¬ (200 ≤ (x 111 7)) → (vp_in (x 111 7) 200 ∧ ∀ s9, s9 = io_up x 117 ((x 111 7)).toNatClampNeg (v.toInt8.toInt32).toInt8.toInt32 → wj_X10_goTexts_114 s9 n pv))
section EO
variable {c x c' x' c1 σ0 s : io_M} {post : Int32 → io_M → Prop} {pv : io_M → Prop} {i j H : Nat} {p y v n k r w f g m : Int32} {b0 e : Int} {P : Nat}
theorem xo_move (hC : io_CI c) (hf : 0 ≤ f.toInt ∧ f.toInt < 8) (hg' : 0 ≤ g.toInt ∧ g.toInt < 8) (hg : mvK c f g (-1) → post 0 c) (hb : ∀ k, (k = 0 ∨ k = 1 ∨ k = 2) → mvK c f g k → post ((-1) - k) c) : wp_X3_refusalToMove c f g post := by
  have hi := pz_in (n := 8).mpr hf
  have hj := pz_in (n := 8).mpr hg'
  refine ⟨hi, CI_89 hC _, fun t => hb 1 (Or.inr (Or.inl rfl)) (Or.inl ⟨rfl, t⟩), fun t => ⟨hi, fun u => ⟨fun _ => hb 2 (Or.inr (Or.inr rfl)) (Or.inr (Or.inl ⟨rfl, t, Or.inl u⟩)), fun w => absurd rfl w⟩, fun u => ⟨fun w => absurd w (by decide), fun _ => ⟨hj, fun v => ⟨fun _ => hb 2 (Or.inr (Or.inr rfl)) (Or.inr (Or.inl ⟨rfl, t, Or.inr v⟩)), fun w => absurd rfl w⟩, fun v => ⟨fun w => absurd w (by decide), fun _ => ?_⟩⟩⟩⟩⟩
  have nd : ¬ mvD c f g := fun d => by
    rcases d with d | d
    · exact u d
    · exact v d
  refine xh_isHeld hC (fun q => ⟨fun w => absurd w (by decide), fun _ => hb 0 (Or.inl rfl) (Or.inr (Or.inr (Or.inl ⟨rfl, t, nd, Or.inl q⟩)))⟩) (fun q => ⟨fun _ => xh_isHeld hC (fun q2 => ⟨fun w => absurd w (by decide), fun _ => hb 0 (Or.inl rfl) (Or.inr (Or.inr (Or.inl ⟨rfl, t, nd, Or.inr q2⟩)))⟩) (fun q2 => ⟨fun _ => hg (Or.inr (Or.inr (Or.inr ⟨rfl, t, nd, fun d => ?_⟩))), fun w => absurd rfl w⟩), fun w => absurd rfl w⟩)
  rcases d with d | d
  · exact q d
  · exact q2 d
theorem mv_ok (h : mvK c f g (-1)) : ¬ c 89 f.toNatClampNeg = 0 ∧ ¬ mvD c f g ∧ ¬ mvH c f g := by
  rcases h with q | q | q | q
  · exact absurd q.1 (by decide)
  · exact absurd q.1 (by decide)
  · exact absurd q.1 (by decide)
  · exact q.2
theorem mv_no (hk : k = 0 ∨ k = 1 ∨ k = 2) : ((-1) - k).toInt < 0 ∧ (-1) - ((-1) - k) = k ∧ ¬ (-1) - k = 0 := by
  rcases hk with h | h | h <;> rw [h] <;> decide
/-- the reference asks the same of a file to be removed -/
theorem xr_remove (hR : oR c x) (hin : vp_in n 60) (e98 : c 98 n.toNatClampNeg = x 119 n.toNatClampNeg) (hf : 0 ≤ (c 98 n.toNatClampNeg).toInt ∧ (c 98 n.toNatClampNeg).toInt < 8) (hK : mvK c (c 98 n.toNatClampNeg) (c 98 n.toNatClampNeg) k) (hb : ¬ k = -1 → wp_X10_fails x n k pv) (hg : k = -1 → ∀ s8, s8 = io_up x 112 (c 98 n.toNatClampNeg).toNatClampNeg (vp_nar .boolean 0) → ∀ s10, s10 = io_up s8 113 (c 98 n.toNatClampNeg).toNatClampNeg 0 → wp_X10_note s10 n (fun s13 => wp_X10_gives s13 0 0 pv)) : wp_X10_remove x n pv := by
  have hi := pz_in (n := 8).mpr hf
  obtain ⟨d1, d2, d3, d4, d5, d6, d7⟩ := hR.1.1 _ (pn_8 hf)
  unfold wp_X10_remove
  rw [← e98]
  unfold mvK mvD at hK
  rw [d1, d2] at hK
  refine ⟨hin, hi, fun t => ?_, fun t => ⟨hi, fun u => ?_, fun u => xr_isHeld hR.2.1 (fun q => ⟨fun w => absurd w (by decide), fun _ => ?_⟩) (fun q => ⟨fun _ => ⟨hi, fun s8 e8 => ⟨hi, fun s10 e10 => ?_⟩⟩, fun w => absurd rfl w⟩)⟩⟩
  · rcases hK with h | h | h | h
    · have := hb (by rw [h.1]; decide)
      rw [h.1] at this
      exact this
    · exact absurd t h.2.1
    · exact absurd t h.2.1
    · exact absurd t h.2.1
  · rcases hK with h | h | h | h
    · exact absurd h.2 t
    · have := hb (by rw [h.1]; decide)
      rw [h.1] at this
      exact this
    · exact absurd (Or.inl u) h.2.2.1
    · exact absurd (Or.inl u) h.2.2.1
  · rcases hK with h | h | h | h
    · exact absurd h.2 t
    · rcases h.2.2 with w | w
      · exact absurd w u
      · exact absurd w u
    · have := hb (by rw [h.1]; decide)
      rw [h.1] at this
      exact this
    · exact absurd (Or.inl q) h.2.2.2
  · rcases hK with h | h | h | h
    · exact absurd h.2 t
    · rcases h.2.2 with w | w
      · exact absurd w u
      · exact absurd w u
    · rcases h.2.2.2 with w | w
      · exact absurd w q
      · exact absurd w q
    · exact hg h.1 s8 e8 s10 e10
theorem xd_remove (hw : io_WI b0 (e + 1) c) (he : 0 ≤ e) (hn : io_nd c n) (hf : 0 ≤ (c 98 n.toNatClampNeg).toInt ∧ (c 98 n.toNatClampNeg).toInt < 8) (hp : ∀ r c', io_WI b0 e c' → io_Fr c c' → aS c r c' (fun x pv => wp_X10_remove x n pv) → post r c') : wp_X3_removeFile c (c 98 n.toNatClampNeg) (fun r s => wp_X8_act s n 0 r post) := by
  have hi := pz_in (n := 8).mpr hf
  have hin := hn.in hw.2.1
  have hF8 := pn_8 hf
  have z0 := l_0
  refine xo_move hw.1 hf hf (fun hK => ⟨fun _ => ⟨hi, fun s1 e1 => ⟨hi, fun s2 e2 => ⟨hi, fun s3 e3 => ?_⟩⟩⟩, fun q => absurd rfl q⟩) (fun k hk hK => ⟨fun q => absurd q (mv_no hk).2.2, fun _ => xa_actF hw (mv_no hk).1 (mv_no hk).2.1 (fun a b => hp _ _ a b ?_)⟩)
  · rw [vz_0] at e3
    have hC3 : io_CI s3 := by rw [e3, e2, e1]; exact ((hw.1.up ok_88).up (ok_91 (by rw [l_0]; omega))).up (ok_89 (Or.inl rfl))
    have hF3 : io_F0 c s3 := by rw [e3, e2, e1]; exact ((io_F0.rf.up (by omega)).up (by omega)).up (by omega)
    have hw3 := hw.f3 hC3 hF3.to3
    refine xa_actG hw3 he (by rw [l_0]; omega) (fun c1 hN a b => hp _ _ a (hF3.to3.toR.tr b) ?_)
    intro b0 P x pv hM hR hk
    obtain ⟨s97, s98, s99, s100⟩ := nd_s hR hn
    refine xr_remove hR hin s98 hf hK (fun q => absurd rfl q) (fun _ s8 e8 s10 e10 => ?_)
    rw [vz_0] at e8
    have hnh := hd_n hR (fun q => (mv_ok hK).2.2 (Or.inl q))
    obtain ⟨d1, d2, d3, d4, d5, d6, d7⟩ := hR.1.1 _ hF8
    have hsub := sN_le (r := x 113) 8 hF8 (fun j hj => (hR.1.1 j hj).2.2.2.2.2.1)
    have hu := hR.1.2
    have gx : ∀ k, k ≠ 112 → k ≠ 113 → s10 k = x k := fun k a b => by rw [e10, pu_ne b, e8, pu_ne a]
    have r112 : s10 112 = ru (x 112) (c 98 n.toNatClampNeg).toNatClampNeg 0 := by rw [e10, pu_ne (by decide), e8, pu_row]
    have r113 : s10 113 = ru (x 113) (c 98 n.toNatClampNeg).toNatClampNeg 0 := by rw [e10, pu_row, e8, pu_ne (by decide)]
    have gk : ∀ k, k ≠ 88 → k ≠ 89 → k ≠ 91 → s3 k = c k := fun k a b d => by rw [e3, pu_ne b, e2, pu_ne d, e1, pu_ne a]
    have g88 : (s3 88 4).toInt = (c 88 4).toInt - (x 113 (c 98 n.toNatClampNeg).toNatClampNeg).toInt := by rw [e3, pu_ne (by decide), e2, pu_ne (by decide), e1, pu_self, pz_sub (by rw [d3]; omega), d3]
    have g89 : s3 89 = ru (c 89) (c 98 n.toNatClampNeg).toNatClampNeg 0 := by rw [e3, pu_row, e2, pu_ne (by decide), e1, pu_ne (by decide)]
    have g91 : s3 91 = ru (c 91) (c 98 n.toNatClampNeg).toNatClampNeg 0 := by rw [e3, pu_ne (by decide), e2, pu_row, e1, pu_ne (by decide)]
    have hM10 : rM b0 P 41 x s10 := by
      refine ⟨rI_bytes (c 98 n.toNatClampNeg) 0 hM.1 hf.1 r113 (fun k q => gx k (by omega) (by omega)) (by rw [gx 111 (by decide) (by decide)]) (by rw [gx 111 (by decide) (by decide)]) (by omega) hnh, ?_⟩
      rw [e10, e8]
      exact rX_up (rX_up hM.2 (by omega)) (by omega)
    have hR10 : oR s3 s10 := by
      refine hR.dk (by rw [hM.2.2.2.1.2]; decide) hF3 (fun k a b _ => gx k a b) ?_ (fun h hh => ?_)
      · refine hR.1.set (c 98 n.toNatClampNeg).toNatClampNeg hF8 (gk 90 (by decide) (by decide) (by decide)) (gx 115 (by decide) (by decide)) (fun f' a b => ⟨by rw [g89, ru_ne b], by rw [g91, ru_ne b], gk (80 + f') (by omega) (by omega) (by omega), by rw [r112, ru_ne b], by rw [r113, ru_ne b], fun i hi => by rw [gx 114 (by decide) (by decide)]⟩) (by rw [g89, ru_self, r112, ru_self]) (by rw [g91, ru_self, r113, ru_self]) (by rw [r112, ru_self]; exact Or.inl rfl) (fun _ => by rw [r113, ru_self]) (by rw [r113, ru_self]; omega) (fun i hi => by rw [r113, ru_self] at hi; omega) (by rw [g88, r113, ru_self]; omega) (by rw [g88]; omega)
      · rw [gx 111 (by decide) (by decide)] at hh
        rw [gx 124 (by decide) (by decide), gx 127 (by decide) (by decide), r112]
        have q := hR.2.2.1 h hh
        have hfh := (hM.1.2.1.2 h hh).1
        refine ⟨q.1, fun t => ?_⟩
        rw [ru_ne (fun u => t (hnh h hh (pz_ne8 hfh.1 hf.1 u)))]
        exact q.2 t
    exact en_ng (m := 40) hM10 (by omega) hR10 hN hk
  · intro b0 P x pv hM hR hk2
    obtain ⟨s97, s98, s99, s100⟩ := nd_s hR hn
    refine xr_remove hR hin s98 hf hK (fun _ => en_fail hM (by omega) hR hk2) (fun q => ?_)
    rcases hk with h | h | h <;> rw [h] at q <;> exact absurd q (by decide)
theorem xd_read (hw : io_WI b0 (e + 1) c) (he : 0 ≤ e) (hp : ∀ r c', io_WI b0 e c' → io_Fr c c' → aS c r c' (vRd n) → post r c') : wp_X0_readByte c (fun r s => wp_X8_act s n 0 r post) := by
  have h1 := CI_come hw.1
  have h2 := CI_gone hw.1
  refine ⟨fun q => ⟨pz_in.mpr ⟨h2.1, ?_⟩, fun s1 e1 => ?_⟩, fun q => xa_actF (k := 3) hw (by decide) (by decide) (fun a b => hp _ _ a b ?_)⟩
  · have := pz_lt.mp q
    show (c 93 3).toInt < 100
    omega
  · have hq := pz_lt.mp q
    have hC1 : io_CI s1 := by rw [e1]; exact hw.1.up ⟨fun q => by omega, fun _ => by rw [pz_1 (by omega)]; omega⟩
    have hF1 : io_Fr c s1 := by rw [e1]; exact io_Fr.rf.up (by omega)
    have gk : ∀ k, k ≠ 93 → s1 k = c k := fun k a => by rw [e1, pu_ne a]
    have hw1 := hw.c hC1 hF1 gk (by rw [e1, pu_same (by decide)])
    have vr : ∀ x : io_M, oR c x → c 94 (c 93 3).toNatClampNeg = x 116 (x 111 5).toNatClampNeg &&& 255 := by
      intro x hR
      have hc := hR.2.2.2.2.2.1
      rw [hc.1.2.1]
      rw [hc.1.2.1, hc.1.1] at hq
      rw [hc.1.2.1] at h2
      exact hc.2.1 _ (by rw [pz_cl]; omega)
    by_cases hneg : (c 94 (c 93 3).toNatClampNeg).toInt < 0
    · refine xa_actF hw1 hneg rfl (fun a b => hp _ _ a (hF1.tr b) ?_)
      intro b0 P x pv hM hR hk
      rw [vr x hR] at hneg
      have := by_r (x 116 (x 111 5).toNatClampNeg)
      omega
    · refine xa_actG hw1 he (by omega) (fun c1 hN a b => hp _ _ a (hF1.tr b) ?_)
      intro b0 P x pv hM hR hk
      rw [vr x hR] at hk
      have hc := hR.2.2.2.2.2.1
      obtain ⟨hI, ⟨c1', c2', c3'⟩, hF, ⟨h38, h48⟩, hww, ho, ho2, hu, hu2⟩ := hM
      rw [hc.1.2.1, hc.1.1] at hq
      refine ⟨fun t => ?_, fun t s14 e14 => ?_⟩
      · rw [t] at hq; omega
      · have hs : ∀ j, j ≠ 5 → s14 111 j = x 111 j := fun j a => by rw [e14, pu_s a]
        have hk' : ∀ k, k ≠ 111 → s14 k = x k := fun k a => by rw [e14, pu_ne a]
        have e5' : s14 111 5 = x 111 5 + 1 := by rw [e14, pu_self]
        have e5 : (s14 111 5).toInt = (x 111 5).toInt + 1 := by rw [e5', pz_1 (by omega)]
        have hM14 : rM b0 P (40 + 1) x s14 := by
          refine ⟨by rw [e14]; exact rI_s hI (by omega), ?_, ⟨fun k q => hk' k (by omega), hs 9 (by decide), by rw [hs 16 (by decide)]; exact Int.le_refl _, by rw [hs 28 (by decide)]; exact Int.le_refl _, hs 35 (by decide)⟩, ?_, ?_⟩
          · unfold rC
            rw [e5, hs 4 (by decide)]
            omega
          · rw [hs 38 (by decide), hs 48 (by decide)]
            exact ⟨h38, h48⟩
          · rw [hs 35 (by decide), hs 33 (by decide), hs 7 (by decide)]
            exact ⟨hww, ho, by omega, hu, hu2⟩
        have hR14 : oR s1 s14 := by
          have hv := hR.v (by rw [h48]; decide)
          obtain ⟨r1, r2, r3, r4, r5, r6, r7, r8, r9⟩ := hR
          refine ⟨r1.cg (fun k a b => gk k (by omega)) (fun k a b => hk' k (by omega)), r2.cg (fun k a => gk k (by omega)) (by rw [gk 101 (by decide)]) (hs 16 (by decide)) (fun k a => hk' k (by omega)), r3.cg (hs 16 (by decide)) (fun k a => hk' k (by omega)), r4.cg (fun k a b => gk k (by omega)) (by rw [gk 103 (by decide)]) (hs 28 (by decide)) (fun k a => hk' k (by omega)), r5.cg (by rw [gk 105 (by decide)]) (gk 106 (by decide)) (hs 33 (by decide)) (hk' 139 (by decide)), ?_, r7.cg (fun k a b => gk k (by omega)) (hs 9 (by decide)) (fun k a b => hk' k (by omega)), by rw [gk 107 (by decide), hs 35 (by decide)]; exact r8, Or.inr (hv.cg (gk 108 (by decide)) (gk 109 (by decide)) (hk' 122 (by decide)) (hk' 123 (by decide)))⟩
          obtain ⟨⟨a1, a2, a3⟩, a4, a5⟩ := r6
          unfold oC
          rw [hs 4 (by decide), hs 7 (by decide), hk' 116 (by decide), hk' 117 (by decide), gk 94 (by decide), gk 95 (by decide), e5', e1, pu_same (by decide), pu_self, pu_same (by decide)]
          exact ⟨⟨a1, by rw [a2], a3⟩, a4, a5⟩
        refine en_note (m := 40) hM14 (by omega) hR14 hN (fun x9 m1 m2 m3 m4 => ?_)
        have e9 : (x9 111 5 - 1) = x 111 5 := pz_eq.mpr (by rw [m4 5 (by decide), e5', pz_s1 (by rw [pz_1 (by omega)]; omega), pz_1 (by omega)]; omega)
        rw [e9, m3 116 (by decide) (by decide), hk' 116 (by decide)]
        exact ⟨pz_in.mpr ⟨c1', by show (x 111 5).toInt < 100; omega⟩, en_give m1 (by omega) m2 tv_0 (Or.inl rfl) hk⟩
  · intro b0 P x pv hM hR hk
    have hc := hR.2.2.2.2.2.1
    have hq := pz_nlt q
    rw [hc.1.2.1, hc.1.1] at hq
    have hC := hM.2.1
    exact ⟨fun _ => en_fail hM (by omega) hR hk, fun t => absurd (pz_eq.mpr (by have := hC.2.1; omega)) t⟩
theorem xd_print (hb : b0 ≤ 1000000) (hw : io_WI b0 (e + 1) c) (he : 0 ≤ e) (hp : ∀ r c', io_WI b0 e c' → io_Fr c c' → pS c r c' (vPr n v) → post r c') : wp_X0_print c v (fun r s => wp_X8_act s n 0 r post) := by
  have hsafe := sp_print (x := v) (post := fun r s => io_CI s ∧ io_Sc s ∧ io_Fr c s ∧ (0 ≤ (s 107 10).toInt ∧ (s 107 10).toInt ≤ 600 ∧ 0 ≤ (s 105 1).toInt ∧ (s 105 1).toInt + 41 * (e + 1) ≤ 41 * (s 107 10).toInt ∧ 0 ≤ (s 93 4).toInt ∧ (s 93 4).toInt + e ≤ b0 + (s 107 10).toInt)) he hb hw (fun r s a b d f => ⟨a, b, d, f⟩)
  have z := l_200
  have z0 := l_0
  have hb5 := hw.2.2
  obtain ⟨w1, w2, w3, w4, w5, w6⟩ := hb5
  -- the class has printed: s1, its answer the count
  have key : ∀ s1 : io_M, io_CI s1 ∧ io_Sc s1 ∧ io_Fr c s1 ∧ (0 ≤ (s1 107 10).toInt ∧ (s1 107 10).toInt ≤ 600 ∧ 0 ≤ (s1 105 1).toInt ∧ (s1 105 1).toInt + 41 * (e + 1) ≤ 41 * (s1 107 10).toInt ∧ 0 ≤ (s1 93 4).toInt ∧ (s1 93 4).toInt + e ≤ b0 + (s1 107 10).toInt) → (∀ k, k ≠ 93 → k ≠ 95 → s1 k = c k) → (∀ j, j ≠ 4 → s1 93 j = c 93 j) → s1 93 4 = c 93 4 + 1 → ((c 93 4).toInt < 200 → s1 95 = ru (c 95) (c 93 4).toNatClampNeg (v &&& 255)) → (200 ≤ (c 93 4).toInt → s1 95 = c 95) → wp_X8_act s1 n 0 (s1 93 4) post := by
    intro s1 hs gk gj g4 g5 g6
    obtain ⟨hC, hS, hF, hB⟩ := hs
    refine ⟨fun q => absurd (pz_lt.mp q) (by omega), fun _ => xa_note1 hC hS ⟨hB.2.2.1, by omega⟩ (fun c1 hC1 hF1 hN => ?_)⟩
    have hcb : (c1 105 1).toInt = (s1 105 1).toInt + 1 := by rw [hN.2.1, pz_1 (by omega)]
    have hw1 : io_WI b0 e c1 := ⟨hC1, hS.of hF1, by unfold io_Bd; rw [hN.1 107 (by decide) (by decide), hN.1 93 (by decide) (by decide), hcb]; omega⟩
    refine xa_setG hw1 hB.2.2.2.2.1 (fun a b => hp _ _ a ((hF.tr hF1).tr b) ?_)
    intro b0 P x pv hb0 hM hout hR hk
    obtain ⟨hI, hC', hF', ⟨h38, h48⟩, hww, ho, ho2, hu, hu2⟩ := hM
    have hMx : rM b0 P 41 x x := ⟨hI, hC', hF', ⟨h38, h48⟩, hww, ho, ho2, hu, hu2⟩
    obtain ⟨r1, r2, r3, r4, r5, r6, r7, r8, r9⟩ := hR
    obtain ⟨⟨a1, a2, a3⟩, a4, a5⟩ := r6
    have ex7 := pz_1 (x := x 111 7) (by omega)
    have hcl7 := pz_cl (x 111 7)
    have hv : oV c x := by
      rcases r9 with q | q
      · rw [h48] at q; exact absurd q (by decide)
      · exact q
    have e7' : s1 93 4 = x 111 7 + 1 := by rw [g4, a3]
    rw [e7'] at hk
    rw [a3] at g5 g6
    have last : ∀ s5 : io_M, rM b0 P 41 x s5 → (∀ k, k ≠ 117 → s5 k = x k) → ((x 111 7).toInt < 200 → s5 117 = ru (x 117) (x 111 7).toNatClampNeg (v.toInt8.toInt32).toInt8.toInt32) → (200 ≤ (x 111 7).toInt → s5 117 = x 117) → wj_X10_goTexts_114 s5 n pv := by
      intro s5 h5 k5 p1 p2 s101 e101
      have hs : ∀ j, j ≠ 7 → s101 111 j = x 111 j := fun j a => by rw [e101, pu_s a, k5 111 (by decide)]
      have hk' : ∀ k, k ≠ 111 → s101 k = s5 k := fun k a => by rw [e101, pu_ne a]
      have gx : ∀ k, k ≠ 111 → k ≠ 117 → s101 k = x k := fun k a b => by rw [hk' k a, k5 k b]
      have e7 : s101 111 7 = x 111 7 + 1 := by rw [e101, pu_self, k5 111 (by decide)]
      have hM1 : rM b0 P (40 + 1) x s101 := by
        refine ⟨by rw [e101]; exact rI_s h5.1 (by omega), ?_, ⟨fun k q => (hk' k (by omega)).trans (h5.2.2.1.1 k q), hs 9 (by decide), by rw [hs 16 (by decide)]; exact Int.le_refl _, by rw [hs 28 (by decide)]; exact Int.le_refl _, hs 35 (by decide)⟩, ?_, ?_⟩
        · unfold rC
          rw [hs 5 (by decide), hs 4 (by decide)]
          exact hC'
        · rw [hs 38 (by decide), hs 48 (by decide)]
          exact ⟨h38, h48⟩
        · rw [hs 35 (by decide), hs 33 (by decide), e7, ex7]
          exact ⟨hww, ho, by omega, by omega, by omega⟩
      have hR1 : oR s1 s101 := by
        refine ⟨r1.cg (fun k a b => gk k (by omega) (by omega)) (fun k a b => gx k (by omega) (by omega)), r2.cg (fun k a => gk k (by omega) (by omega)) (by rw [gk 101 (by decide) (by decide)]) (hs 16 (by decide)) (fun k a => gx k (by omega) (by omega)), r3.cg (hs 16 (by decide)) (fun k a => gx k (by omega) (by omega)), r4.cg (fun k a b => gk k (by omega) (by omega)) (by rw [gk 103 (by decide) (by decide)]) (hs 28 (by decide)) (fun k a => gx k (by omega) (by omega)), r5.cg (by rw [gk 105 (by decide) (by decide)]) (gk 106 (by decide) (by decide)) (hs 33 (by decide)) (gx 139 (by decide) (by decide)), ?_, r7.cg (fun k a b => gk k (by omega) (by omega)) (hs 9 (by decide)) (fun k a b => gx k (by omega) (by omega)), by rw [gk 107 (by decide) (by decide), hs 35 (by decide)]; exact r8, Or.inr (hv.cg (gk 108 (by decide) (by decide)) (gk 109 (by decide) (by decide)) (gx 122 (by decide) (by decide)) (gx 123 (by decide) (by decide)))⟩
        unfold oC
        rw [hs 4 (by decide), hs 5 (by decide), e7, gx 116 (by decide) (by decide), gk 94 (by decide) (by decide), gj 2 (by decide), gj 3 (by decide), e7', hk' 117 (by decide)]
        refine ⟨⟨a1, a2, rfl⟩, a4, fun i hi hj => ?_⟩
        rw [ex7] at hj
        by_cases q : (x 111 7).toInt < 200
        · rw [g5 q, p1 q]
          by_cases t : i = (x 111 7).toNatClampNeg
          · rw [t, ru_self, ru_self, bp_b, bp_b]
          · rw [ru_ne t, ru_ne t]
            exact a5 i hi (by omega)
        · rw [g6 (by omega), p2 (by omega)]
          exact a5 i hi (by omega)
      refine en_note (m := 40) hM1 (by omega) hR1 hN (fun x9 m1 m2 m3 m4 => ?_)
      rw [m4 7 (by decide), e7]
      exact en_give m1 (by omega) m2 tv_0 (Or.inl rfl) hk
    refine ⟨fun q => last x hMx (fun _ _ => rfl) (fun t => by have := pz_le.mp q; omega) (fun _ => rfl), fun q => ⟨pz_in.mpr ⟨hu, ?_⟩, fun s9 e9 => last s9 (by rw [e9]; exact rM_up hMx (by omega)) (fun k a => by rw [e9, pu_ne a]) (fun _ => by rw [e9, pu_row]) (fun t => by have := pz_nle q; omega)⟩⟩
    have := pz_nle q
    show _ < (200 : Int)
    omega
  refine ⟨fun q s1 e1 => ?_, fun q => ⟨(hsafe.2 q).1, fun s5 e5 s7 e7 => ?_⟩⟩
  · have hq := pz_le.mp q
    exact key s1 (hsafe.1 q s1 e1) (fun k a b => by rw [e1, pu_ne a]) (fun j a => by rw [e1, pu_same a]) (by rw [e1, pu_self]) (fun t => by omega) (fun _ => by rw [e1, pu_ne (by decide)])
  · have hq := pz_nle q
    have f5 : s5 93 = c 93 := by rw [e5, pu_ne (by decide)]
    exact key s7 ((hsafe.2 q).2 s5 e5 s7 e7) (fun k a b => by rw [e7, pu_ne a, e5, pu_ne b]) (fun j a => by rw [e7, pu_same a, f5]) (by rw [e7, pu_self, f5]) (fun _ => by rw [e7, pu_ne (by decide), e5, pu_row]) (fun t => by omega)
end EO
