section EN
variable {c x c' x' c1 σ0 s : io_M} {post : Int32 → io_M → Prop} {pv : io_M → Prop} {i j H : Nat} {p y v n k r w f g m : Int32} {b0 e : Int} {P : Nat}
/-- the disk moved, no handle -/
theorem oR.dk (hR : oR c x) (hg : ¬ x 111 48 = 3) (hF : io_F0 c c') (hx : ∀ k, k ≠ 112 → k ≠ 113 → k ≠ 114 → x' k = x k) (hD : oD c' x') (hT : oT x') : oR c' x' :=
  hR.dh hg hF.to2 (fun k b1 b2 b3 _ _ _ _ _ _ _ => hx k b1 b2 b3) hD (hR.2.1.cg (fun k a => hF.2.1 k (by omega)) (by rw [hF.2.2 101 (by omega)]) (by rw [hx 111 (by decide) (by decide) (by decide)]) (fun k a => hx k (by omega) (by omega) (by omega))) hT
/-- one more handle -/
theorem oR.new {Q : Int} {mm : Int} (hR : oR c x) (hM : rM b0 P mm σ0 x) (hH : H = (x 111 16).toNatClampNeg) (h20 : (x 111 16).toInt < 20) (hf : 0 ≤ f.toInt ∧ f.toInt < 8) (hc : ∀ k, k ≠ H → k ≠ 88 → k ≠ 89 → k ≠ 91 → k ≠ 101 → (k < 80 ∨ 88 ≤ k) → c' k = c k) (h101 : c' 101 2 = c 101 2 + 1) (h4 : c' H 4 = f) (h5 : c' H 5 = m) (h6 : c' H 6 = y) (h7 : c' H 7 = 0) (h3 : c' H 3 = 0) (h2 : c' H 2 = 0) (hD : oD c' x') (hx : ∀ k, k ≠ 111 → k ≠ 112 → k ≠ 113 → k ≠ 114 → k ≠ 124 → k ≠ 125 → k ≠ 126 → k ≠ 127 → k ≠ 129 → k ≠ 130 → k ≠ 132 → k ≠ 133 → k ≠ 134 → x' k = x k) (hs : ∀ j, j ≠ 16 → x' 111 j = x 111 j) (h16 : x' 111 16 = x 111 16 + 1) (r112 : x' 112 = ru (x 112) f.toNatClampNeg 1) (r124 : x' 124 = ru (x 124) H f) (r125 : x' 125 = ru (x 125) H m) (r126 : x' 126 = ru (x 126) H y) (r127 : x' 127 = ru (x 127) H 0) (r129 : x' 129 = ru (x 129) H 0) (r130 : x' 130 = ru (x 130) H 0) : oR c' x' := by
  have g0 := hM.2.2.2.1.2
  have hcl := pz_cl (x 111 16)
  have hI := hM.1
  obtain ⟨r1, r2, r3, r4, r5, r6, r7, r8, r9⟩ := hR
  have hb := r2.2.1
  have e1 := pz_1 (x := x 111 16) (by omega)
  have gc : ∀ k, k ≠ H → 92 ≤ k → k ≠ 101 → c' k = c k := fun k a b d => hc k a (by omega) (by omega) (by omega) d (by omega)
  have gl : ∀ k, k ≠ H → k < 80 → c' k = c k := fun k a b => hc k a (by omega) (by omega) (by omega) (by omega) (by omega)
  have hH20 : H < 20 := by omega
  have gx : ∀ k, 115 ≤ k → k ≤ 123 → x' k = x k := fun k a b => hx k (by omega) (by omega) (by omega) (by omega) (by omega) (by omega) (by omega) (by omega) (by omega) (by omega) (by omega) (by omega) (by omega)
  have gx2 : ∀ k, 135 ≤ k → x' k = x k := fun k a => hx k (by omega) (by omega) (by omega) (by omega) (by omega) (by omega) (by omega) (by omega) (by omega) (by omega) (by omega) (by omega) (by omega)
  have e131 : x' 131 = x 131 := hx 131 (by decide) (by decide) (by decide) (by decide) (by decide) (by decide) (by decide) (by decide) (by decide) (by decide) (by decide) (by decide) (by decide)
  have z0 := l_0
  refine ⟨hD, ⟨by rw [h101, r2.1, h16], by rw [h16, e1]; omega, fun h hh => ?_⟩, fun h hh => ?_, ⟨by rw [gc 103 (by omega) (by omega) (by decide), hs 28 (by decide)]; exact r4.1, by rw [hs 28 (by decide)]; exact r4.2.1, fun l hl => ?_⟩, r5.cg (by rw [gc 105 (by omega) (by omega) (by decide)]) (gc 106 (by omega) (by omega) (by decide)) (hs 33 (by decide)) (gx2 139 (by omega)), r6.cg (gc 93 (by omega) (by omega) (by decide)) (gc 94 (by omega) (by omega) (by decide)) (gc 95 (by omega) (by omega) (by decide)) (fun j a => hs j (by omega)) (gx 116 (by omega) (by omega)) (gx 117 (by omega) (by omega)), r7.cg (fun k a b => gc k (by omega) (by omega) (by omega)) (hs 9 (by decide)) (fun k a b => gx k (by omega) (by omega)), by rw [gc 107 (by omega) (by omega) (by decide), hs 35 (by decide)]; exact r8, ?_⟩
  · rw [h16, e1] at hh
    rw [r124, r125, r126, r127, r129, r130, e131]
    by_cases t : h = H
    · rw [t, ru_self, ru_self, ru_self, ru_self, ru_self, ru_self]
      exact ⟨h4, h5, h6, h7, h3, h2, fun i hi => by omega⟩
    · rw [ru_ne t, ru_ne t, ru_ne t, ru_ne t, ru_ne t, ru_ne t, gl h t (by omega), gl (20 + h) (by omega) (by omega)]
      exact r2.2.2 h (by omega)
  · rw [h16, e1] at hh
    rw [r124, r127, r112]
    by_cases t : h = H
    · rw [t, ru_self, ru_self, ru_self]
      exact ⟨Or.inl rfl, fun _ => rfl⟩
    · rw [ru_ne t, ru_ne t]
      have q := r3 h (by omega)
      refine ⟨q.1, fun u => ?_⟩
      by_cases v : (x 124 h).toNatClampNeg = f.toNatClampNeg
      · rw [v, ru_self]
      · rw [ru_ne v]; exact q.2 u
  · rw [hs 28 (by decide)] at hl
    have := r4.2.1
    obtain ⟨b1, b2, b3, b4⟩ := r4.2.2 l hl
    have k1 := (hI.2.2.1.2.2 l hl).1
    have hcl2 := pz_cl (x 135 l)
    rw [gl (40 + l) (by omega) (by omega), gl (20 + (40 + l)) (by omega) (by omega), gx2 135 (by omega), gx2 136 (by omega), gx2 137 (by omega), gx2 138 (by omega), r127, ru_ne (by omega)]
    exact ⟨b1, b2, b3, b4⟩
  · rcases r9 with q | q
    · rw [g0] at q; exact absurd q (by decide)
    · exact Or.inr (q.cg (gc 108 (by omega) (by omega) (by decide)) (gc 109 (by omega) (by omega) (by decide)) (gx 122 (by omega) (by omega)) (gx 123 (by omega) (by omega)))
theorem hd_n (hR : oR c x) (h : ¬ hdC c f 0) : ∀ h : Nat, (h : Int) < (x 111 16).toInt → x 124 h = f → x 127 h = 2 := by
  intro h' hh e
  by_cases t : x 127 h' = 2
  · exact t
  · exact absurd ((hd_0 hR.2.1).mpr ⟨h', hh, e, t⟩) h
theorem xd_open (hw : io_WI b0 (e + 1) c) (he : 0 ≤ e) (hn : io_nd c n) (hf : 0 ≤ (c 98 n.toNatClampNeg).toInt ∧ (c 98 n.toNatClampNeg).toInt < 8) (hm : 0 ≤ (c 99 n.toNatClampNeg).toInt ∧ (c 99 n.toNatClampNeg).toInt < 4) (hp : ∀ r c', io_WI b0 e c' → io_Fr c c' → aS c r c' (fun x pv => wp_X10_opens x n pv) → post r c') : wp_X3_open c (c 98 n.toNatClampNeg) (c 99 n.toNatClampNeg) (fun r s => wp_X8_act s n 1 r post) := by
  have hi := pz_in (n := 8).mpr hf
  have hcc := CI_hc hw.1
  have hin := hn.in hw.2.1
  have z0 := l_0
  have z1 := l_1
  have hF8 := pn_8 hf
  refine xo_refuse hw.1 hf (fun hK => ⟨fun _ => ⟨hi, fun s1 e1 => ?_⟩, fun q => absurd rfl q⟩) (fun k hk hK => ⟨fun q => ?_, fun _ => ?_⟩)
  · have hK' := hK
    have h20 : (c 101 2).toInt < 20 := by
      rcases hK' with q | q | q | q | q
      · exact absurd q.1 (by decide)
      · exact absurd q.1 (by decide)
      · exact absurd q.1 (by decide)
      · exact absurd q.1 (by decide)
      · exact q.2.2.2.2
    have hnh : c 99 n.toNatClampNeg = 1 → ¬ hdC c (c 98 n.toNatClampNeg) 0 := by
      intro q1 q2
      rcases hK' with q | q | q | q | q
      · exact absurd q.1 (by decide)
      · exact absurd q.1 (by decide)
      · exact absurd q.1 (by decide)
      · exact absurd q.1 (by decide)
      · exact q.2.2.2.1 (Or.inr ⟨by rw [q1]; decide, q2⟩)
    -- behind create and, for a file to be written anew, makeEmpty
    have key : ∀ cd : io_M, io_CI cd → io_F0 c cd → (∀ k, k ≠ 88 → k ≠ 89 → k ≠ 91 → cd k = c k) → cd 89 = ru (c 89) (c 98 n.toNatClampNeg).toNatClampNeg 1 → cd 91 = ru (c 91) (c 98 n.toNatClampNeg).toNatClampNeg (if c 99 n.toNatClampNeg = 1 then 0 else c 91 (c 98 n.toNatClampNeg).toNatClampNeg) → cd 88 4 = (if c 99 n.toNatClampNeg = 1 then c 88 4 - c 91 (c 98 n.toNatClampNeg).toNatClampNeg else c 88 4) → wj_X3_open_34 cd (c 98 n.toNatClampNeg) (c 99 n.toNatClampNeg) (fun r s => wp_X8_act s n 1 r post) := by
      intro cd hCd hFd hkd d89 d91 d88
      have e101 : cd 101 = c 101 := hkd 101 (by decide) (by decide) (by decide)
      have hv : vp_in (cd 101 2) 20 := pz_in.mpr (by rw [e101]; exact ⟨hcc.1, h20⟩)
      have hj := io_lt hv
      have hcl := pz_cl (c 101 2)
      rw [e101] at hj
      -- the handle begun with place w
      have fin : ∀ (w : Int32) (s0 : io_M), (c 99 n.toNatClampNeg = 2 → w = cd 91 (c 98 n.toNatClampNeg).toNatClampNeg) → (¬ c 99 n.toNatClampNeg = 2 → w = 0) → s0 = io_up (io_up cd (c 101 2).toNatClampNeg 4 (c 98 n.toNatClampNeg)) (c 101 2).toNatClampNeg 5 (c 99 n.toNatClampNeg) → wj_X2_begin_28 (c 101 2).toNatClampNeg s0 w (fun s103 => ∀ s104, s104 = io_up s103 101 2 ((s103 101 2) + 1) → wp_X8_act s104 n 1 ((s104 101 2) - 1) post) := by
        intro w s0 hw1 hw2 es0 t1 f1 t2 f2 t3 f3 t4 f4 t5 f5 t6 f6 t7 f7 s4 f8
        have gk : ∀ k, k ≠ (c 101 2).toNatClampNeg → t7 k = cd k := fun k q => by rw [f7, pu_ne q, f6, pu_ne q, f5, pu_ne q, f4, pu_ne q, f3, pu_ne q, f2, pu_ne q, f1, pu_ne q, es0, pu_ne q, pu_ne q]
        have e7 : t7 101 = c 101 := by rw [gk 101 (by omega), e101]
        rw [e7] at f8
        have gk4 : ∀ k, k ≠ (c 101 2).toNatClampNeg → k ≠ 101 → s4 k = cd k := fun k q1 q2 => by rw [f8, pu_ne q2, gk k q1]
        have e4 : s4 101 2 = c 101 2 + 1 := by rw [f8, pu_self]
        have s4H : s4 (c 101 2).toNatClampNeg = t7 (c 101 2).toNatClampNeg := by rw [f8, pu_ne (by omega)]
        have v4 : s4 (c 101 2).toNatClampNeg 4 = c 98 n.toNatClampNeg := by rw [s4H, f7, pu_same (by decide), f6, pu_same (by decide), f5, pu_same (by decide), f4, pu_same (by decide), f3, pu_same (by decide), f2, pu_same (by decide), f1, pu_same (by decide), es0, pu_same (by decide), pu_self]
        have v5 : s4 (c 101 2).toNatClampNeg 5 = c 99 n.toNatClampNeg := by rw [s4H, f7, pu_same (by decide), f6, pu_same (by decide), f5, pu_same (by decide), f4, pu_same (by decide), f3, pu_same (by decide), f2, pu_same (by decide), f1, pu_same (by decide), es0, pu_self]
        have v6 : s4 (c 101 2).toNatClampNeg 6 = w := by rw [s4H, f7, pu_same (by decide), f6, pu_same (by decide), f5, pu_same (by decide), f4, pu_same (by decide), f3, pu_same (by decide), f2, pu_same (by decide), f1, pu_self]
        have v7 : s4 (c 101 2).toNatClampNeg 7 = 0 := by rw [s4H, f7, pu_same (by decide), f6, pu_same (by decide), f5, pu_same (by decide), f4, pu_same (by decide), f3, pu_same (by decide), f2, pu_self]
        have v3 : s4 (c 101 2).toNatClampNeg 3 = 0 := by rw [s4H, f7, pu_same (by decide), f6, pu_same (by decide), f5, pu_same (by decide), f4, pu_same (by decide), f3, pu_self]
        have v2 : s4 (c 101 2).toNatClampNeg 2 = 0 := by rw [s4H, f7, pu_same (by decide), f6, pu_same (by decide), f5, pu_same (by decide), f4, pu_self]
        have hg : ∀ (j : Nat) (v : Int32), j ≠ 2 → j ≠ 4 → io_ok (c 101 2).toNatClampNeg j v := fun j v h2 h4 => ok_H hj (fun q => absurd q h2) (fun q => absurd q h4)
        have hC4 : io_CI s4 := by
          rw [f8, f7, f6, f5, f4, f3, f2, f1, es0]
          refine (((((((((hCd.up (ok_H hj (fun q => by omega) (fun _ => by omega))).up (hg 5 _ (by decide) (by decide))).up (hg 6 _ (by decide) (by decide))).up (hg 7 _ (by decide) (by decide))).up (hg 3 _ (by decide) (by decide))).up (ok_H hj (fun _ => by omega) (fun q => by omega))).up (hg 8 _ (by decide) (by decide))).up (hg 9 _ (by decide) (by decide))).up (hg 10 _ (by decide) (by decide))).up (ok_101 ?_)
          rw [pz_1 (by omega)]; omega
        have hF4 : io_F3 c s4 := ⟨by rw [gk4 90 (by omega) (by decide)]; exact hFd.1, fun k h1 h2 h3 => by rw [gk4 k (by omega) h2]; exact hFd.2.2 k h1⟩
        have hw4 := hw.f3 hC4 hF4
        rw [e4]
        have ev2 : (c 101 2 + 1 - 1) = c 101 2 := pz_eq.mpr (by rw [pz_s1 (by rw [pz_1 (by omega)]; omega), pz_1 (by omega)]; omega)
        rw [ev2]
        refine xa_actG hw4 he hcc.1 (fun c1 hN a b => hp _ _ a (hF4.toR.tr b) ?_)
        intro b0 P x pv hM hR hk
        obtain ⟨s97, s98, s99, s100⟩ := nd_s hR hn
        obtain ⟨d1, d2, d3, d4, d5, d6, d7⟩ := hR.1.1 _ hF8
        have h16 := hR.2.1.1
        have hb16 := hR.2.1.2.1
        have e16 := pz_1 (x := x 111 16) (by rw [h16] at h20; omega)
        have hH : (c 101 2).toNatClampNeg = (x 111 16).toNatClampNeg := by rw [h16]
        have h20' : (x 111 16).toInt < 20 := by rw [← h16]; exact h20
        have hN' : ¬ (c 99 n.toNatClampNeg = 1) ∨ (∀ h : Nat, (h : Int) < (x 111 16).toInt → x 124 h = c 98 n.toNatClampNeg → x 127 h = 2) := by
          by_cases q : c 99 n.toNatClampNeg = 1
          · exact Or.inr (hd_n hR (hnh q))
          · exact Or.inl q
        unfold wp_X10_opens
        rw [← s98, ← s99]
        refine ⟨hin, hin, xo_rrefuse hR hf hm hK ⟨fun _ => ⟨hi, ?_⟩, fun q => absurd rfl q⟩⟩
        -- the disk's row
        have k57 : ∀ t : io_M, (∀ k, k ≠ 113 → t k = x k) → t 113 = ru (x 113) (c 98 n.toNatClampNeg).toNatClampNeg (if c 99 n.toNatClampNeg = 1 then 0 else x 113 (c 98 n.toNatClampNeg).toNatClampNeg) → wj_X10_opens_57 t n (c 98 n.toNatClampNeg) (c 99 n.toNatClampNeg) pv := by
          intro t tk t113
          have hMt : rM b0 P 41 x t := by
            have hX : rX b0 P 41 x t := rX_cg hM.2 (fun k q => tk k (by omega)) (fun j q => by rw [tk 111 (by decide)]) (by rw [tk 111 (by decide)]; exact Int.le_refl _) (by rw [tk 111 (by decide)]; exact Int.le_refl _)
            refine ⟨?_, hX⟩
            by_cases q : c 99 n.toNatClampNeg = 1
            · rw [if_pos q] at t113
              refine rI_bytes (c 98 n.toNatClampNeg) 0 hM.1 hf.1 t113 (fun k q => tk k (by omega)) (by rw [tk 111 (by decide)]) (by rw [tk 111 (by decide)]) (by omega) ?_
              rcases hN' with z | z
              · exact absurd q z
              · exact z
            · rw [if_neg q, ru_id] at t113
              exact rI_cg hM.1 (fun k u => by
                by_cases v : k = 113
                · rw [v]; exact t113
                · exact tk k v) (by rw [tk 111 (by decide)]) (by rw [tk 111 (by decide)])
          refine ⟨hi, fun u1 g1 => ?_⟩
          rw [vz_1] at g1
          have u111 : u1 111 = x 111 := by rw [g1, pu_ne (by decide), tk 111 (by decide)]
          have hv1 : vp_in (u1 111 16) 20 := by rw [u111]; exact pz_in.mpr ⟨hb16.1, h20'⟩
          have hv : vp_in (x 111 16) 20 := pz_in.mpr ⟨hb16.1, h20'⟩
          refine ⟨hv1, fun u2 g2 => ⟨hv1, fun u3 g3 => ?_⟩⟩
          rw [u111, ← hH] at g2 g3
          have hMt1 : rM b0 P 41 x u1 := by rw [g1]; exact rM_up hMt (by omega)
          have body : wj_X10_opens_107 u3 n (x 111 16) w (x 111 16) pv := by
            unfold wj_X10_opens_107
            rw [← hH]
            refine ⟨hv, fun u4 g4 => ⟨hv, fun u5 g5 => ⟨hv, fun u6 g6 => ⟨hv, fun u7 g7 => ⟨hv, fun u8 g8 => ⟨hv, fun u9 g9 => ⟨hv, fun u10 g10 u11 g11 => ?_⟩⟩⟩⟩⟩⟩⟩
            have x10 : u10 111 = x 111 := by rw [g10, pu_ne (by decide), g9, pu_ne (by decide), g8, pu_ne (by decide), g7, pu_ne (by decide), g6, pu_ne (by decide), g5, pu_ne (by decide), g4, pu_ne (by decide), g3, pu_ne (by decide), g2, pu_ne (by decide), u111]
            rw [x10] at g11
            have hs : ∀ j, j ≠ 16 → u11 111 j = x 111 j := fun j q => by rw [g11, pu_s q, x10]
            have w16 : u11 111 16 = x 111 16 + 1 := by rw [g11, pu_self]
            have hk3 : ∀ k, k ≠ 111 → k ≠ 126 → k ≠ 127 → k ≠ 129 → k ≠ 130 → k ≠ 132 → k ≠ 133 → k ≠ 134 → u11 k = u3 k := fun k a1 a2 a3 a4 a5 a6 a7 a8 => by rw [g11, pu_ne a1, g10, pu_ne a8, g9, pu_ne a7, g8, pu_ne a6, g7, pu_ne a5, g6, pu_ne a4, g5, pu_ne a3, g4, pu_ne a2]
            have hk1 : ∀ k, k ≠ 111 → k ≠ 124 → k ≠ 125 → k ≠ 126 → k ≠ 127 → k ≠ 129 → k ≠ 130 → k ≠ 132 → k ≠ 133 → k ≠ 134 → u11 k = u1 k := fun k a1 a9 a10 a2 a3 a4 a5 a6 a7 a8 => by rw [hk3 k a1 a2 a3 a4 a5 a6 a7 a8, g3, pu_ne a10, g2, pu_ne a9]
            have r1k : ∀ k, k ≠ 112 → k ≠ 113 → u1 k = x k := fun k a b => by rw [g1, pu_ne a, tk k b]
            have r126 : u11 126 = ru (x 126) (c 101 2).toNatClampNeg w := by rw [g11, pu_ne (by decide), g10, pu_ne (by decide), g9, pu_ne (by decide), g8, pu_ne (by decide), g7, pu_ne (by decide), g6, pu_ne (by decide), g5, pu_ne (by decide), g4, pu_row, g3, pu_ne (by decide), g2, pu_ne (by decide), r1k 126 (by decide) (by decide)]
            have r127 : u11 127 = ru (x 127) (c 101 2).toNatClampNeg 0 := by rw [g11, pu_ne (by decide), g10, pu_ne (by decide), g9, pu_ne (by decide), g8, pu_ne (by decide), g7, pu_ne (by decide), g6, pu_ne (by decide), g5, pu_row, g4, pu_ne (by decide), g3, pu_ne (by decide), g2, pu_ne (by decide), r1k 127 (by decide) (by decide)]
            have r129 : u11 129 = ru (x 129) (c 101 2).toNatClampNeg 0 := by rw [g11, pu_ne (by decide), g10, pu_ne (by decide), g9, pu_ne (by decide), g8, pu_ne (by decide), g7, pu_ne (by decide), g6, pu_row, g5, pu_ne (by decide), g4, pu_ne (by decide), g3, pu_ne (by decide), g2, pu_ne (by decide), r1k 129 (by decide) (by decide)]
            have r130 : u11 130 = ru (x 130) (c 101 2).toNatClampNeg 0 := by rw [g11, pu_ne (by decide), g10, pu_ne (by decide), g9, pu_ne (by decide), g8, pu_ne (by decide), g7, pu_row, g6, pu_ne (by decide), g5, pu_ne (by decide), g4, pu_ne (by decide), g3, pu_ne (by decide), g2, pu_ne (by decide), r1k 130 (by decide) (by decide)]
            have r124 : u11 124 = ru (x 124) (c 101 2).toNatClampNeg (c 98 n.toNatClampNeg) := by rw [hk3 124 (by decide) (by decide) (by decide) (by decide) (by decide) (by decide) (by decide) (by decide), g3, pu_ne (by decide), g2, pu_row, r1k 124 (by decide) (by decide)]
            have r125 : u11 125 = ru (x 125) (c 101 2).toNatClampNeg (c 99 n.toNatClampNeg) := by rw [hk3 125 (by decide) (by decide) (by decide) (by decide) (by decide) (by decide) (by decide) (by decide), g3, pu_row, g2, pu_ne (by decide), r1k 125 (by decide) (by decide)]
            have r113 : u11 113 = u1 113 := hk1 113 (by decide) (by decide) (by decide) (by decide) (by decide) (by decide) (by decide) (by decide) (by decide) (by decide)
            have q113 : u1 113 = t 113 := by rw [g1, pu_ne (by decide)]
            have r112 : u11 112 = ru (x 112) (c 98 n.toNatClampNeg).toNatClampNeg 1 := by rw [hk1 112 (by decide) (by decide) (by decide) (by decide) (by decide) (by decide) (by decide) (by decide) (by decide) (by decide), g1, pu_row, tk 112 (by decide)]
            have r114 : u11 114 = x 114 := by rw [hk1 114 (by decide) (by decide) (by decide) (by decide) (by decide) (by decide) (by decide) (by decide) (by decide) (by decide), r1k 114 (by decide) (by decide)]
            have r115 : u11 115 = x 115 := by rw [hk1 115 (by decide) (by decide) (by decide) (by decide) (by decide) (by decide) (by decide) (by decide) (by decide) (by decide), r1k 115 (by decide) (by decide)]
            have hL : cd 91 (c 98 n.toNatClampNeg).toNatClampNeg = t 113 (c 98 n.toNatClampNeg).toNatClampNeg := by rw [d91, ru_self, t113, ru_self, d3]
            have hLr : 0 ≤ (t 113 (c 98 n.toNatClampNeg).toNatClampNeg).toInt ∧ (t 113 (c 98 n.toNatClampNeg).toNatClampNeg).toInt ≤ (x 113 (c 98 n.toNatClampNeg).toNatClampNeg).toInt := by
              rw [t113, ru_self]
              by_cases q : c 99 n.toNatClampNeg = 1
              · rw [if_pos q]; omega
              · rw [if_neg q]; omega
            have hy : 0 ≤ w.toInt ∧ w.toInt ≤ (u1 113 (c 98 n.toNatClampNeg).toNatClampNeg).toInt := by
              rw [q113]
              by_cases q : c 99 n.toNatClampNeg = 2
              · rw [hw1 q, hL]; omega
              · rw [hw2 q]; omega
            have hM11 : rM b0 P 41 x u11 := by
              refine ⟨rI_new (c 98 n.toNatClampNeg) w hMt1.1 (by rw [r124, ← r1k 124 (by decide) (by decide), u111, hH]) (by rw [r126, ← r1k 126 (by decide) (by decide), u111, hH]) (by rw [r127, ← r1k 127 (by decide) (by decide), u111, hH]) (by rw [r129, ← r1k 129 (by decide) (by decide), u111, hH]) (by rw [r130, ← r1k 130 (by decide) (by decide), u111, hH]) (fun k q => hk1 k (by omega) (by omega) (by omega) (by omega) (by omega) (by omega) (by omega) (by omega) (by omega) (by omega)) (by rw [w16, u111, e16]) (by rw [hs 28 (by decide), u111]) ⟨hf.1, by omega⟩ hy (by rw [u111]; exact h20'), ?_⟩
              exact rX_cg hMt1.2 (fun k q => hk1 k (by omega) (by omega) (by omega) (by omega) (by omega) (by omega) (by omega) (by omega) (by omega) (by omega)) (fun j q => by rw [hs j (by omega), u111]) (by rw [w16, u111, e16]; omega) (by rw [hs 28 (by decide), u111]; exact Int.le_refl _)
            have hu := hR.1.2
            have hsub := sN_le (r := x 113) 8 hF8 (fun j hj => (hR.1.1 j hj).2.2.2.2.2.1)
            have hD11 : oD s4 u11 := by
              have gk9 : ∀ k, 80 ≤ k → k ≤ 91 → s4 k = cd k := fun k a b => gk4 k (by omega) (by omega)
              refine hR.1.set (c 98 n.toNatClampNeg).toNatClampNeg hF8 (by rw [gk9 90 (by omega) (by omega)]; exact hFd.1) r115 (fun f' a b => ⟨?_, ?_, ?_, ?_, ?_, fun i hi => by rw [r114]⟩) ?_ ?_ ?_ ?_ ?_ (fun i hi => ?_) ?_ ?_
              · rw [gk9 89 (by omega) (by omega), d89, ru_ne b]
              · rw [gk9 91 (by omega) (by omega), d91, ru_ne b]
              · rw [gk9 (80 + f') (by omega) (by omega), hkd (80 + f') (by omega) (by omega) (by omega)]
              · rw [r112, ru_ne b]
              · rw [r113, q113, t113, ru_ne b]
              · rw [gk9 89 (by omega) (by omega), d89, ru_self, r112, ru_self]
              · rw [gk9 91 (by omega) (by omega), hL, r113, q113]
              · rw [r112, ru_self]; exact Or.inr rfl
              · rw [r112, ru_self]; exact fun q => absurd q (by decide)
              · rw [r113, q113]; omega
              · rw [r113, q113] at hi
                rw [gk9 _ (by omega) (by omega), hkd _ (by omega) (by omega) (by omega), r114]
                exact d7 i (by omega)
              · rw [gk9 88 (by omega) (by omega), d88, r113, q113, t113, ru_self]
                by_cases q : c 99 n.toNatClampNeg = 1
                · rw [if_pos q, if_pos q, pz_sub (by rw [d3]; omega), d3]; omega
                · rw [if_neg q, if_neg q]; omega
              · rw [gk9 88 (by omega) (by omega), d88]
                by_cases q : c 99 n.toNatClampNeg = 1
                · rw [if_pos q, pz_sub (by rw [d3]; omega), d3]; omega
                · rw [if_neg q]; omega
            have hR11 : oR s4 u11 := oR.new (Q := 0) hR hM hH h20' hf (fun k a1 a2 a3 a4 a5 a6 => by rw [gk4 k a1 a5, hkd k a2 a3 a4]) e4 v4 v5 v6 v7 v3 v2 hD11 (fun k a1 a2 a3 a4 a5 a6 a7 a8 a9 a10 a11 a12 a13 => by rw [hk1 k a1 a5 a6 a7 a8 a9 a10 a11 a12 a13, r1k k a2 a3]) hs w16 r112 r124 r125 r126 r127 r129 r130
            refine en_note (m := 40) hM11 (by omega) hR11 hN (fun x9 m1 m2 m3 m4 => ?_)
            rw [h16] at hk
            refine en_give m1 (by omega) m2 ⟨fun _ => ?_, fun q => absurd q (by decide)⟩ (Or.inr (Or.inl rfl)) hk
            rw [m4 16 (by decide), w16, e16]
            omega
          rw [u111]
          refine ⟨fun q => ⟨hi, ?_⟩, fun q => ?_⟩
          · have e113 : u3 113 (c 98 n.toNatClampNeg).toNatClampNeg = w := by
              rw [g3, pu_ne (by decide), g2, pu_ne (by decide), g1, pu_ne (by decide), hw1 q, d91, ru_self, t113, ru_self, d3]
            rw [e113]
            exact body
          · rw [← hw2 q]
            exact body
        refine ⟨fun q0 => ⟨hi, fun t e => k57 t (fun k a => by rw [e, pu_ne a]) ?_⟩, fun q0 => ⟨fun q1 => ⟨hi, fun t e => k57 t (fun k a => by rw [e, pu_ne a]) (by rw [e, pu_row, if_pos q1])⟩, fun q1 => k57 x (fun _ _ => rfl) (by rw [if_neg q1, ru_id])⟩⟩
        rw [e, pu_row]
        by_cases q : c 99 n.toNatClampNeg = 1
        · rw [if_pos q]
        · rw [if_neg q, d5 q0]
      show vp_in (cd 101 2) 20 ∧ (wp_X2_begin cd (((cd 101 2)).toNatClampNeg) (c 98 n.toNatClampNeg) (c 99 n.toNatClampNeg) (fun s103 => (∀ s104, s104 = io_up s103 101 2 ((s103 101 2) + 1) → wp_X8_act s104 n 1 ((s104 101 2) - 1) post)))
      rw [e101]
      refine ⟨by rw [← e101]; exact hv, fun s2 e2 s3 e3 => ⟨fun q => ⟨hi, ?_⟩, fun q => fin 0 s3 (fun t => absurd t q) (fun _ => rfl) (by rw [e3, e2])⟩⟩
      have e91 : s3 91 = cd 91 := by rw [e3, pu_ne (by omega), e2, pu_ne (by omega)]
      rw [e91]
      exact fin _ s3 (fun _ => rfl) (fun t => absurd q t) (by rw [e3, e2])
    rw [vz_1] at e1
    have hC1 : io_CI s1 := by rw [e1]; exact hw.1.up (ok_89 (Or.inr rfl))
    have hF1 : io_F0 c s1 := by rw [e1]; exact io_F0.rf.up (by omega)
    refine ⟨fun q => ⟨hi, fun s2 e2 => ⟨hi, fun s3 e3 => ?_⟩⟩, fun q => key s1 hC1 hF1 (fun k a b d => by rw [e1, pu_ne b]) (by rw [e1, pu_row]) (by rw [if_neg q, ru_id, e1, pu_ne (by decide)]) (by rw [if_neg q, e1, pu_ne (by decide)])⟩
    have k88 : s1 88 = c 88 := by rw [e1, pu_ne (by decide)]
    have k91 : s1 91 = c 91 := by rw [e1, pu_ne (by decide)]
    rw [k88, k91] at e2
    refine key s3 ?_ ?_ (fun k a b d => by rw [e3, pu_ne d, e2, pu_ne a, e1, pu_ne b]) ?_ ?_ ?_
    · rw [e3, e2]; exact (hC1.up ok_88).up (ok_91 (by rw [l_0]; omega))
    · rw [e3, e2]; exact (hF1.up (by omega)).up (by omega)
    · rw [e3, pu_ne (by decide), e2, pu_ne (by decide), e1, pu_row]
    · rw [if_pos q, e3, pu_row, e2, pu_ne (by decide), k91]
    · rw [if_pos q, e3, pu_ne (by decide), e2, pu_self]
  · exfalso
    rcases hk with h | h | h | h <;> rw [h] at q <;> exact absurd q (by decide)
  · have hneg : ((-1) - k).toInt < 0 := by rcases hk with h | h | h | h <;> rw [h] <;> decide
    have hinv : (-1) - ((-1) - k) = k := by rcases hk with h | h | h | h <;> rw [h] <;> decide
    have hkn : ¬ k = -1 := by rcases hk with h | h | h | h <;> rw [h] <;> decide
    refine xa_actF hw hneg hinv (fun a b => hp _ _ a b ?_)
    intro b0 P x pv hM hR hk2
    obtain ⟨s97, s98, s99, s100⟩ := nd_s hR hn
    unfold wp_X10_opens
    rw [← s98, ← s99]
    exact ⟨hin, hin, xo_rrefuse hR hf hm hK ⟨fun q => absurd q hkn, fun _ => en_fail hM (by omega) hR hk2⟩⟩
end EN
