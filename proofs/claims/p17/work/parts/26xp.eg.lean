section EP
variable {c x c' x' c1 σ0 s : io_M} {post : Int32 → io_M → Prop} {pv : io_M → Prop} {i j H : Nat} {p y v n k r w f g m : Int32} {b0 e : Int} {P : Nat}
theorem xr_rnL (hf : 0 ≤ f.toInt ∧ f.toInt < 8) (hg : 0 ≤ g.toInt ∧ g.toInt < 8) (hfg : ¬ f.toNatClampNeg = g.toNatClampNeg) (hlen : (x 113 f.toNatClampNeg).toInt ≤ 40) (hp : ∀ t, rM b0 P 41 σ0 t → (∀ k, k ≠ 114 → t k = x k) → (∀ q, q < 40 * g.toNatClampNeg ∨ 40 * g.toNatClampNeg + 40 ≤ q → t 114 q = x 114 q) → (∀ i : Nat, (i : Int) < (x 113 f.toNatClampNeg).toInt → t 114 (40 * g.toNatClampNeg + i) &&& 255 = x 114 (40 * f.toNatClampNeg + i) &&& 255) → ∀ s1, s1 = io_up t 113 g.toNatClampNeg (t 113 f.toNatClampNeg) → ∀ s2, s2 = io_up s1 112 g.toNatClampNeg (vp_nar .boolean 1) → ∀ s3, s3 = io_up s2 113 f.toNatClampNeg 0 → ∀ s4, s4 = io_up s3 112 f.toNatClampNeg (vp_nar .boolean 0) → wp_X10_note s4 n (fun s5 => wp_X10_gives s5 0 0 pv)) : ∀ (k : Nat) (t : io_M) (y : Int32), rM b0 P 41 σ0 t → (∀ k, k ≠ 114 → t k = x k) → (∀ q, q < 40 * g.toNatClampNeg ∨ 40 * g.toNatClampNeg + 40 ≤ q → t 114 q = x 114 q) → (∀ i : Nat, (i : Int) < y.toInt → t 114 (40 * g.toNatClampNeg + i) &&& 255 = x 114 (40 * f.toNatClampNeg + i) &&& 255) → 0 ≤ y.toInt → y.toInt ≤ 40 → 40 - y.toInt < k → wl_X10_rename_96 k t n f g y pv := by
  intro k
  have hi := pz_in (n := 8).mpr hf
  have hj := pz_in (n := 8).mpr hg
  have hF8 := pn_8 hf
  have hG8 := pn_8 hg
  induction k with
  | zero => intro t y _ _ _ _ _ h1 h2; exact absurd h2 (by omega)
  | succ k ih =>
    intro t y hM tk tf tc h0 h1 h2
    have e113 : t 113 = x 113 := tk 113 (by decide)
    unfold wl_X10_rename_96
    refine ⟨hi, fun q => ⟨hi, hj, fun s1 e1 => ⟨hj, fun s2 e2 => ⟨hi, fun s3 e3 => ⟨hi, fun s4 e4 => ?_⟩⟩⟩⟩, fun q => ?_⟩
    · refine hp t hM tk tf (fun i hi' => tc i ?_) s1 e1 s2 e2 s3 e3 s4 e4
      have := pz_le.mp q
      rw [e113] at this
      omega
    · have hq := pz_nle q
      rw [e113] at hq
      have i1 := pn_41 (f := f) (p := y) (by omega) (by omega)
      have i2 := pn_41 (f := g) (p := y) (by omega) (by omega)
      have j1 := pz_41 (x := f) (y := y) (by omega) (by omega)
      have j2 := pz_41 (x := g) (y := y) (by omega) (by omega)
      have hcl := pz_cl y
      refine ⟨pz_in.mpr (by rw [j1]; show _ ∧ _ < (320 : Int); omega), pz_in.mpr (by rw [j2]; show _ ∧ _ < (320 : Int); omega), fun s e => ?_⟩
      rw [i1, i2] at e
      have e2 := pz_1 (x := y) (by omega)
      have r114 : s 114 = ru (t 114) (40 * g.toNatClampNeg + y.toNatClampNeg) (t 114 (40 * f.toNatClampNeg + y.toNatClampNeg)).toInt8.toInt32 := by rw [e, pu_row]
      refine ih s (y + 1) (by rw [e]; exact rM_up hM (by omega)) (fun k a => by rw [e, pu_ne a, tk k a]) (fun q' hq' => ?_) (fun i hi' => ?_) (by omega) (by omega) (by omega)
      · rw [r114, ru_ne (by omega)]
        exact tf q' hq'
      · rw [e2] at hi'
        rw [r114]
        by_cases u : i = y.toNatClampNeg
        · rw [u, ru_self, bp_b, tf _ (by omega)]
        · rw [ru_ne (by omega)]
          exact tc i (by omega)
/-- the reference asks the same of a file to be renamed -/
theorem xr_rename (hR : oR c x) (hin : vp_in n 60) (e98 : c 98 n.toNatClampNeg = x 119 n.toNatClampNeg) (e99 : c 99 n.toNatClampNeg = x 120 n.toNatClampNeg) (hf : 0 ≤ (c 98 n.toNatClampNeg).toInt ∧ (c 98 n.toNatClampNeg).toInt < 8) (hg' : 0 ≤ (c 99 n.toNatClampNeg).toInt ∧ (c 99 n.toNatClampNeg).toInt < 8) (hK : mvK c (c 98 n.toNatClampNeg) (c 99 n.toNatClampNeg) k) (hb : ¬ k = -1 → wp_X10_fails x n k pv) (hs : k = -1 → c 98 n.toNatClampNeg = c 99 n.toNatClampNeg → wp_X10_gives x 0 0 pv) (hg : k = -1 → ¬ c 98 n.toNatClampNeg = c 99 n.toNatClampNeg → ∃ q, wl_X10_rename_96 q x n (c 98 n.toNatClampNeg) (c 99 n.toNatClampNeg) 0 pv) : wp_X10_rename x n pv := by
  have hi := pz_in (n := 8).mpr hf
  have hj := pz_in (n := 8).mpr hg'
  obtain ⟨d1, d2, d3, d4, d5, d6, d7⟩ := hR.1.1 _ (pn_8 hf)
  have d2' := (hR.1.1 _ (pn_8 hg')).2.1
  unfold wp_X10_rename
  rw [← e98, ← e99]
  unfold mvK mvD mvH at hK
  rw [d1, d2, d2'] at hK
  refine ⟨hin, hin, hi, fun t => ?_, fun t => ⟨hi, fun u => ?_, fun u => ⟨hj, fun v => ?_, fun v => xr_isHeld hR.2.1 (fun q => ⟨fun w => absurd w (by decide), fun _ => ?_⟩) (fun q => ⟨fun _ => xr_isHeld hR.2.1 (fun q2 => ⟨fun w => absurd w (by decide), fun _ => ?_⟩) (fun q2 => ⟨fun _ => ?_, fun w => absurd rfl w⟩), fun w => absurd rfl w⟩)⟩⟩⟩
  · rcases hK with h | h | h | h
    · have := hb (by rw [h.1]; decide)
      rw [h.1] at this
      exact this
    · exact absurd t h.2.1
    · exact absurd t h.2.1
    · exact absurd t h.2.1
  · rcases hK with h | h | h | h
    · exact absurd h.2 t
    · have := hb (by rw [h.1]; decide)
      rw [h.1] at this
      exact this
    · exact absurd (Or.inl u) h.2.2.1
    · exact absurd (Or.inl u) h.2.2.1
  · rcases hK with h | h | h | h
    · exact absurd h.2 t
    · have := hb (by rw [h.1]; decide)
      rw [h.1] at this
      exact this
    · exact absurd (Or.inr v) h.2.2.1
    · exact absurd (Or.inr v) h.2.2.1
  · rcases hK with h | h | h | h
    · exact absurd h.2 t
    · rcases h.2.2 with w | w
      · exact absurd w u
      · exact absurd w v
    · have := hb (by rw [h.1]; decide)
      rw [h.1] at this
      exact this
    · exact absurd (Or.inl q) h.2.2.2
  · rcases hK with h | h | h | h
    · exact absurd h.2 t
    · rcases h.2.2 with w | w
      · exact absurd w u
      · exact absurd w v
    · have := hb (by rw [h.1]; decide)
      rw [h.1] at this
      exact this
    · exact absurd (Or.inr q2) h.2.2.2
  · rcases hK with h | h | h | h
    · exact absurd h.2 t
    · rcases h.2.2 with w | w
      · exact absurd w u
      · exact absurd w v
    · rcases h.2.2.2 with w | w
      · exact absurd w q
      · exact absurd w q2
    · exact ⟨fun z => hs h.1 z, fun z => hg h.1 z⟩
theorem xd_rename (hw : io_WI b0 (e + 1) c) (he : 0 ≤ e) (hn : io_nd c n) (hf : 0 ≤ (c 98 n.toNatClampNeg).toInt ∧ (c 98 n.toNatClampNeg).toInt < 8) (hg : 0 ≤ (c 99 n.toNatClampNeg).toInt ∧ (c 99 n.toNatClampNeg).toInt < 8) (hp : ∀ r c', io_WI b0 e c' → io_Fr c c' → aS c r c' (fun x pv => wp_X10_rename x n pv) → post r c') : wp_X3_renameFile c (c 98 n.toNatClampNeg) (c 99 n.toNatClampNeg) (fun r21 s22 => ((c 98 n.toNatClampNeg = c 99 n.toNatClampNeg → wp_X8_settle s22 n 0 r21 post) ∧ (¬ (c 98 n.toNatClampNeg = c 99 n.toNatClampNeg) → wp_X8_act s22 n 0 r21 post))) := by
  have hi := pz_in (n := 8).mpr hf
  have hj := pz_in (n := 8).mpr hg
  have hin := hn.in hw.2.1
  have hF8 := pn_8 hf
  have hG8 := pn_8 hg
  have hl := CI_91 hw.1 (c 98 n.toNatClampNeg).toNatClampNeg
  have z0 := l_0
  refine xo_move hw.1 hf hg (fun hK => ⟨fun _ => ⟨fun eq => ⟨fun _ => ?_, fun q => absurd eq q⟩, fun ne => ⟨hj, fun s2 e2 => ?_⟩⟩, fun q => absurd rfl q⟩) (fun k hk hK => ⟨fun q => absurd q (mv_no hk).2.2, fun _ => ?_⟩)
  · refine xa_setG (hw.le (by omega)) (by rw [l_0]; omega) (fun a b => hp _ _ a b ?_)
    intro b0 P x pv hM hR hk
    obtain ⟨s97, s98, s99, s100⟩ := nd_s hR hn
    exact xr_rename hR hin s98 s99 hf hg hK (fun q => absurd rfl q) (fun _ _ => en_give hM (by omega) hR tv_0 (Or.inl rfl) hk) (fun _ q => absurd eq q)
  · have e2' : s2 91 = c 91 := by rw [e2, pu_ne (by decide)]
    refine ⟨hi, hj, hi, ?_, ?_, fun s6 e6 => ⟨hi, hj, fun s8 e8 => ⟨hj, fun s10 e10 => ⟨hi, fun s12 e12 => ⟨hi, fun s14 e14 => ⟨fun q => absurd q ne, fun _ => ?_⟩⟩⟩⟩⟩⟩
    · rw [e2']
      exact fun q => by have := pz_lt.mp q; omega
    · rw [e2', pz_cl]; omega
    · rw [e2'] at e6
      have hne : ¬ (c 98 n.toNatClampNeg).toNatClampNeg = (c 99 n.toNatClampNeg).toNatClampNeg := fun q => ne (pz_ne8 hf.1 hg.1 q)
      have s2k : ∀ k, k ≠ 88 → s2 k = c k := fun k a => by rw [e2, pu_ne a]
      have s6k : ∀ k, k ≠ 80 + (c 99 n.toNatClampNeg).toNatClampNeg → s6 k = s2 k := fun k a => by rw [e6]; unfold va_up; rw [if_neg a]
      have s6G : s6 (80 + (c 99 n.toNatClampNeg).toNatClampNeg) = va_cpy (c (80 + (c 98 n.toNatClampNeg).toNatClampNeg)) (c (80 + (c 99 n.toNatClampNeg).toNatClampNeg)) 0 0 (c 91 (c 98 n.toNatClampNeg).toNatClampNeg).toNatClampNeg := by
        rw [e6]; unfold va_up
        rw [if_pos rfl, s2k _ (by omega), s2k _ (by omega)]
      have s691 : s6 91 = c 91 := by rw [s6k 91 (by omega), e2']
      rw [vz_1] at e10
      rw [vz_0] at e14
      rw [s691] at e8
      have gk : ∀ k, k ≠ 88 → k ≠ 89 → k ≠ 91 → k ≠ 80 + (c 99 n.toNatClampNeg).toNatClampNeg → s14 k = c k := fun k a b d f => by rw [e14, pu_ne b, e12, pu_ne d, e10, pu_ne b, e8, pu_ne d, s6k k f, s2k k a]
      have g88 : s14 88 4 = c 88 4 - c 91 (c 99 n.toNatClampNeg).toNatClampNeg := by rw [e14, pu_ne (by decide), e12, pu_ne (by decide), e10, pu_ne (by decide), e8, pu_ne (by decide), s6k 88 (by omega), e2, pu_self]
      have g89 : s14 89 = ru (ru (c 89) (c 99 n.toNatClampNeg).toNatClampNeg 1) (c 98 n.toNatClampNeg).toNatClampNeg 0 := by rw [e14, pu_row, e12, pu_ne (by decide), e10, pu_row, e8, pu_ne (by decide), s6k 89 (by omega), s2k 89 (by decide)]
      have g91 : s14 91 = ru (ru (c 91) (c 99 n.toNatClampNeg).toNatClampNeg (c 91 (c 98 n.toNatClampNeg).toNatClampNeg)) (c 98 n.toNatClampNeg).toNatClampNeg 0 := by rw [e14, pu_ne (by decide), e12, pu_row, e10, pu_ne (by decide), e8, pu_row, s691]
      have gG : s14 (80 + (c 99 n.toNatClampNeg).toNatClampNeg) = va_cpy (c (80 + (c 98 n.toNatClampNeg).toNatClampNeg)) (c (80 + (c 99 n.toNatClampNeg).toNatClampNeg)) 0 0 (c 91 (c 98 n.toNatClampNeg).toNatClampNeg).toNatClampNeg := by rw [e14, pu_ne (by omega), e12, pu_ne (by omega), e10, pu_ne (by omega), e8, pu_ne (by omega), s6G]
      have hC2 : io_CI s6 := by
        rw [e6, e2]
        exact CI_row (hw.1.up ok_88) hG8 _
      have hC14 : io_CI s14 := by
        rw [e14, e12, e10, e8]
        exact (((hC2.up (ok_91 hl)).up (ok_89 (Or.inr rfl))).up (ok_91 (by rw [l_0]; omega))).up (ok_89 (Or.inl rfl))
      have hF14 : io_F0 c s14 := ⟨gk 90 (by decide) (by decide) (by decide) (by omega), fun k a => gk k (by omega) (by omega) (by omega) (by omega), fun k a => gk k (by omega) (by omega) (by omega) (by omega)⟩
      have hw14 := hw.f3 hC14 hF14.to3
      refine xa_actG hw14 he (by rw [l_0]; omega) (fun c1 hN a b => hp _ _ a (hF14.to3.toR.tr b) ?_)
      intro b0 P x pv hM hR hk
      obtain ⟨s97, s98, s99, s100⟩ := nd_s hR hn
      have hh1 := hd_n hR (fun q => (mv_ok hK).2.2 (Or.inl q))
      have hh2 := hd_n hR (fun q => (mv_ok hK).2.2 (Or.inr q))
      obtain ⟨d1, d2, d3, d4, d5, d6, d7⟩ := hR.1.1 _ hF8
      obtain ⟨D1, D2, D3, D4, D5, D6, D7⟩ := hR.1.1 _ hG8
      have hsub := sN_le (r := x 113) 8 hF8 (fun j hj => (hR.1.1 j hj).2.2.2.2.2.1)
      have hu := hR.1.2
      have hsub2 := sN_le (r := x 113) 8 hG8 (fun j hj => (hR.1.1 j hj).2.2.2.2.2.1)
      refine xr_rename hR hin s98 s99 hf hg hK (fun q => absurd rfl q) (fun _ q => absurd q ne) (fun _ _ => ⟨41, ?_⟩)
      refine xr_rnL (x := x) (σ0 := x) (b0 := b0) (P := P) hf hg hne d6.2 (fun t hMt tk tf tc t1 f1 t2 f2 t3 f3 t4 f4 => ?_) 41 x 0 hM (fun _ _ => rfl) (fun _ _ => rfl) (fun i hi' => by omega) (by omega) (by omega) (by omega)
      rw [vz_1] at f2
      rw [vz_0] at f4
      rw [tk 113 (by decide)] at f1
      have gx : ∀ k, k ≠ 112 → k ≠ 113 → t4 k = t k := fun k a b => by rw [f4, pu_ne a, f3, pu_ne b, f2, pu_ne a, f1, pu_ne b]
      have r112 : t4 112 = ru (ru (x 112) (c 99 n.toNatClampNeg).toNatClampNeg 1) (c 98 n.toNatClampNeg).toNatClampNeg 0 := by rw [f4, pu_row, f3, pu_ne (by decide), f2, pu_row, f1, pu_ne (by decide), tk 112 (by decide)]
      have r113 : t4 113 = ru (ru (x 113) (c 99 n.toNatClampNeg).toNatClampNeg (x 113 (c 98 n.toNatClampNeg).toNatClampNeg)) (c 98 n.toNatClampNeg).toNatClampNeg 0 := by rw [f4, pu_ne (by decide), f3, pu_row, f2, pu_ne (by decide), f1, pu_row, tk 113 (by decide)]
      have hI1 : rI 99 t1 := rI_bytes (c 99 n.toNatClampNeg) (x 113 (c 98 n.toNatClampNeg).toNatClampNeg) hMt.1 hg.1 (by rw [f1, pu_row]) (fun k q => by rw [f1, pu_ne (by omega)]) (by rw [f1, pu_ne (by decide)]) (by rw [f1, pu_ne (by decide)]) d6 (by rw [tk 111 (by decide), tk 124 (by decide), tk 127 (by decide)]; exact hh2)
      have hI4 : rI 99 t4 := by
        refine rI_bytes (c 98 n.toNatClampNeg) 0 hI1 hf.1 (by rw [f4, pu_ne (by decide), f3, pu_row, f2, pu_ne (by decide)]) (fun k q => by rw [f4, pu_ne (by omega), f3, pu_ne (by omega), f2, pu_ne (by omega)]) (by rw [f4, pu_ne (by decide), f3, pu_ne (by decide), f2, pu_ne (by decide)]) (by rw [f4, pu_ne (by decide), f3, pu_ne (by decide), f2, pu_ne (by decide)]) (by omega) ?_
        rw [f1, pu_ne (k' := 111) (by decide), pu_ne (k' := 124) (by decide), pu_ne (k' := 127) (by decide), tk 111 (by decide), tk 124 (by decide), tk 127 (by decide)]
        exact hh1
      have hM4 : rM b0 P 41 x t4 := ⟨hI4, by rw [f4, f3, f2, f1]; exact rX_up (rX_up (rX_up (rX_up hMt.2 (by omega)) (by omega)) (by omega)) (by omega)⟩
      have hx4 : ∀ k, k ≠ 112 → k ≠ 113 → k ≠ 114 → t4 k = x k := fun k a b d => by rw [gx k a b, tk k d]
      -- first the one file is emptied, then the other takes its bytes
      have hDA : oD (io_up (io_up (io_up c 88 4 (c 88 4 - c 91 (c 98 n.toNatClampNeg).toNatClampNeg)) 91 (c 98 n.toNatClampNeg).toNatClampNeg 0) 89 (c 98 n.toNatClampNeg).toNatClampNeg 0) (io_up (io_up x 113 (c 98 n.toNatClampNeg).toNatClampNeg 0) 112 (c 98 n.toNatClampNeg).toNatClampNeg 0) := by
        refine hR.1.set (c 98 n.toNatClampNeg).toNatClampNeg hF8 ?_ ?_ (fun f' a b => ⟨?_, ?_, ?_, ?_, ?_, fun i hi => ?_⟩) ?_ ?_ ?_ ?_ ?_ (fun i hi => ?_) ?_ ?_
        · rw [pu_ne (by decide), pu_ne (by decide), pu_ne (by decide)]
        · rw [pu_ne (by decide), pu_ne (by decide)]
        · rw [pu_same b, pu_ne (by decide), pu_ne (by decide)]
        · rw [pu_ne (by decide), pu_same b, pu_ne (by decide)]
        · rw [pu_ne (by omega), pu_ne (by omega), pu_ne (by omega)]
        · rw [pu_same b, pu_ne (by decide)]
        · rw [pu_ne (by decide), pu_same b]
        · rw [pu_ne (by decide), pu_ne (by decide)]
        · rw [pu_self, pu_self]
        · rw [pu_ne (by decide), pu_self, pu_ne (by decide), pu_self]
        · rw [pu_self]; exact Or.inl rfl
        · intro _; rw [pu_ne (by decide), pu_self]
        · rw [pu_ne (by decide), pu_self]; omega
        · rw [pu_ne (by decide), pu_self] at hi; omega
        · rw [pu_ne (by decide), pu_ne (by decide), pu_self, pu_ne (by decide), pu_self, pz_sub (by rw [d3]; omega), d3]; omega
        · rw [pu_ne (by decide), pu_ne (by decide), pu_self, pz_sub (by rw [d3]; omega), d3]; omega
      have hD4 : oD s14 t4 := by
        refine hDA.set (c 99 n.toNatClampNeg).toNatClampNeg hG8 ?_ ?_ (fun f' a b => ⟨?_, ?_, ?_, ?_, ?_, fun i hi => ?_⟩) ?_ ?_ ?_ ?_ ?_ (fun i hi => ?_) ?_ ?_
        · rw [pu_ne (by decide), pu_ne (by decide), pu_ne (by decide)]; exact hF14.1
        · rw [pu_ne (by decide), pu_ne (by decide)]; exact hx4 115 (by decide) (by decide) (by decide)
        · rw [g89, pu_row, pu_ne (by decide), pu_ne (by decide)]
          by_cases u : f' = (c 98 n.toNatClampNeg).toNatClampNeg
          · rw [u, ru_self, ru_self]
          · rw [ru_ne u, ru_ne b, ru_ne u]
        · rw [g91, pu_ne (by decide), pu_row, pu_ne (by decide)]
          by_cases u : f' = (c 98 n.toNatClampNeg).toNatClampNeg
          · rw [u, ru_self, ru_self]
          · rw [ru_ne u, ru_ne b, ru_ne u]
        · rw [pu_ne (by omega), pu_ne (by omega), pu_ne (by omega)]; exact gk (80 + f') (by omega) (by omega) (by omega) (by omega)
        · rw [r112, pu_row, pu_ne (by decide)]
          by_cases u : f' = (c 98 n.toNatClampNeg).toNatClampNeg
          · rw [u, ru_self, ru_self]
          · rw [ru_ne u, ru_ne b, ru_ne u]
        · rw [r113, pu_ne (by decide), pu_row]
          by_cases u : f' = (c 98 n.toNatClampNeg).toNatClampNeg
          · rw [u, ru_self, ru_self]
          · rw [ru_ne u, ru_ne b, ru_ne u]
        · rw [pu_ne (by decide), pu_ne (by decide), gx 114 (by decide) (by decide)]
          exact tf _ (by omega)
        · rw [g89, ru_ne (Ne.symm hne), ru_self, r112, ru_ne (Ne.symm hne), ru_self]
        · rw [g91, ru_ne (Ne.symm hne), ru_self, r113, ru_ne (Ne.symm hne), ru_self]; exact d3
        · rw [r112, ru_ne (Ne.symm hne), ru_self]; exact Or.inr rfl
        · rw [r112, ru_ne (Ne.symm hne), ru_self]; exact fun q => absurd q (by decide)
        · rw [r113, ru_ne (Ne.symm hne), ru_self]; exact d6
        · rw [r113, ru_ne (Ne.symm hne), ru_self] at hi
          rw [gG, gx 114 (by decide) (by decide), tc i hi]
          unfold va_cpy
          have hcl := pz_cl (x 113 (c 98 n.toNatClampNeg).toNatClampNeg)
          rw [d3, if_pos (by omega), show 0 + (i - 0) = i by omega]
          exact d7 i hi
        · rw [g88, r113, ru_ne (Ne.symm hne), ru_self, pu_ne (by decide), pu_ne (by decide), pu_self, pu_ne (by decide), pu_same (Ne.symm hne), pz_sub (by rw [D3]; omega), D3, pz_sub (by rw [d3]; omega), d3]; omega
        · rw [g88, pz_sub (by rw [D3]; omega), D3]; omega
      have hR4 : oR s14 t4 := by
        refine hR.dk (by rw [hM.2.2.2.1.2]; decide) hF14 hx4 hD4 (fun h hh => ?_)
        rw [hx4 111 (by decide) (by decide) (by decide)] at hh
        rw [hx4 124 (by decide) (by decide) (by decide), hx4 127 (by decide) (by decide) (by decide), r112]
        have q := hR.2.2.1 h hh
        have hfh := (hM.1.2.1.2 h hh).1
        refine ⟨q.1, fun t => ?_⟩
        rw [ru_ne (fun u => t (hh1 h hh (pz_ne8 hfh.1 hf.1 u))), ru_ne (fun u => t (hh2 h hh (pz_ne8 hfh.1 hg.1 u)))]
        exact q.2 t
      exact en_ng (m := 40) hM4 (by omega) hR4 hN hk
  · have sim : aS c 0 (fl3 c k n) (fun x pv => wp_X10_rename x n pv) := by
      intro b0 P x pv hM hR hk2
      obtain ⟨s97, s98, s99, s100⟩ := nd_s hR hn
      have hkn : ¬ k = -1 := by rcases hk with h | h | h <;> rw [h] <;> decide
      exact xr_rename hR hin s98 s99 hf hg hK (fun _ => en_fail hM (by omega) hR hk2) (fun q => absurd q hkn) (fun q => absurd q hkn)
    exact ⟨fun _ => xa_setF (hw.le (by omega)) (mv_no hk).1 (mv_no hk).2.1 (fun a b => hp _ _ a b sim), fun _ => xa_actF hw (mv_no hk).1 (mv_no hk).2.1 (fun a b => hp _ _ a b sim)⟩
end EP
