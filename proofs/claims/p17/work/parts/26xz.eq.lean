/-! closing behind a run: the reference marks what it closes, the class does not -/
def sw (x : io_M) (g : Nat → Int32) : io_M := fun k => if k = 127 then g else x k
section EZ
variable {b0 e : Int} {h j k : Nat} {c c' x x' s : io_M} {n a r p1 f y w v : Int32} {g : Nat → Int32} {post Q : Int32 → io_M → Prop} {pv : io_M → Prop}
theorem sw_ne (q : k ≠ 127) : sw x g k = x k := if_neg q
theorem sw_127 : sw x g 127 = g := if_pos rfl
theorem sw_up (q : k ≠ 127) : io_up (sw x g) k j v = sw (io_up x k j v) g := by
  funext k'
  by_cases t : k' = k
  · rw [t, pu_row, sw_ne q, sw_ne q, pu_row]
  · rw [pu_ne t]
    by_cases u : k' = 127
    · rw [u, sw_127, sw_127]
    · rw [sw_ne u, sw_ne u, pu_ne t]
theorem sw_st : io_up (sw x g) 127 j v = sw x (ru g j v) := by
  funext k'
  by_cases u : k' = 127
  · rw [u, pu_row, sw_127, sw_127]
  · rw [pu_ne u, sw_ne u, sw_ne u]
theorem fr_allL (hp : ∀ r, Q r x → post r (sw x g)) : ∀ (k : Nat) (a y : Int32), wl_X10_allBytes_4 k x a y Q → wl_X10_allBytes_4 k (sw x g) a y post := by
  intro k
  induction k with
  | zero => intro a y h; exact (show False from h).elim
  | succ k ih =>
    intro a y h
    unfold wl_X10_allBytes_4 at h ⊢
    rw [sw_ne (k := 112) (by decide), sw_ne (k := 113) (by decide)]
    exact ⟨fun q => hp _ (h.1 q), fun q => ⟨(h.2 q).1, fun t => ih _ _ ((h.2 q).2.1 t), fun t => ⟨((h.2 q).2.2 t).1, ih _ _ ((h.2 q).2.2 t).2⟩⟩⟩
theorem fr_flL : ∀ (n : Nat) (x : io_M) (z y : Int32), wl_X10_flush_12 n x p1 f z y (fun r s => post r (sw s g)) → wl_X10_flush_12 n (sw x g) p1 f z y post := by
  intro n
  induction n with
  | zero => intro x z y h; exact (show False from h).elim
  | succ n ih =>
    intro x z y h
    have k79 : ∀ (x : io_M) (x5 y0 : Int32), wj_X10_flush_79 (wl_X10_flush_12 n) x p1 f y x5 y0 (fun r s => post r (sw s g)) → wj_X10_flush_79 (wl_X10_flush_12 n) (sw x g) p1 f y x5 y0 post := by
      intro x x5 y0 h
      unfold wj_X10_flush_79 at h ⊢
      refine ⟨fun q => ih _ _ _ (h.1 q), fun q => ?_⟩
      obtain ⟨h1, h2, h3, h4⟩ := h.2 q
      rw [sw_ne (k := 126) (by decide), sw_ne (k := 131) (by decide)]
      refine ⟨h1, h2, h3, fun s2 e2 => ?_⟩
      rw [sw_up (by decide)] at e2
      obtain ⟨a1, a2, a3⟩ := h4 _ rfl
      rw [e2, sw_ne (k := 126) (by decide)]
      refine ⟨a1, a2, fun s4 e4 => ?_⟩
      rw [sw_up (by decide)] at e4
      have b := a3 _ rfl
      rw [e4, sw_ne (k := 113) (by decide)]
      refine ⟨fun t => ?_, fun t => ?_⟩
      · obtain ⟨c1, c2, c3⟩ := b.1 t
        refine ⟨c1, c2, fun s7 e7 => ?_⟩
        rw [sw_up (by decide)] at e7
        obtain ⟨d1, d2, d3⟩ := c3 _ rfl
        rw [e7, sw_ne (k := 134) (by decide)]
        refine ⟨d1, d2, fun s9 e9 => ?_⟩
        rw [sw_up (by decide)] at e9
        rw [e9]
        exact ih _ _ _ (d3 _ rfl)
      · obtain ⟨c1, c2, c3⟩ := b.2 t
        refine ⟨c1, c2, fun s7 e7 => ?_⟩
        rw [sw_up (by decide)] at e7
        obtain ⟨d1, d2, d3⟩ := c3 _ rfl
        rw [e7, sw_ne (k := 134) (by decide)]
        refine ⟨d1, d2, fun s9 e9 => ?_⟩
        rw [sw_up (by decide)] at e9
        rw [e9]
        exact ih _ _ _ (d3 _ rfl)
    have k47 : ∀ (y0 : Int32), wj_X10_flush_47 (wl_X10_flush_12 n) x p1 f y y0 (fun r s => post r (sw s g)) → wj_X10_flush_47 (wl_X10_flush_12 n) (sw x g) p1 f y y0 post := by
      intro y0 h
      unfold wj_X10_flush_47 at h ⊢
      rw [sw_ne (k := 113) (by decide)]
      refine ⟨fun q => k79 _ _ _ (h.1 q), fun q => ⟨(h.2 q).1, fun t => k79 _ _ _ ((h.2 q).2.1 t), fun t => ?_⟩⟩
      obtain ⟨m, hm⟩ := (h.2 q).2.2 t
      exact ⟨m, fr_allL (fun r hr => ⟨fun u => k79 _ _ _ (hr.1 u), fun u => k79 _ _ _ (hr.2 u)⟩) m _ _ hm⟩
    unfold wl_X10_flush_12 at h ⊢
    rw [sw_ne (k := 130) (by decide), sw_ne (k := 126) (by decide), sw_ne (k := 113) (by decide)]
    obtain ⟨h0, h1, h2⟩ := h
    refine ⟨h0, fun q => ⟨h0, fun s e => ?_⟩, fun q => ⟨fun t => ⟨h0, fun s e => ?_⟩, fun t => ?_⟩⟩
    · rw [sw_up (by decide)] at e
      rw [e]
      exact (h1 q).2 _ rfl
    · rw [sw_up (by decide)] at e
      rw [e]
      exact ((h2 q).1 t).2 _ rfl
    · obtain ⟨a1, a2, a3, a4⟩ := (h2 q).2 t
      exact ⟨a1, a2, fun u => k47 _ (a3 u), fun u => k47 _ (a4 u)⟩
theorem fr_fl (h : wp_X10_flush x p1 (fun r s => post r (sw s g))) : wp_X10_flush (sw x g) p1 post := by
  obtain ⟨h0, m, hm⟩ := h
  refine ⟨h0, m, ?_⟩
  rw [sw_ne (k := 124) (by decide)]
  exact fr_flL m x 1 0 hm
/-- the reference's flush, as the class's -/
theorem xo_rflush1 (hS : flS h c 0 r c') (hI : rI 99 x) (hD : oD c x) (hH : oH c x) (hT : oT x) (hp1 : p1.toNatClampNeg = h) (hp0 : 0 ≤ p1.toInt) (hlt : p1.toInt < (x 111 16).toInt) (hst : x 127 h = 0) (hp : ∀ rr x', rI 99 x' → oD c' x' → oH c' x' → oT x' → rfl_k x x' → post rr x') : wp_X10_flush x p1 post := by
  have hn20 := hI.2.1.1
  have z0 := l_0
  have hI' : rI h x := by
    obtain ⟨iD, iH, iL, iV⟩ := hI
    refine ⟨iD, ⟨iH.1, fun h' hh => ?_⟩, iL, iV⟩
    obtain ⟨g1, g2, g3, g4, g5, g6⟩ := iH.2 h' hh
    exact ⟨g1, g2, g3, g4, g5, fun q => g6 (fun t => by omega)⟩
  refine ⟨pz_in.mpr ⟨hp0, by show p1.toInt < 20; omega⟩, 22, ?_⟩
  rw [hp1]
  exact hS x p1 (fun _ => True) post 22 (fun _ _ _ _ _ _ => trivial) hI' trivial hD hH hT hp1 hp0 hlt hst (by omega) (fun rr x' a1 a2 a3 a4 a5 a6 a7 a8 => hp rr x' a1 a5 a6 a7 a3)
/-- from handle y on they are closed -/
def bS (y : Int) (c c' : io_M) : Prop := ∀ (x : io_M) (g : Nat → Int32) (post : Int32 → io_M → Prop) (w z : Int32) (k : Nat), z.toInt = y → 20 - y < k → (∀ h : Nat, y ≤ h → g h = x 127 h) → rI 99 x → oD c x → oH c x → oT x → (∀ x' g', rI 99 x' → oD c' x' → oH c' x' → rfl_k x x' → post w (sw x' g')) → wl_X10_run_202 k (sw x g) w z post
theorem xb_close : ∀ (n : Nat) (c : io_M) (z : Int32) (pv : io_M → Prop), io_CI c → 0 ≤ z.toInt → z.toInt ≤ 20 → 20 - z.toInt < n → (∀ c', io_CI c' → io_F2 c c' → bS z.toInt c c' → pv c') → wl_X3_closeBehindRun_2 n c z pv := by
  intro n
  induction n with
  | zero => intro c z pv _ _ h1 h2; exact absurd h2 (by omega)
  | succ n ih =>
    intro c z pv hC h0 h1 h2 hp
    have hc := CI_hc hC
    unfold wl_X3_closeBehindRun_2
    refine ⟨fun q => hp c hC io_F2.rf ?_, fun q => ?_⟩
    · intro x g post w z' k ez hk hg hI hD hH hT hpost
      have hq := pz_le.mp q
      cases k with
      | zero => omega
      | succ k =>
        unfold wl_X10_run_202
        rw [sw_ne (k := 111) (by decide)]
        refine ⟨fun _ => hpost x g hI hD hH rfl_k.rf, fun t => ?_⟩
        have ht := pz_nle t
        rw [hH.1] at hq
        omega
    · have hq := pz_nle q
      have hi : vp_in z 20 := pz_in.mpr ⟨h0, by show z.toInt < 20; omega⟩
      have e2 := pz_1 (x := z) (by omega)
      have hl := io_lt hi
      have hcl := pz_cl z
      refine ⟨hi, fun h7 => ⟨fun t => absurd t (by decide), fun _ => ⟨hi, xo_flush hl hC (fun r s hC' hF' hq' => ?_)⟩⟩, fun h7 => ⟨fun _ => ?_, fun t => absurd rfl t⟩⟩
      · rcases hq' with ⟨_, hr, hf⟩ | ⟨t, _, _⟩
        · refine ih s (z + 1) pv hC' (by omega) (by omega) (by omega) (fun c' a b hb => hp c' a (hF'.tr b) ?_)
          rw [e2] at hb
          intro x g post w z' k ez hk hg hI hD hH hT hpost
          have ezz : z' = z := pz_eq.mpr ez
          rw [ezz]
          have hlt : z.toInt < (x 111 16).toInt := by rw [← hH.1]; exact hq
          have a4 := (hH.2.2 z.toNatClampNeg (by omega)).2.2.2.1
          have st : x 127 z.toNatClampNeg = 0 := by rw [← a4]; exact h7
          have gz : g z.toNatClampNeg = 0 := by rw [hg _ (by omega)]; exact st
          cases k with
          | zero => omega
          | succ k =>
            have nx : ∀ (x' t : io_M), rI 99 x' → oD s x' → oH s x' → oT x' → rfl_k x x' → t = io_up (sw x' g) 127 z.toNatClampNeg 2 → wl_X10_run_202 k t w (z + 1) post := by
              intro x' t i1 i2 i3 i4 i5 et
              rw [et, sw_st]
              refine hb x' _ post w (z + 1) k e2 (by omega) (fun h' hh => ?_) i1 i2 i3 i4 (fun x2 g2 m1 m2 m3 m4 => hpost x2 g2 m1 m2 m3 (i5.tr m4))
              rw [ru_ne (by omega), hg h' (by omega), i5 127 (by decide) (by decide) (by decide) (by decide) (by decide)]
            unfold wl_X10_run_202
            rw [sw_ne (k := 111) (by decide), sw_127, gz]
            refine ⟨fun t => absurd (pz_le.mp t) (by omega), fun _ => ⟨hi, fun _ => fr_fl (xo_rflush1 hf hI hD hH hT rfl h0 hlt st (fun rr x' i1 i2 i3 i4 i5 => ⟨fun _ => ⟨hi, fun t et => nx x' t i1 i2 i3 i4 i5 et⟩, fun _ => ⟨hi, fun t et => nx x' t i1 i2 i3 i4 i5 et⟩⟩)), fun t => absurd rfl t⟩⟩
        · exact absurd h7 t
      · refine ih c (z + 1) pv hC (by omega) (by omega) (by omega) (fun c' a b hb => hp c' a b ?_)
        rw [e2] at hb
        intro x g post w z' k ez hk hg hI hD hH hT hpost
        have ezz : z' = z := pz_eq.mpr ez
        rw [ezz]
        have hlt : z.toInt < (x 111 16).toInt := by rw [← hH.1]; exact hq
        have a4 := (hH.2.2 z.toNatClampNeg (by omega)).2.2.2.1
        have gz : ¬ g z.toNatClampNeg = 0 := by rw [hg _ (by omega), ← a4]; exact h7
        cases k with
        | zero => omega
        | succ k =>
          unfold wl_X10_run_202
          rw [sw_ne (k := 111) (by decide), sw_127]
          refine ⟨fun t => absurd (pz_le.mp t) (by omega), fun _ => ⟨hi, fun t => absurd t gz, fun _ => ⟨hi, fun t et => ?_⟩⟩⟩
          rw [et, sw_st]
          refine hb x _ post w (z + 1) k e2 (by omega) (fun h' hh => ?_) hI hD hH hT hpost
          rw [ru_ne (by omega), hg h' (by omega)]
end EZ
