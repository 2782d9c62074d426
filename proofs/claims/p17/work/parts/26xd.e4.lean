/-! what a doing comes to, on both sides -/
def oO (r : Int32) (c x : io_M) : Prop := (r = 1 ∧ x 111 48 = 0 ∧ c 107 7 = x 111 46 ∧ c 107 8 = x 111 47 ∧ (c 107 7 = 0 ∨ c 107 7 = 1 ∨ c 107 7 = 2)) ∨ (r = 0 ∧ x 111 48 = 1 ∧ c 107 7 = 3 ∧ c 107 8 = x 111 49 ∧ c 107 9 = x 111 50) ∨ (r = 0 ∧ x 111 48 = 2 ∧ c 107 7 = 4 ∧ c 107 8 = x 111 49) ∨ (r = 0 ∧ x 111 48 = 3 ∧ c 107 7 = 5 ∧ c 107 8 = 0)
def fl3 (c : io_M) (k n : Int32) : io_M := io_up (io_up (io_up c 107 7 3) 107 8 k) 107 9 n
def gv2 (c : io_M) (s v : Int32) : io_M := io_up (io_up c 107 7 s) 107 8 v
/-- the class has noted n -/
def cN (c : io_M) (n : Int32) (c1 : io_M) : Prop := (∀ k, k ≠ 105 → k ≠ 106 → c1 k = c k) ∧ c1 105 1 = c 105 1 + 1 ∧ ((c 105 1).toInt < 300 → c1 106 = ru (c 106) (c 105 1).toNatClampNeg n) ∧ (300 ≤ (c 105 1).toInt → c1 106 = c 106)
section ED
variable {c x c' x' c1 σ0 : io_M} {post : Int32 → io_M → Prop} {pv : io_M → Prop} {h i : Nat} {p1 y v n s k r : Int32} {b0 e m : Int} {P : Nat}
theorem xa_note (hw : io_WI b0 (e + 1) c) (he : 0 ≤ e) (hp : ∀ c1, io_WI b0 e c1 → io_Fr c c1 → cN c n c1 → pv c1) : wp_X4_note c n pv := by
  have hs := sp_note (x := n) (pv := fun s => io_WI b0 e s ∧ io_Fr c s) hw he (fun s a b => ⟨a, b⟩)
  have z := l_300
  refine ⟨fun q s3 e3 => ?_, fun q => ⟨(hs.2 q).1, fun s5 e5 s7 e7 => ?_⟩⟩
  · have g := hs.1 q s3 e3
    have hq := pz_le.mp q
    refine hp s3 g.1 g.2 ⟨fun k a b => by rw [e3, pu_ne a], by rw [e3, pu_self], fun t => by omega, fun _ => by rw [e3, pu_ne (by decide)]⟩
  · have g := (hs.2 q).2 s5 e5 s7 e7
    have hq := pz_nle q
    refine hp s7 g.1 g.2 ⟨fun k a b => by rw [e7, pu_ne a, e5, pu_ne b], by rw [e7, pu_self, e5, pu_ne (by decide)], fun _ => by rw [e7, pu_ne (by decide), e5, pu_row], fun t => by omega⟩
theorem xa_give (hw : io_WI b0 e c) (hp : io_WI b0 e (gv2 c s v) → io_Fr c (gv2 c s v) → post 1 (gv2 c s v)) : wp_X8_give c s v post := by
  have hs := sp_give (p := s) (x := v) (post := fun _ s => io_WI b0 e s ∧ io_Fr c s) hw (fun s a b => ⟨a, b⟩)
  have g := hs _ rfl _ rfl
  intro s1 e1 s2 e2
  rw [e2, e1]
  exact hp g.1 g.2
theorem xa_fail (hw : io_WI b0 e c) (hp : io_WI b0 e (fl3 c k n) → io_Fr c (fl3 c k n) → post 0 (fl3 c k n)) : wp_X8_fail c k n post := by
  have hs := sp_fail (p := k) (x := n) (post := fun _ s => io_WI b0 e s ∧ io_Fr c s) hw (fun s a b => ⟨a, b⟩)
  have g := hs _ rfl _ rfl _ rfl
  intro s1 e1 s2 e2 s3 e3
  rw [e3, e2, e1]
  exact hp g.1 g.2
theorem xa_setF (hw : io_WI b0 e c) (hv : v.toInt < 0) (hk : (-1) - v = k) (hp : io_WI b0 e (fl3 c k n) → io_Fr c (fl3 c k n) → post 0 (fl3 c k n)) : wp_X8_settle c n s v post := by
  refine ⟨fun q => absurd (pz_le.mp q) (by rw [l_0]; omega), fun _ => ?_⟩
  show wp_X8_fail c ((-1) - v) n (fun r8 s9 => post r8 s9)
  rw [hk]
  exact xa_fail hw hp
theorem xa_setG (hw : io_WI b0 e c) (hv : 0 ≤ v.toInt) (hp : io_WI b0 e (gv2 c s v) → io_Fr c (gv2 c s v) → post 1 (gv2 c s v)) : wp_X8_settle c n s v post :=
  ⟨fun _ => xa_give hw hp, fun q => absurd (pz_le.mpr (by rw [l_0]; omega)) q⟩
theorem xa_actF (hw : io_WI b0 (e + 1) c) (hv : v.toInt < 0) (hk : (-1) - v = k) (hp : io_WI b0 e (fl3 c k n) → io_Fr c (fl3 c k n) → post 0 (fl3 c k n)) : wp_X8_act c n s v post :=
  ⟨fun _ => xa_setF (hw.le (by omega)) hv hk hp, fun q => absurd (pz_lt.mpr (by rw [l_0]; omega)) q⟩
theorem xa_actG (hw : io_WI b0 (e + 1) c) (he : 0 ≤ e) (hv : 0 ≤ v.toInt) (hp : ∀ c1, cN c n c1 → io_WI b0 e (gv2 c1 s v) → io_Fr c (gv2 c1 s v) → post 1 (gv2 c1 s v)) : wp_X8_act c n s v post :=
  ⟨fun q => absurd (pz_lt.mp q) (by rw [l_0]; omega), fun _ => xa_note hw he (fun c1 a b d => xa_setG a hv (fun f g => hp c1 d f (b.tr g)))⟩
theorem fl3_k {j : Nat} (hj : j ≠ 107) : fl3 c k n j = c j := by unfold fl3; rw [pu_ne hj, pu_ne hj, pu_ne hj]
theorem fl3_10 : fl3 c k n 107 10 = c 107 10 := by unfold fl3; rw [pu_same (by decide), pu_same (by decide), pu_same (by decide)]
theorem gv2_k {j : Nat} (hj : j ≠ 107) : gv2 c s v j = c j := by unfold gv2; rw [pu_ne hj, pu_ne hj]
theorem gv2_10 : gv2 c s v 107 10 = c 107 10 := by unfold gv2; rw [pu_same (by decide), pu_same (by decide)]
theorem en_fail (hM : rM b0 P m σ0 x) (hm : 0 ≤ m) (hR : oR c x) (hp : ∀ x', rP b0 P σ0 x' → oR (fl3 c k n) x' → oO 0 (fl3 c k n) x' → pv x') : wp_X10_fails x n k pv := by
  have g := sr_fails (n := n) (v := k) (pv := fun s => rP b0 P σ0 s) hM hm (fun s a => a) _ rfl _ rfl _ rfl _ rfl
  have h0 := hM.2.2.2.1.2
  intro s1 e1 s2 e2 s3 e3 s4 e4
  rw [e3, e2, e1] at e4
  rw [e4]
  refine hp _ g (hR.fr (fun k a b => fl3_k b) fl3_10 (fun k a b => ?_) (fun j a => ?_) (Or.inr (hR.v (by rw [h0]; decide)))) (Or.inr (Or.inl ⟨rfl, ?_, ?_, ?_, ?_⟩))
  · rw [pu_ne (by omega), pu_ne (by omega), pu_ne (by omega), pu_ne (by omega)]
  · rw [pu_s (by omega), pu_s (by omega), pu_s (by omega), pu_s (by omega)]
  · rw [pu_s (by decide), pu_s (by decide), pu_s (by decide), pu_self]
  · unfold fl3; rw [pu_same (by decide), pu_same (by decide), pu_self]
  · unfold fl3; rw [pu_same (by decide), pu_self, pu_s (by decide), pu_s (by decide), pu_self]
  · unfold fl3; rw [pu_self, pu_s (by decide), pu_self]
theorem en_give (hM : rM b0 P m σ0 x) (hm : 0 ≤ m) (hR : oR c x) (ht : tv (x 111 16) (x 111 28) s v) (hs : s = 0 ∨ s = 1 ∨ s = 2) (hp : ∀ x', rP b0 P σ0 x' → oR (gv2 c s v) x' → oO 1 (gv2 c s v) x' → pv x') : wp_X10_gives x s v pv := by
  have g := sr_gives (s := s) (v := v) (pv := fun s => rP b0 P σ0 s) hM hm ht (fun s a => a) _ rfl _ rfl _ rfl
  have h0 := hM.2.2.2.1.2
  intro s1 e1 s2 e2 s3 e3
  rw [e2, e1] at e3
  rw [e3]
  have e7 : gv2 c s v 107 7 = s := by unfold gv2; rw [pu_same (by decide), pu_self]
  refine hp _ g (hR.fr (fun k a b => gv2_k b) gv2_10 (fun k a b => ?_) (fun j a => ?_) (Or.inr (hR.v (by rw [h0]; decide)))) (Or.inl ⟨rfl, ?_, ?_, ?_, by rw [e7]; exact hs⟩)
  · rw [pu_ne (by omega), pu_ne (by omega), pu_ne (by omega)]
  · rw [pu_s (by omega), pu_s (by omega), pu_s (by omega)]
  · rw [pu_s (by decide), pu_s (by decide), pu_s (by decide)]; exact h0
  · rw [e7, pu_s (by decide), pu_s (by decide), pu_self]
  · unfold gv2; rw [pu_self, pu_s (by decide), pu_self]
theorem oJ.note (hJ : oJ c x) (hb : 0 ≤ (x 111 33).toInt ∧ (x 111 33).toInt < 100000) (hN : cN c n c1) (h33 : x' 111 33 = x 111 33 + 1) (h1 : (x 111 33).toInt < 300 → x' 139 = ru (x 139) (x 111 33).toNatClampNeg n) (h2 : 300 ≤ (x 111 33).toInt → x' 139 = x 139) : oJ c1 x' := by
  obtain ⟨a1, a2⟩ := hJ
  obtain ⟨b1, b2, b3, b4⟩ := hN
  rw [a1] at b2 b3 b4
  refine ⟨by rw [b2, h33], fun i hi hj => ?_⟩
  rw [h33, pz_1 (by omega)] at hj
  have hcl := pz_cl (x 111 33)
  by_cases q : (x 111 33).toInt < 300
  · rw [b3 q, h1 q]
    by_cases e : i = (x 111 33).toNatClampNeg
    · rw [e, ru_self, ru_self]
    · rw [ru_ne e, ru_ne e]
      exact a2 i hi (by omega)
  · rw [b4 (by omega), h2 (by omega)]
    exact a2 i hi (by omega)
theorem en_note (hM : rM b0 P (m + 1) σ0 x) (hm : 0 ≤ m) (hR : oR c x) (hN : cN c n c1) (hp : ∀ x', rM b0 P m σ0 x' → oR c1 x' → (∀ k, k ≠ 111 → k ≠ 139 → x' k = x k) → (∀ j, j ≠ 33 → x' 111 j = x 111 j) → pv x') : wp_X10_note x n pv := by
  have hs := sr_note (n := n) (pv := fun s => rM b0 P m σ0 s ∧ (∀ k, k ≠ 111 → k ≠ 139 → s k = x k) ∧ (∀ j, j ≠ 33 → s 111 j = x 111 j)) hM hm (fun s a b d => ⟨a, b, d⟩)
  have h0 := hM.2.2.2.1.2
  have hb1 := hM.2.2.2.2.2.1
  have hb2 := hM.2.2.2.2.2.2.1
  have hb3 := hM.2.2.2.2.1
  have z := l_300
  have key : ∀ x', rM b0 P m σ0 x' ∧ (∀ k, k ≠ 111 → k ≠ 139 → x' k = x k) ∧ (∀ j, j ≠ 33 → x' 111 j = x 111 j) → x' 111 33 = x 111 33 + 1 → ((x 111 33).toInt < 300 → x' 139 = ru (x 139) (x 111 33).toNatClampNeg n) → (300 ≤ (x 111 33).toInt → x' 139 = x 139) → pv x' := by
    intro x' g h33 h1 h2
    obtain ⟨g1, g2, g3⟩ := g
    refine hp x' g1 ?_ g2 g3
    obtain ⟨r1, r2, r3, r4, r5, r6, r7, r8, r9⟩ := hR
    have gc : ∀ k, k < 105 → c1 k = c k := fun k a => hN.1 k (by omega) (by omega)
    have gx : ∀ k, 112 ≤ k → k < 139 → x' k = x k := fun k a b => g2 k (by omega) (by omega)
    have gs : ∀ j, j < 33 → x' 111 j = x 111 j := fun j a => g3 j (by omega)
    refine ⟨r1.cg (fun k a b => gc k (by omega)) (fun k a b => gx k (by omega) (by omega)), r2.cg (fun k a => gc k (by omega)) (by rw [gc 101 (by omega)]) (gs 16 (by omega)) (fun k a => gx k (by omega) (by omega)), r3.cg (gs 16 (by omega)) (fun k a => gx k (by omega) (by omega)), r4.cg (fun k a b => gc k (by omega)) (by rw [gc 103 (by omega)]) (gs 28 (by omega)) (fun k a => gx k (by omega) (by omega)), r5.note ⟨hb1, by omega⟩ hN h33 h1 h2, r6.cg (gc 93 (by omega)) (gc 94 (by omega)) (gc 95 (by omega)) (fun j a => gs j (by omega)) (gx 116 (by omega) (by omega)) (gx 117 (by omega) (by omega)), r7.cg (fun k a b => gc k (by omega)) (gs 9 (by omega)) (fun k a b => gx k (by omega) (by omega)), ?_, ?_⟩
    · rw [hN.1 107 (by decide) (by decide), g3 35 (by decide)]; exact r8
    · rcases r9 with q | q
      · rw [h0] at q; exact absurd q (by decide)
      · exact Or.inr (q.cg (hN.1 108 (by decide) (by decide)) (hN.1 109 (by decide) (by decide)) (gx 122 (by omega) (by omega)) (gx 123 (by omega) (by omega)))
  refine ⟨fun q s3 e3 => ?_, fun q => ⟨(hs.2 q).1, fun s5 e5 s7 e7 => ?_⟩⟩
  · have hq := pz_le.mp q
    exact key s3 (hs.1 q s3 e3) (by rw [e3, pu_self]) (fun t => by omega) (fun _ => by rw [e3, pu_ne (by decide)])
  · have hq := pz_nle q
    exact key s7 ((hs.2 q).2 s5 e5 s7 e7) (by rw [e7, pu_self, e5, pu_ne (by decide)]) (fun _ => by rw [e7, pu_ne (by decide), e5, pu_row]) (fun t => by omega)
/-- noted, and a number given -/
theorem en_ng (hM : rM b0 P (m + 1) σ0 x) (hm : 0 ≤ m) (hR : oR c x) (hN : cN c n c1) (hp : ∀ x', rP b0 P σ0 x' → oR (gv2 c1 0 v) x' → oO 1 (gv2 c1 0 v) x' → pv x') : wp_X10_note x n (fun s => wp_X10_gives s 0 v pv) :=
  en_note hM hm hR hN (fun s a b _ _ => en_give a hm b tv_0 (Or.inl rfl) hp)
/-- a handle's flush: the class -/
theorem xo_flush (hh : h < 20) (hC : io_CI c) (hp : ∀ r c', io_CI c' → io_F2 c c' → (c h 7 = 0 ∧ (r = 0 ∨ r = -6) ∧ flS h c 0 r c') ∨ (¬ c h 7 = 0 ∧ r = -5 ∧ c' = c) → post r c') : wp_X2_flush c h post := by
  have hw := CI_w hC hh
  have z := l_0
  exact ⟨fun q => ⟨21, xf_loop hh 21 c 0 post hC (by omega) (by omega) (by omega) (fun r c' a b d f => hp r c' a b (Or.inl ⟨q, d, f⟩))⟩, fun q => hp _ _ hC io_F2.rf (Or.inr ⟨q, rfl, rfl⟩)⟩
/-- a handle's flush: the reference -/
theorem xo_rflush {e : Nat} (hS : flS h c 0 r c') (hI : rI e x) (hX : rX b0 P m σ0 x) (he : e = 99 ∨ e = h) (hR : oR c x) (hF : io_F2 c c') (hp1 : p1.toNatClampNeg = h) (hp0 : 0 ≤ p1.toInt) (hlt : p1.toInt < (x 111 16).toInt) (hst : x 127 h = 0) (hp : ∀ rr x', rM b0 P m σ0 x' → oR c' x' → rfl_k x x' → x' 130 h = 0 → (rr = 0 ∧ ¬ r = 0 ∨ rr = 1 ∧ r = 0) → post rr x') : wp_X10_flush x p1 post := by
  have hn20 := hI.2.1.1
  have z0 := l_0
  have h0 := hX.2.2.1.2
  have hI' : rI h x := by
    obtain ⟨hD, hH, hL, hV⟩ := hI
    refine ⟨hD, ⟨hH.1, fun h' hh => ?_⟩, hL, hV⟩
    obtain ⟨g1, g2, g3, g4, g5, g6⟩ := hH.2 h' hh
    refine ⟨g1, g2, g3, g4, g5, fun q => g6 (fun t => ?_)⟩
    rcases he with z | z
    · omega
    · exact q (t.trans z)
  refine ⟨pz_in.mpr ⟨hp0, by show p1.toInt < 20; omega⟩, 22, ?_⟩
  rw [hp1]
  refine hS x p1 (rX b0 P m σ0) post 22 (fun σ k j v hk h => rX_up h (by omega)) hI' hX hR.1 hR.2.1 hR.2.2.1 hp1 hp0 hlt hst (by omega) (fun rr x' a1 a2 a3 a4 a5 a6 a7 a8 => hp rr x' ⟨a1, a2⟩ ?_ a3 a4 a8)
  exact hR.dh (by rw [h0]; decide) hF (fun k b1 b2 b3 b4 b5 b6 b7 b8 b9 b10 => a3 k b2 b3 b4 b6 b10) a5 a6 a7
end ED
