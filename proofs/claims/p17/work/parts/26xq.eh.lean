/-! a node on both sides -/
def nS (b0 e : Int) (c : io_M) (n r : Int32) (c' : io_M) : Prop := ∀ (P : Nat) (x : io_M) (pv : io_M → Prop), (P : Int) = e → rS b0 (P + 1) x → x 111 48 = 0 → x 140 P = n → x 141 P = 0 → x 144 P = 0 → (P : Int) + n.toInt ≤ 59 → 0 ≤ n.toInt → n.toInt < (x 111 9).toInt → oR c x → (∀ x', rQ b0 P x x' → oR c' x' → oO r c' x' → rLo pv x') → rLo pv x
def cS (b0 e : Int) (c : io_M) (n r : Int32) (c' : io_M) : Prop := ∀ (P : Nat) (x : io_M) (pv : io_M → Prop) (k : Nat), (P : Int) = e → rS b0 P x → x 111 48 = 0 → (P : Int) + n.toInt ≤ 59 → 0 ≤ n.toInt → n.toInt < (x 111 9).toInt → oR c x → 2 * (600 - (x 111 35).toInt) + P + 1 ≤ k → 0 < k → (∀ x', rQ b0 P x x' → oR c' x' → oO r c' x' → (¬ x' 111 48 = 3 → (x 111 35).toInt + 1 ≤ (x' 111 35).toInt) → rLo pv x') → wp_X10_begin x n (fun s => wl_X10_work_0 k s pv)
def kS (b0 e lim : Int) (K : io_M → Int32 → Int32 → (Int32 → io_M → Prop) → Prop) : Prop := ∀ (c : io_M) (n dp : Int32) (post : Int32 → io_M → Prop), dp.toInt = e + 1 → lim ≤ dp.toInt → dp.toInt ≤ 61 → io_WI b0 e c → io_nd c n → (∀ r c', io_WI b0 e c' → io_Fr c c' → cS b0 e c n r c' → post r c') → K c n dp post
/-- the frame of a node at work -/
def fF (b0 : Int) (P : Nat) (n : Int32) (x0 x : io_M) : Prop := rS b0 (P + 1) x ∧ x 140 P = n ∧ rMo x0 x ∧ rFr P x0 x ∧ 0 ≤ n.toInt ∧ n.toInt < (x 111 9).toInt ∧ (P : Int) + n.toInt ≤ 59
section EQ
variable {b0 e d : Int} {P Q k : Nat} {m : Int} {c c' c1 x x0 x' t : io_M} {n a r r1 T v s : Int32} {pv : io_M → Prop} {post : Int32 → io_M → Prop}
theorem xb_begin (h : rS b0 Q x) (hg : x 111 48 = 0) (hQ : Q ≤ 60) (h3 : x 111 35 = 600 → pv (io_up x 111 48 3)) (h1 : ¬ x 111 35 = 600 → ∀ s', rS b0 (Q + 1) s' → rMo x s' → rFr Q x s' → s' 111 48 = 0 → s' 140 Q = n → s' 141 Q = 0 → s' 144 Q = 0 → s' 111 35 = x 111 35 + 1 → (∀ k, k ≠ 111 → k ≠ 140 → k ≠ 141 → k ≠ 144 → s' k = x k) → (∀ j, j ≠ 35 → j ≠ 38 → s' 111 j = x 111 j) → pv s') : wp_X10_begin x n pv := by
  have hs := sr_begin (c := n) (pv := fun s' => s' 111 48 = 0 → rS b0 (Q + 1) s' ∧ rMo x s' ∧ rFr Q x s' ∧ s' 140 Q = n ∧ s' 141 Q = 0 ∧ s' 144 Q = 0) h hg hQ (fun _ _ _ a4 _ q => absurd (a4.symm.trans q) (by decide)) (fun s' b1 b2 b3 b4 b5 b6 b7 b8 _ => ⟨b1, b2, b3, b5, b6, b7⟩)
  refine ⟨fun q s e => by rw [e]; exact h3 q, fun q s3 e3 => ?_⟩
  have g := hs.2 q s3 e3
  refine ⟨g.1, fun s5 e5 => ?_⟩
  have g := g.2 s5 e5
  refine ⟨g.1, fun s7 e7 => ?_⟩
  have g := g.2 s7 e7
  refine ⟨g.1, fun s9 e9 s11 e11 => ?_⟩
  have g := g.2 s9 e9 s11 e11
  have e9' : s9 111 = s3 111 := by rw [e9, pu_ne (by decide), e7, pu_ne (by decide), e5, pu_ne (by decide)]
  have hj : ∀ j, j ≠ 35 → j ≠ 38 → s11 111 j = x 111 j := fun j a b => by rw [e11, pu_s b, e9', e3, pu_s a]
  obtain ⟨g1, g2, g3, g4, g5, g6⟩ := g (by rw [hj 48 (by decide) (by decide)]; exact hg)
  exact h1 q s11 g1 g2 g3 (by rw [hj 48 (by decide) (by decide)]; exact hg) g4 g5 g6 (by rw [e11, pu_s (by decide), e9', e3, pu_self]) (fun k a b d f => by rw [e11, pu_ne a, e9, pu_ne f, e7, pu_ne d, e5, pu_ne b, e3, pu_ne a]) hj
/-- a node's way is the way of its call -/
theorem nS.call (hn : nS b0 e (io_up c 107 10 (c 107 10 + 1)) n r c') (hst : (c 107 10).toInt < 600) (he : e ≤ 59) : cS b0 e c n r c' := by
  intro P x pv k hP hS hg hPn hn0 hn1 hR hk hk0 hK
  have h8 := hR.2.2.2.2.2.2.2.1
  have hv := hR.v (by rw [hg]; decide)
  have e10 := pz_1 (x := c 107 10) (by omega)
  refine xb_begin hS hg (by omega) (fun q => ?_) (fun q s' b1 b2 b3 b4 b5 b6 b7 b8 b9 b10 => ?_)
  · rw [h8, q, l_600] at hst; omega
  · have hR' : oR (io_up c 107 10 (c 107 10 + 1)) s' := by
      obtain ⟨r1, r2, r3, r4, r5, r6, r7, r8, r9⟩ := hR
      have gc : ∀ k, k ≠ 107 → (io_up c 107 10 (c 107 10 + 1)) k = c k := fun k a => pu_ne a
      have gx : ∀ k, 112 ≤ k → k < 140 → s' k = x k := fun k a b => b9 k (by omega) (by omega) (by omega) (by omega)
      have gj : ∀ j, j < 35 → s' 111 j = x 111 j := fun j a => b10 j (by omega) (by omega)
      exact ⟨r1.cg (fun k a b => gc k (by omega)) (fun k a b => gx k (by omega) (by omega)), r2.cg (fun k a => gc k (by omega)) (by rw [gc 101 (by decide)]) (gj 16 (by omega)) (fun k a => gx k (by omega) (by omega)), r3.cg (gj 16 (by omega)) (fun k a => gx k (by omega) (by omega)), r4.cg (fun k a b => gc k (by omega)) (by rw [gc 103 (by decide)]) (gj 28 (by omega)) (fun k a => gx k (by omega) (by omega)), r5.cg (by rw [gc 105 (by decide)]) (gc 106 (by decide)) (gj 33 (by omega)) (gx 139 (by omega) (by omega)), r6.cg (gc 93 (by decide)) (gc 94 (by decide)) (gc 95 (by decide)) (fun j a => gj j (by omega)) (gx 116 (by omega) (by omega)) (gx 117 (by omega) (by omega)), r7.cg (fun k a b => gc k (by omega)) (gj 9 (by omega)) (fun k a b => gx k (by omega) (by omega)), by rw [pu_self, b8, h8], Or.inr (hv.cg (gc 108 (by decide)) (gc 109 (by decide)) (gx 122 (by omega) (by omega)) (gx 123 (by omega) (by omega)))⟩
    rw [h8] at e10
    have w1 : (s' 111 35).toInt = (x 111 35).toInt + 1 := by rw [b8, e10]
    refine hn P s' pv hP b1 b4 b5 b6 b7 hPn hn0 (by rw [b2.2.1]; exact hn1) hR' (fun x' q1 q2 q3 => ?_) k hk0 (fun _ => ?_)
    · obtain ⟨p1, p2, p3, p4⟩ := q1
      refine hK x' ⟨p1, p2, b2.tr p3, ?_⟩ q2 q3 (fun _ => by have := p3.2.2.2.2; omega)
      rcases p4 with p4 | ⟨p4, p5, p6, p7⟩
      · exact Or.inl p4
      · exact Or.inr ⟨p4, p5, p6, b3.tr p7⟩
    · have h38 := b1.2.2.2.1
      omega
/-- no more nodes may be worked -/
theorem cS.stop (hst : 600 ≤ (c 107 10).toInt) : cS b0 e c n 0 (io_up (io_up c 107 7 5) 107 8 0) := by
  intro P x pv k hP hS hg hPn hn0 hn1 hR hk hk0 hK
  have h8 := hR.2.2.2.2.2.2.2.1
  have hB := hS.2.2.2.2
  refine xb_begin hS hg (by omega) (fun _ => ?_) (fun q => ?_)
  · refine hK _ ⟨rI_s hS.1 (by omega), ?_, ⟨fun k q => pu_ne (by omega), pu_s (by decide), ?_, ?_, ?_⟩, Or.inl ⟨pu_self, ?_⟩⟩ (hR.fr (fun k a b => by rw [pu_ne b, pu_ne b]) (by rw [pu_same (by decide), pu_same (by decide)]) (fun k a b => pu_ne (by omega)) (fun j a => pu_s (by omega)) (Or.inl pu_self)) (Or.inr (Or.inr (Or.inr ⟨rfl, pu_self, by rw [pu_same (by decide), pu_self], pu_self⟩))) (fun q => absurd pu_self q) k hk0 (fun q => absurd pu_self q)
    · unfold rC; rw [pu_s (by decide), pu_s (by decide)]; exact hS.2.1
    · rw [pu_s (by decide)]; exact Int.le_refl _
    · rw [pu_s (by decide)]; exact Int.le_refl _
    · rw [pu_s (by decide)]; exact Int.le_refl _
    · have := hB.le (Q := 0) (by omega)
      unfold rB
      rw [pu_s (by decide), pu_s (by decide), pu_s (by decide)]
      exact this
  · exfalso
    rw [h8] at hst
    have := hB.1
    exact q (pz_eq.mpr (by rw [l_600]; omega))
theorem oO.r01 (h : oO r c x) : r = 0 ∨ r = 1 := by
  rcases h with q | q | q | q
  · exact Or.inr q.1
  · exact Or.inl q.1
  · exact Or.inl q.1
  · exact Or.inl q.1
theorem cS.one (h : cS b0 e c n r c') (h0 : ¬ r = 0) : cS b0 e c n 1 c' := by
  by_cases q : r = 1
  · rw [q] at h
    exact h
  · intro P x pv k hP hS hg hPn hn0 hn1 hR hk hk0 hK
    refine h P x pv k hP hS hg hPn hn0 hn1 hR hk hk0 (fun x' _ _ hO _ => ?_)
    rcases hO.r01 with z | z
    · exact absurd z h0
    · exact absurd z q
theorem cS.deep (he : 60 ≤ e) : cS b0 e c n r c' := by
  intro P x pv k hP hS hg hPn hn0 hn1
  omega
theorem fF.g (h : fF b0 P n x0 x) (hk : 2 * (600 - (x 111 35).toInt) + P + 2 ≤ k) : rG b0 P n x0 600 k x := ⟨h.1, h.2.1, h.2.2.1, h.2.2.2.1, by have := h.1.2.2.2.2.1; omega, hk, h.2.2.2.2.1, h.2.2.2.2.2.1⟩
theorem rG.f (h : rG b0 P n x0 d k x) (hp : (P : Int) + n.toInt ≤ 59) : fF b0 P n x0 x := ⟨h.1, h.2.1, h.2.2.1, h.2.2.2.1, h.2.2.2.2.2.2.1, h.2.2.2.2.2.2.2, hp⟩
theorem lo_go (h : fF b0 P n x0 x) (hg : x 111 48 = 0) (hgo : ∀ (T : Int32) (k : Nat), T.toNatClampNeg = P → vp_in T 64 → rG b0 P n x0 600 k x → wp_X10_go x T n (fun s => wl_X10_work_0 k s pv)) : rLo pv x := by
  intro k hk0 hfu
  have h6 := h.1.2.2.2.2.1
  have h38 := h.1.2.2.2.1
  have hfu := hfu (by rw [hg]; decide)
  have h0 := h.2.2.2.2
  obtain ⟨k', rfl⟩ : ∃ k', k = k' + 1 := ⟨k - 1, by omega⟩
  have eT : (x 111 38 - 1).toInt = P := by rw [pz_s1 (by omega)]; omega
  have hP : (x 111 38 - 1).toNatClampNeg = P := by rw [pz_cl]; omega
  have hT : vp_in (x 111 38 - 1) 64 := pz_in.mpr ⟨by omega, by rw [eT]; show (P : Int) < 64; omega⟩
  unfold wl_X10_work_0
  refine ⟨fun q => ?_, fun _ => ⟨fun q => ?_, fun _ => ⟨fun _ => ⟨hT, ?_⟩, fun q => absurd hg q⟩⟩⟩
  · have := pz_le.mp q
    have := l_0
    omega
  · rw [hg] at q; exact absurd q (by decide)
  · rw [hP, h.2.1]
    exact hgo _ k' hP hT (h.g (by omega))
theorem lo_un (h : fF b0 P n x0 x) (hg : x 111 48 = 1 ∨ x 111 48 = 2) (hgo : ∀ (T : Int32) (k : Nat), T.toNatClampNeg = P → vp_in T 64 → rG b0 P n x0 600 k x → wp_X10_unwind x T (fun s => wl_X10_work_0 k s pv)) : rLo pv x := by
  intro k hk0 hfu
  have h6 := h.1.2.2.2.2.1
  have h38 := h.1.2.2.2.1
  have hfu := hfu (by rcases hg with q | q <;> rw [q] <;> decide)
  have h0 := h.2.2.2.2
  obtain ⟨k', rfl⟩ : ∃ k', k = k' + 1 := ⟨k - 1, by omega⟩
  have eT : (x 111 38 - 1).toInt = P := by rw [pz_s1 (by omega)]; omega
  have hP : (x 111 38 - 1).toNatClampNeg = P := by rw [pz_cl]; omega
  have hT : vp_in (x 111 38 - 1) 64 := pz_in.mpr ⟨by omega, by rw [eT]; show (P : Int) < 64; omega⟩
  unfold wl_X10_work_0
  refine ⟨fun q => ?_, fun _ => ⟨fun q => ?_, fun _ => ⟨fun q => ?_, fun _ => hgo _ k' hP hT (h.g (by omega))⟩⟩⟩
  · have := pz_le.mp q
    have := l_0
    omega
  · rcases hg with z | z <;> rw [z] at q <;> exact absurd q (by decide)
  · rcases hg with z | z <;> rw [z] at q <;> exact absurd q (by decide)
/-- the top is over with a doing -/
theorem lo_end (hK : ∀ x', rQ b0 P x0 x' → oR c' x' → oO r c' x' → rLo pv x') (h : rG b0 P n x0 d k x) : ∀ t, rP b0 P x t → oR c' t → oO r c' t → wl_X10_work_0 k t pv := by
  intro t q hR hO
  obtain ⟨hS, h140, hMo, hFr, hd, hk, hn0, hn1⟩ := h
  obtain ⟨q1, q2, q3, q4, q5, q6⟩ := q
  have h6 := hS.2.2.2.2.1
  refine hK t ⟨q1, q2, hMo.tr q3.mo, Or.inr ⟨q4, q5, q6, hFr.tr q3.fr⟩⟩ hR hO k (by omega) (fun _ => ?_)
  rw [q3.2.2.2.2]
  omega
/-- the top goes, with what there is -/
theorem lo_pop (hK : ∀ x', rQ b0 P x0 x' → oR c' x' → oO r c' x' → rLo pv x') (h : rG b0 P n x0 d k x) (hR : oR c' x) (hO : oO r c' x) (ho : rOut x) : ∀ t, t = io_up x 111 38 (x 111 38 - 1) → wl_X10_work_0 k t pv := by
  intro t et
  obtain ⟨hS, h140, hMo, hFr, hd, hk2, hn0, hn1⟩ := h
  obtain ⟨hI, hC, hN2, hQ, hB⟩ := hS
  have h6 := hB.1
  have hk : ∀ k, k ≠ 111 → t k = x k := fun k a => by rw [et, pu_ne a]
  have hs : ∀ j, j ≠ 38 → t 111 j = x 111 j := fun j a => by rw [et, pu_s a]
  have e38 : (t 111 38).toInt = P := by rw [et, pu_self, pz_s1 (by omega)]; omega
  have g : ∀ j, j < 38 → t 111 j = x 111 j := fun j q => hs j (by omega)
  have n3 : ¬ x 111 48 = 3 := by
    rcases ho with q | q | q
    · rw [q.1]; decide
    · rw [q]; decide
    · rw [q]; decide
  refine hK t ⟨rI_cg hI (fun k q => hk k (by omega)) (g 16 (by omega)) (g 28 (by omega)), ?_, hMo.tr ⟨fun k q => hk k (by omega), g 9 (by omega), ?_, ?_, ?_⟩, Or.inr ⟨e38, ?_, ?_, hFr.tr (fun k j q _ => by rw [hk k (by omega)])⟩⟩ (hR.fr (fun _ _ _ => rfl) rfl (fun k a b => hk k (by omega)) (fun j a => g j a) (Or.inr (hR.v n3))) ?_ k (by omega) (fun _ => ?_)
  · unfold rC; rw [g 4 (by omega), g 5 (by omega)]; exact hC
  · rw [g 16 (by omega)]; exact Int.le_refl _
  · rw [g 28 (by omega)]; exact Int.le_refl _
  · rw [g 35 (by omega)]; exact Int.le_refl _
  · unfold rOut
    rw [hs 48 (by decide), hs 46 (by decide), hs 47 (by decide), g 16 (by omega), g 28 (by omega)]
    exact ho
  · have := hB.le (Q := P) (by omega)
    unfold rB
    rw [g 35 (by omega), g 33 (by omega), g 7 (by omega)]
    exact this
  · unfold oO
    rw [hs 48 (by decide), hs 46 (by decide), hs 47 (by decide), hs 49 (by decide), hs 50 (by decide)]
    exact hO
  · rw [g 35 (by omega)]
    omega
/-- a part is worked -/
theorem lo_call (h : rG b0 P n x0 d k x) (hPn : (P : Int) + n.toInt ≤ 59) (hg : x 111 48 = 0) (hR : oR c x) (hS : cS b0 e c a r1 c1) (he : e = P + 1) (ha : 0 ≤ a.toInt ∧ a.toInt < n.toInt) (h3 : ∀ x', rQ b0 P x0 x' → oR c1 x' → oO r1 c1 x' → x' 111 48 = 3 → rLo pv x') (hn : ∀ x', fF b0 P n x0 x' → oR c1 x' → oO r1 c1 x' → rOut x' → (∀ k, 140 ≤ k → x' k P = x k P) → rMo x x' → (x 111 35).toInt + 1 ≤ (x' 111 35).toInt → rLo pv x') : wp_X10_begin x a (fun s => wl_X10_work_0 k s pv) := by
  obtain ⟨hSx, h140, hMo, hFr, hd, hk, hn0, hn1⟩ := h
  have h6 := hSx.2.2.2.2.1
  refine hS (P + 1) x pv k (by omega) hSx hg (by omega) ha.1 (by omega) hR (by omega) (by omega) (fun x' q1 q2 q3 q4 => ?_)
  obtain ⟨p1, p2, p3, p4⟩ := q1
  rcases p4 with ⟨p5, p6⟩ | ⟨p5, p6, p7, p8⟩
  · exact h3 x' ⟨p1, p2, hMo.tr p3, Or.inl ⟨p5, p6⟩⟩ q2 q3 p5
  · refine hn x' ⟨⟨p1, p2, hSx.2.2.1.of p3, p5, p7⟩, by rw [p8 140 P (by omega) (by omega)]; exact h140, hMo.tr p3, hFr.tr (p8.le (by omega)), hn0, by rw [p3.2.1]; exact hn1, hPn⟩ q2 q3 p6 (fun k a => p8 k P a (by omega)) p3 (q4 ?_)
    rcases p6 with z | z | z
    · rw [z.1]; decide
    · rw [z]; decide
    · rw [z]; decide
theorem oO.g0 (h : oO 1 c x) : x 111 48 = 0 ∧ c 107 7 = x 111 46 ∧ c 107 8 = x 111 47 ∧ (c 107 7 = 0 ∨ c 107 7 = 1 ∨ c 107 7 = 2) := by
  rcases h with q | q | q | q
  · exact q.2
  · exact absurd q.1 (by decide)
  · exact absurd q.1 (by decide)
  · exact absurd q.1 (by decide)
theorem oO.g1 (h : oO 0 c x) (ho : rOut x) : (x 111 48 = 1 ∧ c 107 7 = 3 ∧ c 107 8 = x 111 49 ∧ c 107 9 = x 111 50) ∨ (x 111 48 = 2 ∧ c 107 7 = 4 ∧ c 107 8 = x 111 49) := by
  rcases h with q | q | q | q
  · exact absurd q.1 (by decide)
  · exact Or.inl q.2
  · exact Or.inr q.2
  · rcases ho with z | z | z
    · rw [z.1] at q; exact absurd q.2.1 (by decide)
    · rw [z] at q; exact absurd q.2.1 (by decide)
    · rw [z] at q; exact absurd q.2.1 (by decide)
theorem rOut.tt (h : rOut x) (hg : x 111 48 = 0) : tv (x 111 16) (x 111 28) (x 111 46) (x 111 47) := by
  rcases h with z | z | z
  · exact z.2
  · rw [hg] at z; exact absurd z (by decide)
  · rw [hg] at z; exact absurd z (by decide)
/-- what fails or exits goes through a node that holds nothing up -/
theorem lo_prop (hK : ∀ x', rQ b0 P x0 x' → oR c' x' → oO 0 c' x' → rLo pv x') (h : fF b0 P n x0 x) (hR : oR c' x) (hO : oO 0 c' x) (ho : rOut x) (h26 : x 118 n.toNatClampNeg = 26 → x 141 P = 1 → x 111 48 = 1 → ¬ ((x 121 n.toNatClampNeg >>> ((x 111 49) &&& 31)) &&& 1) = 1) (h27 : x 118 n.toNatClampNeg = 27 → ¬ x 141 P = 1) (h28 : x 118 n.toNatClampNeg = 28 → ¬ x 141 P = 2) : rLo pv x := by
  have hgo : x 111 48 = 1 ∨ x 111 48 = 2 := by
    rcases hO.g1 ho with q | q
    · exact Or.inl q.1
    · exact Or.inr q.1
  refine lo_un h hgo (fun T k hP hT hG => ?_)
  have hin := hG.in
  unfold wp_X10_unwind
  rw [hP, h.2.1]
  have pop : wj_X10_unwind_127 x T n (x 118 n.toNatClampNeg) (x 141 P) (fun s => wl_X10_work_0 k s pv) := ⟨fun _ => lo_pop hK hG hR hO ho, fun q => absurd rfl q⟩
  have k111 : wj_X10_unwind_111 x T n (x 118 n.toNatClampNeg) (x 141 P) (fun s => wl_X10_work_0 k s pv) := ⟨fun c28 => ⟨fun e2 => absurd e2 (h28 c28), fun _ => pop⟩, fun _ => pop⟩
  have k99 : wj_X10_unwind_99 x T n (x 118 n.toNatClampNeg) (x 141 P) (fun s => wl_X10_work_0 k s pv) := ⟨fun c27 => ⟨fun e1 => absurd e1 (h27 c27), fun _ => k111⟩, fun _ => k111⟩
  exact ⟨hT, hin, hT, fun c26 => ⟨fun e1 => ⟨fun g1 => ⟨hin, fun q => absurd q (h26 c26 e1 g1), fun _ => k99⟩, fun _ => k99⟩, fun _ => k99⟩, fun _ => k99⟩
/-- which doing a node's code is -/
theorem go_H {Z : io_M → Prop} (hP : T.toNatClampNeg = P) (hT : vp_in T 64) (hin : vp_in n 60) (hq : 4 ≤ (x 118 n.toNatClampNeg).toInt ∧ (x 118 n.toNatClampNeg).toInt ≤ 14) (h : ∀ t, t = io_up x 141 P (x 141 P + 1) → wp_X10_goHandles t T n (x 118 n.toNatClampNeg) (x 141 P) Z) : wp_X10_go x T n Z := by
  unfold wp_X10_go
  rw [hP]
  refine ⟨hT, hT, fun t e => ?_⟩
  have e118 : t 118 = x 118 := by rw [e, pu_ne (by decide)]
  rw [e118]
  refine ⟨hin, fun q => ?_, fun _ => ⟨fun q => ?_, fun _ => ⟨fun q => ?_, fun _ => ⟨fun q => ?_, fun _ => ⟨fun q => ?_, fun _ => h t e⟩⟩⟩⟩⟩
  · rw [q] at hq; exact absurd hq (by decide)
  · rw [q] at hq; exact absurd hq (by decide)
  · rw [q] at hq; exact absurd hq (by decide)
  · rw [q] at hq; exact absurd hq (by decide)
  · have := pz_lt.mp q; have := l_14; omega
theorem go_T {Z : io_M → Prop} (hP : T.toNatClampNeg = P) (hT : vp_in T 64) (hin : vp_in n 60) (hq : x 118 n.toNatClampNeg = 17 ∨ x 118 n.toNatClampNeg = 18) (h : ∀ t, t = io_up x 141 P (x 141 P + 1) → wp_X10_goTexts t n (x 118 n.toNatClampNeg) (x 141 P) Z) : wp_X10_go x T n Z := by
  unfold wp_X10_go
  rw [hP]
  refine ⟨hT, hT, fun t e => ?_⟩
  have e118 : t 118 = x 118 := by rw [e, pu_ne (by decide)]
  rw [e118]
  refine ⟨hin, fun q => ?_, fun _ => ⟨fun q => ?_, fun _ => ⟨fun q => ?_, fun _ => ⟨fun q => ?_, fun _ => ⟨fun _ => ⟨fun q => ?_, fun _ => ⟨fun q => ?_, fun _ => ⟨fun q => ?_, fun _ => h t e⟩⟩⟩, fun q => ?_⟩⟩⟩⟩⟩
  · rw [q] at hq; exact absurd hq (by decide)
  · rw [q] at hq; exact absurd hq (by decide)
  · rw [q] at hq; exact absurd hq (by decide)
  · rw [q] at hq; exact absurd hq (by decide)
  · rw [q] at hq; exact absurd hq (by decide)
  · rw [q] at hq; exact absurd hq (by decide)
  · rcases hq with z | z <;> rw [z] at q <;> exact absurd q (by decide)
  · rcases hq with z | z <;> rw [z] at q <;> exact absurd q (by decide)
theorem go_P {Z : io_M → Prop} (hP : T.toNatClampNeg = P) (hT : vp_in T 64) (hin : vp_in n 60) (hq : 19 ≤ (x 118 n.toNatClampNeg).toInt ∧ (x 118 n.toNatClampNeg).toInt ≤ 23) (h : ∀ t, t = io_up x 141 P (x 141 P + 1) → wp_X10_goPlain t T n (x 118 n.toNatClampNeg) (x 141 P) Z) : wp_X10_go x T n Z := by
  unfold wp_X10_go
  rw [hP]
  refine ⟨hT, hT, fun t e => ?_⟩
  have e118 : t 118 = x 118 := by rw [e, pu_ne (by decide)]
  rw [e118]
  have z14 := l_14
  have z18 := l_18
  have z23 := l_23
  refine ⟨hin, fun q => ?_, fun _ => ⟨fun q => ?_, fun _ => ⟨fun q => ?_, fun _ => ⟨fun q => ?_, fun _ => ⟨fun _ => ⟨fun q => ?_, fun _ => ⟨fun q => ?_, fun _ => ⟨fun _ => ⟨fun q => ?_, fun _ => h t e⟩, fun q => ?_⟩⟩⟩, fun q => ?_⟩⟩⟩⟩⟩
  · rw [q] at hq; exact absurd hq (by decide)
  · rw [q] at hq; exact absurd hq (by decide)
  · rw [q] at hq; exact absurd hq (by decide)
  · rw [q] at hq; exact absurd hq (by decide)
  · rw [q] at hq; exact absurd hq (by decide)
  · rw [q] at hq; exact absurd hq (by decide)
  · have := pz_lt.mp q; omega
  · have := pz_nlt q; omega
  · have := pz_nlt q; omega
theorem go_E {Z : io_M → Prop} (hP : T.toNatClampNeg = P) (hT : vp_in T 64) (hin : vp_in n 60) (hq : 24 ≤ (x 118 n.toNatClampNeg).toInt) (h : ∀ t, t = io_up x 141 P (x 141 P + 1) → wp_X10_goEnds t T n (x 118 n.toNatClampNeg) (x 141 P) Z) : wp_X10_go x T n Z := by
  unfold wp_X10_go
  rw [hP]
  refine ⟨hT, hT, fun t e => ?_⟩
  have e118 : t 118 = x 118 := by rw [e, pu_ne (by decide)]
  rw [e118]
  have z14 := l_14
  have z18 := l_18
  have z23 := l_23
  refine ⟨hin, fun q => ?_, fun _ => ⟨fun q => ?_, fun _ => ⟨fun q => ?_, fun _ => ⟨fun q => ?_, fun _ => ⟨fun _ => ⟨fun q => ?_, fun _ => ⟨fun q => ?_, fun _ => ⟨fun _ => ⟨fun _ => h t e, fun q => ?_⟩, fun q => ?_⟩⟩⟩, fun q => ?_⟩⟩⟩⟩⟩
  · rw [q] at hq; exact absurd hq (by decide)
  · rw [q] at hq; exact absurd hq (by decide)
  · rw [q] at hq; exact absurd hq (by decide)
  · rw [q] at hq; exact absurd hq (by decide)
  · rw [q] at hq; exact absurd hq (by decide)
  · rw [q] at hq; exact absurd hq (by decide)
  · have := pz_nlt q; omega
  · have := pz_nlt q; omega
  · have := pz_nlt q; omega
end EQ
