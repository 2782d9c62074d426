section EX
variable {K : io_M → Int32 → Int32 → (Int32 → io_M → Prop) → Prop} {b0 e lim : Int} {P : Nat} {c c' c1 c2 x t : io_M} {n a r p p2 T y : Int32} {post : Int32 → io_M → Prop} {Z : io_M → Prop} {V : io_M → (io_M → Prop) → Prop}
theorem pr_put (h : vPt n y t p Z) : wp_X10_pair t n 5 p y Z := by
  obtain ⟨v1, v2, v3⟩ := h
  exact ⟨fun z => absurd z (by decide), fun _ => ⟨v1, fun z => ⟨fun u => absurd u (by decide), fun _ => ⟨fun _ => (v2 z).2 (by decide), fun u => absurd rfl u⟩⟩, fun z s1 e1 s2 e2 s3 e3 s4 e4 => ⟨fun _ => (v3 z s1 e1 s2 e2 s3 e3 s4 e4).1 rfl, fun u => absurd rfl u⟩⟩⟩
theorem pr_seek (h : vSk n y t p Z) : wp_X10_pair t n 10 p y Z := by
  obtain ⟨v1, v2, v3⟩ := h
  exact ⟨fun z => absurd z (by decide), fun _ => ⟨v1, fun z => ⟨fun u => absurd u (by decide), fun _ => ⟨fun u => absurd u (by decide), fun _ => (v2 z).2 (by decide)⟩⟩, fun z s1 e1 s2 e2 s3 e3 s4 e4 => ⟨fun _ => (v3 z s1 e1 s2 e2 s3 e3 s4 e4).1 rfl, fun u => absurd rfl u⟩⟩⟩
theorem pr_list (h : wp_X10_list t n p y Z) : wp_X10_pair t n 8 p y Z := ⟨fun _ => h, fun z => absurd rfl z⟩
/-- a node that works no part -/
theorem nS_a (hn : io_nd c n) (hX : aS c r c' V) (hgo : ∀ (x : io_M) (T : Int32) (P : Nat) (Z : io_M → Prop), x 118 n.toNatClampNeg = c 97 n.toNatClampNeg → T.toNatClampNeg = P → vp_in T 64 → vp_in n 60 → (∀ t, t = io_up x 141 P (x 141 P + 1) → V t Z) → wp_X10_go x T n Z) : nS b0 e c n r c' := by
  intro P x pv hP hSx hg h140 h141 h144 hPn hn0 hn1 hR hK
  obtain ⟨s97, s98, s99, s100⟩ := nd_s hR hn
  have hF : fF b0 P n x x := ⟨hSx, h140, rMo.rf, rFr.rf, hn0, hn1, hPn⟩
  refine lo_go hF hg (fun T k hPT hT hG => hgo x T P _ s97.symm hPT hT hG.in (fun t et => ?_))
  have hG' : rG b0 P n x 600 k t := by rw [et]; exact hG.up (by omega)
  have r1 : t 111 = x 111 := by rw [et, pu_ne (by decide)]
  exact hX b0 P t _ (hG'.mid (by rw [r1]; exact hg)) (by rw [et]; exact hR.fm hg (by omega)) (lo_end hK hG')
theorem go_0 (hP : T.toNatClampNeg = P) (hT : vp_in T 64) (hin : vp_in n 60) (hq : x 118 n.toNatClampNeg = 0) (h : ∀ t, t = io_up x 141 P (x 141 P + 1) → wp_X10_gives t 0 (t 119 n.toNatClampNeg) Z) : wp_X10_go x T n Z := by
  unfold wp_X10_go
  rw [hP]
  refine ⟨hT, hT, fun t et => ?_⟩
  have r : t 118 = x 118 := by rw [et, pu_ne (by decide)]
  rw [r, hq]
  exact ⟨hin, fun _ => ⟨hin, h t et⟩, fun z => absurd rfl z⟩
theorem go_1 (hP : T.toNatClampNeg = P) (hT : vp_in T 64) (hin : vp_in n 60) (hq : x 118 n.toNatClampNeg = 1) (h6 : vp_in (x 119 n.toNatClampNeg) 6) (h : ∀ t, t = io_up x 141 P (x 141 P + 1) → wp_X10_gives t (t 122 (t 119 n.toNatClampNeg).toNatClampNeg) (t 123 (t 119 n.toNatClampNeg).toNatClampNeg) Z) : wp_X10_go x T n Z := by
  unfold wp_X10_go
  rw [hP]
  refine ⟨hT, hT, fun t et => ?_⟩
  have r : t 118 = x 118 := by rw [et, pu_ne (by decide)]
  have r9 : vp_in (t 119 n.toNatClampNeg) 6 := by rw [et, pu_ne (by decide)]; exact h6
  rw [r, hq]
  exact ⟨hin, fun z => absurd z (by decide), fun _ => ⟨fun _ => ⟨hin, r9, hin, r9, h t et⟩, fun z => absurd rfl z⟩⟩
theorem go_3 (hP : T.toNatClampNeg = P) (hT : vp_in T 64) (hin : vp_in n 60) (hq : x 118 n.toNatClampNeg = 3) (h : ∀ t, t = io_up x 141 P (x 141 P + 1) → wp_X10_opens t n Z) : wp_X10_go x T n Z := by
  unfold wp_X10_go
  rw [hP]
  refine ⟨hT, hT, fun t et => ?_⟩
  have r : t 118 = x 118 := by rw [et, pu_ne (by decide)]
  rw [r, hq]
  exact ⟨hin, fun z => absurd z (by decide), fun _ => ⟨fun z => absurd z (by decide), fun _ => ⟨fun z => absurd z (by decide), fun _ => ⟨fun _ => h t et, fun z => absurd rfl z⟩⟩⟩⟩
theorem go_15 (hP : T.toNatClampNeg = P) (hT : vp_in T 64) (hin : vp_in n 60) (hq : x 118 n.toNatClampNeg = 15) (h : ∀ t, t = io_up x 141 P (x 141 P + 1) → wp_X10_remove t n Z) : wp_X10_go x T n Z := by
  unfold wp_X10_go
  rw [hP]
  refine ⟨hT, hT, fun t et => ?_⟩
  have r : t 118 = x 118 := by rw [et, pu_ne (by decide)]
  rw [r, hq]
  exact ⟨hin, fun z => absurd z (by decide), fun _ => ⟨fun z => absurd z (by decide), fun _ => ⟨fun z => absurd z (by decide), fun _ => ⟨fun z => absurd z (by decide), fun _ => ⟨fun _ => ⟨fun _ => h t et, fun z => absurd rfl z⟩, fun z => absurd (by decide) z⟩⟩⟩⟩⟩
theorem go_16 (hP : T.toNatClampNeg = P) (hT : vp_in T 64) (hin : vp_in n 60) (hq : x 118 n.toNatClampNeg = 16) (h : ∀ t, t = io_up x 141 P (x 141 P + 1) → wp_X10_rename t n Z) : wp_X10_go x T n Z := by
  unfold wp_X10_go
  rw [hP]
  refine ⟨hT, hT, fun t et => ?_⟩
  have r : t 118 = x 118 := by rw [et, pu_ne (by decide)]
  rw [r, hq]
  exact ⟨hin, fun z => absurd z (by decide), fun _ => ⟨fun z => absurd z (by decide), fun _ => ⟨fun z => absurd z (by decide), fun _ => ⟨fun z => absurd z (by decide), fun _ => ⟨fun _ => ⟨fun z => absurd z (by decide), fun _ => ⟨fun _ => h t et, fun z => absurd rfl z⟩⟩, fun z => absurd (by decide) z⟩⟩⟩⟩⟩
theorem kx_n0 (hw : io_WI b0 (e + 1) c) (hn : io_nd c n) (hq : c 97 n.toNatClampNeg = 0) (hp : ∀ r c', io_WI b0 e c' → io_Fr c c' → nS b0 e c n r c' → post r c') : wp_X8_give c 0 (c 98 n.toNatClampNeg) post := by
  refine xa_give (hw.le (by omega)) (fun a b => hp _ _ a b (nS_a (V := fun x pv => wp_X10_gives x 0 (x 119 n.toNatClampNeg) pv) hn ?_ (fun x T P Z h1 h2 h3 h4 h5 => go_0 h2 h3 h4 (h1.trans hq) h5)))
  intro b0 P x pv hM hR hk
  rw [(nd_s hR hn).2.1] at hk
  exact en_give hM (by omega) hR tv_0 (Or.inl rfl) hk
theorem kx_n1 (hw : io_WI b0 (e + 1) c) (hn : io_nd c n) (hq : c 97 n.toNatClampNeg = 1) (ha : 0 ≤ (c 98 n.toNatClampNeg).toInt ∧ (c 98 n.toNatClampNeg).toInt < 6) (hp : ∀ r c', io_WI b0 e c' → io_Fr c c' → nS b0 e c n r c' → post r c') : wp_X8_give c (c 108 (c 98 n.toNatClampNeg).toNatClampNeg) (c 109 (c 98 n.toNatClampNeg).toNatClampNeg) post := by
  refine xa_give (hw.le (by omega)) (fun a b => hp _ _ a b ?_)
  have hj : (c 98 n.toNatClampNeg).toNatClampNeg < 6 := by rw [pz_cl (c 98 n.toNatClampNeg)]; omega
  intro P x pv hP hSx hg h140 h141 h144 hPn hn0 hn1 hR hK
  obtain ⟨s97, s98, s99, s100⟩ := nd_s hR hn
  have hF : fF b0 P n x x := ⟨hSx, h140, rMo.rf, rFr.rf, hn0, hn1, hPn⟩
  obtain ⟨v1, v2, v3⟩ := hR.v (by rw [hg]; decide) _ hj
  refine lo_go hF hg (fun T k hPT hT hG => go_1 hPT hT hG.in (s97.symm.trans hq) (by rw [← s98]; exact pz_in.mpr ha) (fun t et => ?_))
  have hG' : rG b0 P n x 600 k t := by rw [et]; exact hG.up (by omega)
  have r : ∀ k, k ≠ 141 → t k = x k := fun k q => by rw [et, pu_ne q]
  rw [r 119 (by decide), r 122 (by decide), r 123 (by decide), ← s98, ← v1, ← v2]
  refine en_give (hG'.mid (by rw [r 111 (by decide)]; exact hg)) (by omega) (by rw [et]; exact hR.fm hg (by omega)) ?_ v3 (lo_end hK hG')
  rw [r 111 (by decide), v1, v2]
  exact hSx.1.2.2.2 _ hj
theorem kx_n24 (hw : io_WI b0 (e + 1) c) (hn : io_nd c n) (hq : c 97 n.toNatClampNeg = 24) (hp : ∀ r c', io_WI b0 e c' → io_Fr c c' → nS b0 e c n r c' → post r c') : wp_X8_fail c (c 98 n.toNatClampNeg) n post := by
  refine xa_fail (hw.le (by omega)) (fun a b => hp _ _ a b (nS_a (V := fun x pv => wp_X10_fails x n (x 119 n.toNatClampNeg) pv) hn ?_ (fun x T P Z h1 h2 h3 h4 h5 => go_E h2 h3 h4 (by rw [h1, hq]; decide) (fun t et => ⟨fun _ => ⟨h4, h5 t et⟩, fun z => absurd (h1.trans hq) z⟩))))
  intro b0 P x pv hM hR hk
  rw [(nd_s hR hn).2.1] at hk
  exact en_fail hM (by omega) hR hk
theorem kx_alone (he : 0 ≤ e) (hw : io_WI b0 (e + 1) c) (hn : io_nd c n) (h3 : c 97 n.toNatClampNeg = 3 → (0 ≤ (c 98 n.toNatClampNeg).toInt ∧ (c 98 n.toNatClampNeg).toInt < 8) ∧ 0 ≤ (c 99 n.toNatClampNeg).toInt ∧ (c 99 n.toNatClampNeg).toInt < 4) (h15 : c 97 n.toNatClampNeg = 15 → 0 ≤ (c 98 n.toNatClampNeg).toInt ∧ (c 98 n.toNatClampNeg).toInt < 8) (h16 : c 97 n.toNatClampNeg = 16 → (0 ≤ (c 98 n.toNatClampNeg).toInt ∧ (c 98 n.toNatClampNeg).toInt < 8) ∧ 0 ≤ (c 99 n.toNatClampNeg).toInt ∧ (c 99 n.toNatClampNeg).toInt < 8) (hq : c 97 n.toNatClampNeg = 3 ∨ c 97 n.toNatClampNeg = 15 ∨ c 97 n.toNatClampNeg = 16 ∨ c 97 n.toNatClampNeg = 18) (hp : ∀ r c', io_WI b0 e c' → io_Fr c c' → nS b0 e c n r c' → post r c') : wp_X8_actAlone c n post := by
  have hin := hn.in hw.2.1
  refine ⟨hin, hin, hin, fun q => xd_open hw he hn (h3 q).1 (h3 q).2 (fun r c' a b hX => hp _ _ a b (nS_a hn hX (fun x T P Z k1 k2 k3 k4 k5 => go_3 k2 k3 k4 (k1.trans q) k5))), fun q3 => ⟨fun q => xd_remove hw he hn (h15 q) (fun r c' a b hX => hp _ _ a b (nS_a hn hX (fun x T P Z k1 k2 k3 k4 k5 => go_15 k2 k3 k4 (k1.trans q) k5))), fun q15 => ⟨fun q => xd_rename hw he hn (h16 q).1 (h16 q).2 (fun r c' a b hX => hp _ _ a b (nS_a hn hX (fun x T P Z k1 k2 k3 k4 k5 => go_16 k2 k3 k4 (k1.trans q) k5))), fun q16 => xd_read hw he (fun r c' a b hX => hp _ _ a b (nS_a hn hX (fun x T P Z k1 k2 k3 k4 k5 => ?_)))⟩⟩⟩
  have q18 : c 97 n.toNatClampNeg = 18 := by
    rcases hq with z | z | z | z
    · exact absurd z q3
    · exact absurd z q15
    · exact absurd z q16
    · exact z
  exact go_T k2 k3 k4 (Or.inr (k1.trans q18)) (fun t et => ⟨fun _ => k5 t et, fun z => absurd (k1.trans q18) z⟩)
theorem kx_handle (hK : kS b0 (e + 1) lim K) (hd : p2.toInt = e + 1) (he : 0 ≤ e ∧ e ≤ 59) (hl : lim ≤ e + 2) (hw : io_WI b0 (e + 1) c) (hn : io_nd c n) (hq : c 97 n.toNatClampNeg = 4 ∨ c 97 n.toNatClampNeg = 6 ∨ c 97 n.toNatClampNeg = 7 ∨ c 97 n.toNatClampNeg = 11 ∨ c 97 n.toNatClampNeg = 12 ∨ c 97 n.toNatClampNeg = 13 ∨ c 97 n.toNatClampNeg = 14) (ha : 0 ≤ (c 98 n.toNatClampNeg).toInt ∧ (c 98 n.toNatClampNeg).toInt < n.toNatClampNeg) (hb : c 97 n.toNatClampNeg = 13 → 0 ≤ (c 99 n.toNatClampNeg).toInt ∧ (c 99 n.toNatClampNeg).toInt < 10) (hp : ∀ r c', io_WI b0 e c' → io_Fr c c' → nS b0 e c n r c' → post r c') : wp_X8_workHandle K c n p2 post := by
  refine ⟨hn.in hw.2.1, kx_hand1 hK hd he hl hw hn ?_ ?_ ?_ ha (fun c1 a b hX => ⟨fun _ => hp _ _ a b hX, fun i z => by cases z⟩) (fun c1 a b h7 h20 hM => ⟨fun z => (by cases z), fun i z => ?_⟩)⟩
  · rcases hq with q | q | q | q | q | q | q <;> rw [q] <;> decide
  · rcases hq with q | q | q | q | q | q | q <;> rw [q] <;> decide
  · rcases hq with q | q | q | q | q | q | q <;> rw [q] <;> decide
  · cases z
    have hn1 := hn.of b
    have hin1 := hn1.in a.2.1
    have e97 : c1 97 = c 97 := b.2.1 97 (by omega) (by omega)
    have e99 : c1 99 = c 99 := b.2.1 99 (by omega) (by omega)
    rw [← e97] at hq hb
    rw [← e99] at hb
    have H : ∀ w : Int32, c1 97 n.toNatClampNeg = w → (w = 6 ∨ w = 7 ∨ w = 11 ∨ w = 12 ∨ w = 13 ∨ w = 14) → ∀ r c', io_WI b0 e c' → io_Fr c1 c' → hS c1 (c1 107 8).toNatClampNeg r c' (vO n w) → post r c' := fun w q hw r c' a2 b2 hX => hp _ _ a2 (b.tr b2) (hM _ _ (mS_H hn1 (by rw [q]; exact hw) h7 (by rw [q]; exact hX)))
    refine ⟨hin1, fun q => xd_close h20 a he.1 (fun r c' a2 b2 hX => hp _ _ a2 (b.tr b2) (hM _ _ (mS_C hn1 q h7 hX))), fun q4 => ⟨fun q => xd_take h20 a he.1 (H 6 q (by decide)), fun q6 => ⟨fun q => xd_lazy h20 a (H 7 q (by decide)), fun q7 => ⟨fun q => xd_where a (H 11 q (by decide)), fun q11 => ⟨fun q => xd_size h20 a (H 12 q (by decide)), fun q12 => ⟨fun q => ⟨hin1, xd_buf h20 a he.1 hn1 (hb q) (H 13 q (by decide))⟩, fun q13 => xd_fl h20 a he.1 (H 14 ?_ (by decide))⟩⟩⟩⟩⟩⟩
    rcases hq with z | z | z | z | z | z | z
    · exact absurd z q4
    · exact absurd z q6
    · exact absurd z q7
    · exact absurd z q11
    · exact absurd z q12
    · exact absurd z q13
    · exact z
theorem kx_handleNum (hK : kS b0 (e + 1) lim K) (hd : p2.toInt = e + 1) (he : 0 ≤ e ∧ e ≤ 59) (hl : lim ≤ e + 2) (hw : io_WI b0 (e + 1) c) (hn : io_nd c n) (hq : c 97 n.toNatClampNeg = 5 ∨ c 97 n.toNatClampNeg = 10) (ha : 0 ≤ (c 98 n.toNatClampNeg).toInt ∧ (c 98 n.toNatClampNeg).toInt < n.toNatClampNeg) (hb : 0 ≤ (c 99 n.toNatClampNeg).toInt ∧ (c 99 n.toNatClampNeg).toInt < n.toNatClampNeg) (hp : ∀ r c', io_WI b0 e c' → io_Fr c c' → nS b0 e c n r c' → post r c') : wp_X8_workHandleAndNumber K c n p2 post := by
  refine ⟨hn.in hw.2.1, kx_hand1 hK hd he hl hw hn ?_ ?_ ?_ ha (fun c1 a b hX => ⟨fun _ => hp _ _ a b hX, fun i z => by cases z⟩) (fun c1 a b h7 h20 hM => ⟨fun z => (by cases z), fun i z => ?_⟩)⟩
  · rcases hq with q | q <;> rw [q] <;> decide
  · rcases hq with q | q <;> rw [q] <;> decide
  · rcases hq with q | q <;> rw [q] <;> decide
  · cases z
    have hn1 := hn.of b
    have e97 : c1 97 = c 97 := b.2.1 97 (by omega) (by omega)
    have e99 : c1 99 = c 99 := b.2.1 99 (by omega) (by omega)
    refine ⟨hn1.in a.2.1, kx_num2 hK hd he hl a hn1 (Or.inl ⟨by rw [e97]; exact hq, h7⟩) (by rw [e99]; exact hb) (fun c2 a2 b2 hX => ⟨fun _ => hp _ _ a2 (b.tr b2) (hM _ _ hX), fun z => absurd rfl z⟩) (fun c2 a2 b2 h72 hM2 => ⟨fun z => absurd z (by decide), fun _ => ⟨(hn1.of b2).in a2.2.1, fun q => ?_, fun q => ?_⟩⟩)⟩
    · have hn2 := hn1.of b2
      refine xd_put h20 a2 he.1 (fun r c' a3 b3 hX => hp _ _ a3 ((b.tr b2).tr b3) (hM _ _ (hM2 _ _ (mS_P (V := vPt n (c2 107 8)) hn2 (Or.inl ⟨Or.inl q, h7⟩) h72 (fun t p Z hv => ?_) (fun b0 P x pv hMx hR ht hKx => hX b0 P x (c1 107 8) pv hMx hR rfl (ht.1 h7).1 (ht.1 h7).2 hKx)))))
      rw [q]
      exact pr_put hv
    · have hn2 := hn1.of b2
      have q10 : c2 97 n.toNatClampNeg = 10 := by
        rw [b2.2.1 97 (by omega) (by omega), e97] at q ⊢
        rcases hq with z | z
        · exact absurd z q
        · exact z
      refine xd_seek h20 a2 he.1 (fun r c' a3 b3 hX => hp _ _ a3 ((b.tr b2).tr b3) (hM _ _ (hM2 _ _ (mS_P (V := vSk n (c2 107 8)) hn2 (Or.inl ⟨Or.inr q10, h7⟩) h72 (fun t p Z hv => ?_) (fun b0 P x pv hMx hR ht hKx => hX b0 P x (c1 107 8) pv hMx hR rfl (ht.1 h7).1 (ht.1 h7).2 hKx)))))
      rw [q10]
      exact pr_seek hv
theorem kx_item (hK : kS b0 (e + 1) lim K) (hd : p2.toInt = e + 1) (he : 0 ≤ e ∧ e ≤ 59) (hl : lim ≤ e + 2) (hw : io_WI b0 (e + 1) c) (hn : io_nd c n) (hq : c 97 n.toNatClampNeg = 8) (ha : 0 ≤ (c 98 n.toNatClampNeg).toInt ∧ (c 98 n.toNatClampNeg).toInt < n.toNatClampNeg) (hb : 0 ≤ (c 99 n.toNatClampNeg).toInt ∧ (c 99 n.toNatClampNeg).toInt < n.toNatClampNeg) (hp : ∀ r c', io_WI b0 e c' → io_Fr c c' → nS b0 e c n r c' → post r c') : wp_X8_workItem K c n p2 post := by
  refine ⟨hn.in hw.2.1, kx_list1 hK hd he hl hw hn (Or.inl hq) ha (fun c1 a b hX => ⟨fun _ => hp _ _ a b hX, fun i z => by cases z⟩) (fun c1 a b h7 h20 hM => ⟨fun z => (by cases z), fun i z => ?_⟩)⟩
  cases z
  have hn1 := hn.of b
  have z0 := l_0
  have e97 : c1 97 = c 97 := b.2.1 97 (by omega) (by omega)
  have e99 : c1 99 = c 99 := b.2.1 99 (by omega) (by omega)
  refine ⟨hn1.in a.2.1, kx_num2 hK hd he hl a hn1 (Or.inr (Or.inl ⟨by rw [e97]; exact hq, h7⟩)) (by rw [e99]; exact hb) (fun c2 a2 b2 hX => ⟨fun _ => hp _ _ a2 (b.tr b2) (hM _ _ hX), fun z => absurd rfl z⟩) (fun c2 a2 b2 h72 hM2 => ⟨fun z => absurd z (by decide), fun _ => ?_⟩)⟩
  have hn2 := hn1.of b2
  have q8 : c2 97 n.toNatClampNeg = 8 := by rw [b2.2.1 97 (by omega) (by omega), e97]; exact hq
  have pr : ∀ (t : io_M) (p : Int32) (Z : io_M → Prop), wp_X10_list t n p (c2 107 8) Z → wp_X10_pair t n (c2 97 n.toNatClampNeg) p (c2 107 8) Z := fun t p Z hv => by rw [q8]; exact pr_list hv
  refine ⟨fun q => ?_, fun q => ?_⟩
  · exact xd_item h20 a2 he.1 hn2 (by rw [q8]; decide) (by have := pz_le.mp q; omega) (fun r c' a3 b3 hX => hp _ _ a3 ((b.tr b2).tr b3) (hM _ _ (hM2 _ _ (mS_P (V := fun x l pv => wp_X10_list x n l (c2 107 8) pv) hn2 (Or.inr ⟨q8, h7⟩) h72 pr (fun b0 P x pv hMx hR ht hKx => hX b0 P x (c1 107 8) pv hMx hR rfl (ht.2 h7).1 (ht.2 h7).2 hKx)))))
  · exact xa_fail (a2.le (by omega)) (fun a3 b3 => hp _ _ a3 ((b.tr b2).tr b3) (hM _ _ (hM2 _ _ (mS_P (V := fun x l pv => wp_X10_list x n l (c2 107 8) pv) hn2 (Or.inr ⟨q8, h7⟩) h72 pr (fun b0 P x pv hMx hR ht hKx => ⟨fun z => absurd z q, fun _ => en_fail hMx (by omega) hR hKx⟩)))))
theorem kx_length (hK : kS b0 (e + 1) lim K) (hd : p2.toInt = e + 1) (he : 0 ≤ e ∧ e ≤ 59) (hl : lim ≤ e + 2) (hw : io_WI b0 (e + 1) c) (hn : io_nd c n) (hq : c 97 n.toNatClampNeg = 9) (ha : 0 ≤ (c 98 n.toNatClampNeg).toInt ∧ (c 98 n.toNatClampNeg).toInt < n.toNatClampNeg) (hp : ∀ r c', io_WI b0 e c' → io_Fr c c' → nS b0 e c n r c' → post r c') : wp_X8_workLength K c n p2 post := by
  refine ⟨hn.in hw.2.1, kx_list1 hK hd he hl hw hn (Or.inr hq) ha (fun c1 a b hX => ⟨fun _ => hp _ _ a b hX, fun i z => by cases z⟩) (fun c1 a b h7 h20 hM => ⟨fun z => (by cases z), fun i z => ?_⟩)⟩
  cases z
  have hn1 := hn.of b
  have q9 : c1 97 n.toNatClampNeg = 9 := by rw [b.2.1 97 (by omega) (by omega)]; exact hq
  exact xd_length h20 a he.1 hn1 q9 (fun r c' a2 b2 hX => hp _ _ a2 (b.tr b2) (hM _ _ (mS_L hn1 q9 h7 hX)))
theorem kx_then (hK : kS b0 (e + 1) lim K) (hd : p2.toInt = e + 1) (he : 0 ≤ e ∧ e ≤ 59) (hl : lim ≤ e + 2) (hw : io_WI b0 (e + 1) c) (hn : io_nd c n) (hq : c 97 n.toNatClampNeg = 19) (ha : 0 ≤ (c 98 n.toNatClampNeg).toInt ∧ (c 98 n.toNatClampNeg).toInt < n.toNatClampNeg) (hb : 0 ≤ (c 99 n.toNatClampNeg).toInt ∧ (c 99 n.toNatClampNeg).toInt < n.toNatClampNeg) (hp : ∀ r c', io_WI b0 e c' → io_Fr c c' → nS b0 e c n r c' → post r c') : K c (c 98 n.toNatClampNeg) (p2 + 1) (fun r52 s53 => ((r52 = 0 → post 0 s53) ∧ (¬ (r52 = 0) → (wp_X7_second s53 n (fun r56 s57 => (K s57 r56 (p2 + 1) (fun r58 s59 => ((r58 = 0 → post 0 s59) ∧ (¬ (r58 = 0) → post 1 s59))))))))) := by
  refine kx_call hK hd he hl hw (nd_lt hn ha) (fun r1 c1 a b hX => ⟨fun h0 => hp _ _ (a.le (by omega)) b (nS_bad hn (by rw [hq]; decide) ha (by rw [h0] at hX; exact hX)), fun h1 => ⟨(hn.of b).in a.2.1, ?_⟩⟩)
  have hn1 := hn.of b
  have e97 : c1 97 = c 97 := b.2.1 97 (by omega) (by omega)
  have e99 : c1 99 = c 99 := b.2.1 99 (by omega) (by omega)
  rw [← e99] at hb
  have good : ∀ r c', mS b0 e c1 n F1 r c' → nS b0 e c n r c' := fun r c' hM => nS_good hn (by rw [hq]; decide) ha (hX.one h1) hM
  exact kx_call hK hd he hl a (nd_lt hn1 hb) (fun r2 c2 a2 b2 hX2 => ⟨fun h0 => hp _ _ (a2.le (by omega)) (b.tr b2) (good _ _ (mS_q hn1 (Or.inl ⟨by rw [e97]; exact hq, rfl⟩) hb (by rw [h0] at hX2; exact hX2))), fun h2 => hp _ _ (a2.le (by omega)) (b.tr b2) (good _ _ (mS_q hn1 (Or.inl ⟨by rw [e97]; exact hq, rfl⟩) hb (hX2.one h2)))⟩)
end EX
