section ES
variable {K : io_M → Int32 → Int32 → (Int32 → io_M → Prop) → Prop} {b0 e d lim : Int} {P Q k : Nat} {m : Int} {c c' c1 c2 x x0 x' t : io_M} {n a r r1 T v s w k0 p1 p2 p3 q1 y : Int32} {pv Z : io_M → Prop} {post : Int32 → io_M → Prop}
theorem kx_call (hK : kS b0 (e + 1) lim K) (hd : p2.toInt = e + 1) (he : 0 ≤ e ∧ e ≤ 59) (hl : lim ≤ e + 2) (hw : io_WI b0 (e + 1) c) (hn : io_nd c q1) (hp : ∀ r c', io_WI b0 (e + 1) c' → io_Fr c c' → cS b0 (e + 1) c q1 r c' → post r c') : K c q1 (p2 + 1) post := by
  have h1 : (p2 + 1).toInt = e + 1 + 1 := by rw [pz_1 (by omega), hd]
  exact hK c q1 (p2 + 1) post h1 (by omega) (by omega) hw hn hp
theorem r_1 (h : r = 0 ∨ r = 1) (hn : ¬ r = 0) : r = 1 := by
  rcases h with q | q
  · exact absurd q hn
  · exact q
/-- what a handle's node does with it -/
theorem gh_1 (hT : vp_in T 64) (hq : 4 ≤ w.toInt ∧ w.toInt ≤ 14) (h5 : ¬ w = 5) (h8 : ¬ w = 8) (h9 : ¬ w = 9) (h10 : ¬ w = 10) (hs : t 111 46 = 1) (h4 : w = 4 → wp_X10_close t n (t 111 47) Z) (ho : ¬ w = 4 → vO n w t (t 111 47) Z) : wp_X10_goHandles t T n w 1 Z :=
  ⟨fun z => absurd z h5, fun _ => ⟨fun z => absurd z h8, fun _ => ⟨fun z => absurd z h10, fun _ => ⟨fun z => absurd z (by decide), fun _ => ⟨fun _ => ⟨fun _ => ⟨fun _ => ⟨fun z => absurd z h9, fun _ => ⟨fun _ => ⟨fun z => absurd z (by decide), fun _ => ⟨h4, ho⟩⟩, fun z => absurd hs z⟩⟩, fun z => absurd rfl z⟩, fun z => absurd rfl z⟩, fun z => absurd rfl z⟩⟩⟩⟩⟩
theorem mS_H (hn : io_nd c n) (hq : c 97 n.toNatClampNeg = 6 ∨ c 97 n.toNatClampNeg = 7 ∨ c 97 n.toNatClampNeg = 11 ∨ c 97 n.toNatClampNeg = 12 ∨ c 97 n.toNatClampNeg = 13 ∨ c 97 n.toNatClampNeg = 14) (h7 : c 107 7 = 1) (hS : hS c (c 107 8).toNatClampNeg r c' (vO n (c 97 n.toNatClampNeg))) : mS b0 e c n F1 r c' := by
  intro P x0 x pv hP hF hR hO ho hF1 hK
  have g := hO.g0
  obtain ⟨s97, s98, s99, s100⟩ := nd_s hR hn
  have hq4 : 4 ≤ (c 97 n.toNatClampNeg).toInt ∧ (c 97 n.toNatClampNeg).toInt ≤ 14 := by rcases hq with q | q | q | q | q | q <;> rw [q] <;> decide
  refine lo_go hF g.1 (fun T k hPT hT hG => ?_)
  refine go_H hPT hT hG.in (by rw [← s97]; exact hq4) (fun t et => ?_)
  have hG' : rG b0 P n x0 600 k t := by rw [et]; exact hG.up (by omega)
  have r : ∀ k, k ≠ 141 → t k = x k := fun k q => by rw [et, pu_ne q]
  have hg' : t 111 48 = 0 := by rw [r 111 (by decide)]; exact g.1
  have tt := (ho.tt g.1).1 (by rw [← g.2.1]; exact h7)
  rw [hF1.1, ← s97]
  refine gh_1 hT hq4 ?_ ?_ ?_ ?_ (by rw [r 111 (by decide), ← g.2.1]; exact h7) (fun z => ?_) (fun _ => ?_)
  · rcases hq with q | q | q | q | q | q <;> rw [q] <;> decide
  · rcases hq with q | q | q | q | q | q <;> rw [q] <;> decide
  · rcases hq with q | q | q | q | q | q <;> rw [q] <;> decide
  · rcases hq with q | q | q | q | q | q <;> rw [q] <;> decide
  · rw [z] at hq; exact absurd hq (by decide)
  · rw [r 111 (by decide)]
    exact hS b0 P t (x 111 47) _ (hG'.mid hg') (by rw [et]; exact hR.fm g.1 (by omega)) (by rw [g.2.2.1]) tt.1 (by rw [r 111 (by decide)]; exact tt.2) (lo_end hK hG')
theorem mS_C (hn : io_nd c n) (hq : c 97 n.toNatClampNeg = 4) (h7 : c 107 7 = 1) (hS : hS c (c 107 8).toNatClampNeg r c' (fun x p pv => wp_X10_close x n p pv)) : mS b0 e c n F1 r c' := by
  intro P x0 x pv hP hF hR hO ho hF1 hK
  have g := hO.g0
  obtain ⟨s97, s98, s99, s100⟩ := nd_s hR hn
  refine lo_go hF g.1 (fun T k hPT hT hG => ?_)
  refine go_H hPT hT hG.in (by rw [← s97, hq]; decide) (fun t et => ?_)
  have hG' : rG b0 P n x0 600 k t := by rw [et]; exact hG.up (by omega)
  have r : ∀ k, k ≠ 141 → t k = x k := fun k q => by rw [et, pu_ne q]
  have hg' : t 111 48 = 0 := by rw [r 111 (by decide)]; exact g.1
  have tt := (ho.tt g.1).1 (by rw [← g.2.1]; exact h7)
  rw [hF1.1, ← s97, hq]
  refine gh_1 hT (by decide) (by decide) (by decide) (by decide) (by decide) (by rw [r 111 (by decide), ← g.2.1]; exact h7) (fun _ => ?_) (fun z => absurd rfl z)
  rw [r 111 (by decide)]
  exact hS b0 P t (x 111 47) _ (hG'.mid hg') (by rw [et]; exact hR.fm g.1 (by omega)) (by rw [g.2.2.1]) tt.1 (by rw [r 111 (by decide)]; exact tt.2) (lo_end hK hG')
theorem mS_L (hn : io_nd c n) (hq : c 97 n.toNatClampNeg = 9) (h7 : c 107 7 = 2) (hS : tS c (c 107 8).toNatClampNeg r c' (fun x l pv => wp_X10_list x n l 1000 pv)) : mS b0 e c n F1 r c' := by
  intro P x0 x pv hP hF hR hO ho hF1 hK
  have g := hO.g0
  obtain ⟨s97, s98, s99, s100⟩ := nd_s hR hn
  refine lo_go hF g.1 (fun T k hPT hT hG => ?_)
  refine go_H hPT hT hG.in (by rw [← s97, hq]; decide) (fun t et => ?_)
  have hG' : rG b0 P n x0 600 k t := by rw [et]; exact hG.up (by omega)
  have r : ∀ k, k ≠ 141 → t k = x k := fun k q => by rw [et, pu_ne q]
  have hg' : t 111 48 = 0 := by rw [r 111 (by decide)]; exact g.1
  have tt := (ho.tt g.1).2 (by rw [← g.2.1]; exact h7)
  rw [hF1.1, ← s97, hq]
  refine ⟨fun z => absurd z (by decide), fun _ => ⟨fun z => absurd z (by decide), fun _ => ⟨fun z => absurd z (by decide), fun _ => ⟨fun z => absurd z (by decide), fun _ => ⟨fun _ => ⟨fun _ => ⟨fun _ => ⟨fun _ => ⟨fun _ => ⟨fun z => absurd z (by decide), fun _ => ?_⟩, fun z => absurd (by rw [r 111 (by decide), ← g.2.1]; exact h7) z⟩, fun z => absurd rfl z⟩, fun z => absurd rfl z⟩, fun z => absurd rfl z⟩, fun z => absurd rfl z⟩⟩⟩⟩⟩
  rw [r 111 (by decide)]
  exact hS b0 P t (x 111 47) _ (hG'.mid hg') (by rw [et]; exact hR.fm g.1 (by omega)) (by rw [g.2.2.1]) tt.1 (by rw [r 111 (by decide)]; exact tt.2) (lo_end hK hG')
/-- two parts at a handle or a list -/
theorem mS_P {V : io_M → Int32 → (io_M → Prop) → Prop} (hn : io_nd c n) (hq : (c 97 n.toNatClampNeg = 5 ∨ c 97 n.toNatClampNeg = 10) ∧ s = 1 ∨ c 97 n.toNatClampNeg = 8 ∧ s = 2) (h7 : c 107 7 = 0) (hV : ∀ (t : io_M) (p : Int32) (Z : io_M → Prop), V t p Z → wp_X10_pair t n (c 97 n.toNatClampNeg) p (c 107 8) Z) (hS : ∀ (b0 : Int) (P : Nat) (x : io_M) (pv : io_M → Prop), rM b0 P 41 x x → oR c x → tv (x 111 16) (x 111 28) s v → (∀ x', rP b0 P x x' → oR c' x' → oO r c' x' → pv x') → V x v pv) : mS b0 e c n (F2 v s) r c' := by
  intro P x0 x pv hP hF hR hO ho hF1 hK
  have g := hO.g0
  obtain ⟨s97, s98, s99, s100⟩ := nd_s hR hn
  have h141 := hF1.1
  have n0 : ¬ x 141 P = 0 := by rw [h141]; decide
  have n1 : ¬ x 141 P = 1 := by rw [h141]; decide
  refine lo_go hF g.1 (fun T k hPT hT hG => ?_)
  refine go_H hPT hT hG.in (by rw [← s97]; rcases hq with ⟨q | q, _⟩ | ⟨q, _⟩ <;> rw [q] <;> decide) (fun t et => ?_)
  have hG' : rG b0 P n x0 600 k t := by rw [et]; exact hG.up (by omega)
  have r : ∀ k, k ≠ 141 → t k = x k := fun k q => by rw [et, pu_ne q]
  have hg' : t 111 48 = 0 := by rw [r 111 (by decide)]; exact g.1
  have k17 : wj_X10_goHandles_17 t T n (x 118 n.toNatClampNeg) (x 141 P) (fun s => wl_X10_work_0 k s pv) := by
    refine ⟨fun z => absurd z n0, fun _ => ⟨fun z => absurd z n1, fun _ => ⟨fun z => absurd z (by decide), fun _ => ⟨fun _ => ⟨fun z => absurd z (by decide), fun _ => ⟨hT, ?_⟩⟩, fun z => absurd (by rw [r 111 (by decide), ← g.2.1]; exact h7) z⟩⟩⟩⟩
    rw [hPT, r 142 (by decide), hF1.2.1, r 111 (by decide), ← g.2.2.1, ← s97]
    exact hV t v _ (hS b0 P t _ (hG'.mid hg') (by rw [et]; exact hR.fm g.1 (by omega)) (by rw [r 111 (by decide)]; exact hF1.2.2) (lo_end hK hG'))
  refine ⟨fun _ => k17, fun z => ⟨fun _ => k17, fun z2 => ⟨fun _ => k17, fun z3 => ?_⟩⟩⟩
  rw [← s97] at z z2 z3
  rcases hq with ⟨q | q, _⟩ | ⟨q, _⟩
  · exact absurd q z
  · exact absurd q z3
  · exact absurd q z2
/-- two numbers -/
theorem mS_2n (hn : io_nd c n) (hq : c 97 n.toNatClampNeg = 21 ∨ c 97 n.toNatClampNeg = 22) (h7 : c 107 7 = 0) (hv : (c 97 n.toNatClampNeg = 22 ∧ y = v + c 107 8) ∨ (c 97 n.toNatClampNeg = 21 ∧ ((c 107 8 ≤ v ∧ y = 0) ∨ (¬ c 107 8 ≤ v ∧ y = 1)))) : mS b0 e c n (F2 v s) 1 (gv2 c 0 y) := by
  intro P x0 x pv hP hF hR hO ho hF1 hK
  have g := hO.g0
  obtain ⟨s97, s98, s99, s100⟩ := nd_s hR hn
  have h141 := hF1.1
  have n0 : ¬ x 141 P = 0 := by rw [h141]; decide
  have n1 : ¬ x 141 P = 1 := by rw [h141]; decide
  refine lo_go hF g.1 (fun T k hPT hT hG => ?_)
  refine go_P hPT hT hG.in (by rw [← s97]; rcases hq with q | q <;> rw [q] <;> decide) (fun t et => ?_)
  have hG' : rG b0 P n x0 600 k t := by rw [et]; exact hG.up (by omega)
  have r : ∀ k, k ≠ 141 → t k = x k := fun k q => by rw [et, pu_ne q]
  have hg' : t 111 48 = 0 := by rw [r 111 (by decide)]; exact g.1
  have fin : wp_X10_gives t 0 y (fun s => wl_X10_work_0 k s pv) := en_give (hG'.mid hg') (by omega) (by rw [et]; exact hR.fm g.1 (by omega)) tv_0 (Or.inl rfl) (lo_end hK hG')
  rw [← s97]
  refine ⟨fun z => absurd z n0, fun _ => ⟨fun z => ?_, fun _ => ⟨fun z => ?_, fun _ => ⟨fun z => ?_, fun _ => ⟨fun _ => ⟨fun z => absurd z (by decide), fun _ => ⟨fun z => absurd z n1, fun _ => ?_⟩⟩, fun z => absurd (by rw [r 111 (by decide), ← g.2.1]; exact h7) z⟩⟩⟩⟩⟩
  · rw [z] at hq; exact absurd hq (by decide)
  · rw [z] at hq; exact absurd hq (by decide)
  · rw [z] at hq; exact absurd hq (by decide)
  · rw [hPT, r 142 (by decide), hF1.2.1, r 111 (by decide), ← g.2.2.1]
    rcases hv with ⟨q, ey⟩ | ⟨q, ey⟩
    · rw [ey] at fin
      exact ⟨fun _ => ⟨hT, fin⟩, fun z => absurd q z⟩
    · rw [q]
      refine ⟨fun z => absurd z (by decide), fun _ => ⟨hT, fun z => ?_, fun z => ?_⟩⟩
      · rcases ey with u | u
        · rw [u.2] at fin; exact fin
        · exact absurd z u.1
      · rcases ey with u | u
        · exact absurd u.1 z
        · rw [u.2] at fin; exact fin
theorem mS_print (hb : b0 ≤ 1000000) (hn : io_nd c n) (hq : c 97 n.toNatClampNeg = 17) (h7 : c 107 7 = 0) (hS : pS c r c' (vPr n (c 107 8))) : mS b0 e c n F1 r c' := by
  intro P x0 x pv hP hF hR hO ho hF1 hK
  have g := hO.g0
  obtain ⟨s97, s98, s99, s100⟩ := nd_s hR hn
  have n0 : ¬ x 141 P = 0 := by rw [hF1.1]; decide
  refine lo_go hF g.1 (fun T k hPT hT hG => ?_)
  refine go_T hPT hT hG.in (Or.inl (by rw [← s97]; exact hq)) (fun t et => ?_)
  have hG' : rG b0 P n x0 600 k t := by rw [et]; exact hG.up (by omega)
  have r : ∀ k, k ≠ 141 → t k = x k := fun k q => by rw [et, pu_ne q]
  have hg' : t 111 48 = 0 := by rw [r 111 (by decide)]; exact g.1
  rw [← s97, hq]
  have h := hS b0 P t (fun s => wl_X10_work_0 k s pv) hb (hG'.mid hg') (by have := hG'.1.2.2.2.2.2.2.2.2; omega) (by rw [et]; exact hR.fm g.1 (by omega)) (lo_end hK hG')
  refine ⟨fun z => absurd z (by decide), fun _ => ⟨fun z => absurd z n0, fun _ => ⟨fun _ => ⟨fun z => absurd z (by decide), fun _ => ?_⟩, fun z => absurd (by rw [r 111 (by decide), ← g.2.1]; exact h7) z⟩⟩⟩
  unfold vPr at h
  have e47 : t 111 47 = c 107 8 := by rw [r 111 (by decide), g.2.2.1]
  rw [e47]
  exact h
theorem mS_exit (hn : io_nd c n) (hq : c 97 n.toNatClampNeg = 25) (h7 : c 107 7 = 0) : mS b0 e c n F1 0 (io_up c 107 7 4) := by
  intro P x0 x pv hP hF hR hO ho hF1 hK
  have g := hO.g0
  obtain ⟨s97, s98, s99, s100⟩ := nd_s hR hn
  have n0 : ¬ x 141 P = 0 := by rw [hF1.1]; decide
  refine lo_go hF g.1 (fun T k hPT hT hG => ?_)
  refine go_E hPT hT hG.in (by rw [← s97, hq]; decide) (fun t et => ?_)
  have hG' : rG b0 P n x0 600 k t := by rw [et]; exact hG.up (by omega)
  have r : ∀ k, k ≠ 141 → t k = x k := fun k q => by rw [et, pu_ne q]
  have hR' : oR c t := by rw [et]; exact hR.fm g.1 (by omega)
  have hg' : t 111 48 = 0 := by rw [r 111 (by decide)]; exact g.1
  rw [← s97, hq]
  refine ⟨fun z => absurd z (by decide), fun _ => ⟨fun z => absurd z n0, fun _ => ⟨fun _ => ⟨fun _ => ⟨fun z => absurd z (by decide), fun _ u1 f1 u2 f2 u3 f3 u4 f4 => ?_⟩, fun z => absurd (by rw [r 111 (by decide), ← g.2.1]; exact h7) z⟩, fun z => absurd rfl z⟩⟩⟩
  have e1 : u1 111 47 = t 111 47 := by rw [f1, pu_s (by decide)]
  rw [e1] at f2
  have ex : u3 = io_up (io_up (io_up t 111 48 2) 111 49 (t 111 47)) 111 50 (-1) := by rw [f3, f2, f1]
  have hs : ∀ j, j ≠ 48 → j ≠ 49 → j ≠ 50 → u3 111 j = t 111 j := fun j a b d => by rw [ex, pu_s d, pu_s b, pu_s a]
  have hk : ∀ k, k ≠ 111 → u3 k = t k := fun k a => by rw [ex, pu_ne a, pu_ne a, pu_ne a]
  have e48 : u3 111 48 = 2 := by rw [ex, pu_s (by decide), pu_s (by decide), pu_self]
  have e49 : u3 111 49 = t 111 47 := by rw [ex, pu_s (by decide), pu_self]
  have hG3 : rG b0 P n x0 600 k u3 := by
    obtain ⟨hS, h140, hMo, hFr, hd, hk2, hn0, hn1⟩ := hG'
    obtain ⟨hI, hC, hN2, hQ, hB⟩ := hS
    have hmo : rMo t u3 := ⟨fun k q => hk k (by omega), hs 9 (by decide) (by decide) (by decide), by rw [hs 16 (by decide) (by decide) (by decide)]; exact Int.le_refl _, by rw [hs 28 (by decide) (by decide) (by decide)]; exact Int.le_refl _, by rw [hs 35 (by decide) (by decide) (by decide)]; exact Int.le_refl _⟩
    refine ⟨⟨rI_cg hI (fun k q => hk k (by omega)) (hs 16 (by decide) (by decide) (by decide)) (hs 28 (by decide) (by decide) (by decide)), ?_, hN2.of hmo, by rw [hs 38 (by decide) (by decide) (by decide)]; exact hQ, ?_⟩, by rw [hk 140 (by decide)]; exact h140, hMo.tr hmo, hFr.tr (fun k j q _ => by rw [hk k (by omega)]), by rw [hs 35 (by decide) (by decide) (by decide)]; exact hd, by rw [hs 35 (by decide) (by decide) (by decide)]; exact hk2, hn0, by rw [hs 9 (by decide) (by decide) (by decide)]; exact hn1⟩
    · unfold rC; rw [hs 4 (by decide) (by decide) (by decide), hs 5 (by decide) (by decide) (by decide)]; exact hC
    · unfold rB; rw [hs 35 (by decide) (by decide) (by decide), hs 33 (by decide) (by decide) (by decide), hs 7 (by decide) (by decide) (by decide)]; exact hB
  refine lo_pop hK hG3 ?_ (Or.inr (Or.inr (Or.inl ⟨rfl, e48, pu_self, ?_⟩))) (Or.inr (Or.inr e48)) u4 f4
  · exact hR'.fr (fun k a b => pu_ne b) (by rw [pu_same (by decide)]) (fun k a b => hk k (by omega)) (fun j a => hs j (by omega) (by omega) (by omega)) (Or.inr (hR'.v (by rw [hg']; decide)))
  · rw [pu_same (by decide), e49, r 111 (by decide)]; exact g.2.2.1
/-- one more part, and what it comes to is the node's -/
theorem st_q {st : Int32} (h : fF b0 P n x0 x) (hg : x 111 48 = 0) (hR : oR c x) (hgo : ∀ (T : Int32) (k : Nat) (t : io_M), T.toNatClampNeg = P → vp_in T 64 → vp_in n 60 → t = io_up x 141 P (x 141 P + 1) → wp_X10_begin t a (fun s => wl_X10_work_0 k s pv) → wp_X10_go x T n (fun s => wl_X10_work_0 k s pv)) (hst : x 141 P + 1 = st) (hS : cS b0 e c a r c') (he : e = P + 1) (ha : 0 ≤ a.toInt ∧ a.toInt < n.toInt) (hK : ∀ x', rQ b0 P x0 x' → oR c' x' → oO r c' x' → rLo pv x') (hpop : ∀ x', fF b0 P n x0 x' → oR c' x' → oO r c' x' → rOut x' → x' 141 P = st → rMo x x' → rLo pv x') : rLo pv x := by
  refine lo_go h hg (fun T k hPT hT hG => hgo T k _ hPT hT hG.in rfl ?_)
  have hG' : rG b0 P n x0 600 k (io_up x 141 P (x 141 P + 1)) := hG.up (by omega)
  refine lo_call hG' h.2.2.2.2.2.2 (by rw [pu_ne (by decide)]; exact hg) (hR.fm hg (by omega)) hS he ha (fun x' q1 q2 q3 _ => hK x' q1 q2 q3) (fun x' q1 q2 q3 q4 q5 q6 q7 => hpop x' q1 q2 q3 q4 (by rw [q5 141 (by omega), pu_self]; exact hst) ((rMo.fm (by omega)).tr q6))
end ES
