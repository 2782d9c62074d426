section RJ
variable {b0 d : Int} {P Q k : Nat} {m : Int} {σ s t : io_M} {p1 p2 p3 p4 v n x c T st : Int32} {pv : io_M → Prop} {post : Int32 → io_M → Prop} {e : Nat}
theorem l_28 : (28 : Int32).toInt = 28 := by decide
theorem sr_go (hb : b0 ≤ 1000000) (hc : rCtx b0 P n pv σ d) (h : rG b0 P n σ d k s) (hg : s 111 48 = 0) (ho : ¬ s 141 P = 0 → tv (s 111 16) (s 111 28) (s 111 46) (s 111 47)) (hf : fcs P n s) (hP : T.toNatClampNeg = P) (hT : vp_in T 64) : wp_X10_go s T n (fun s => wl_X10_work_0 k s pv) := by
  unfold wp_X10_go
  rw [hP]
  refine ⟨hT, hT, fun t e => ?_⟩
  have h2 : rG b0 P n σ d k t := by rw [e]; exact h.up (by omega)
  have r : ∀ k, k ≠ 141 → t k = s k := fun k q => by rw [e, pu_ne q]
  have hg2 : t 111 48 = 0 := by rw [r 111 (by decide)]; exact hg
  have ho2 : ¬ s 141 P = 0 → tv (t 111 16) (t 111 28) (t 111 46) (t 111 47) := by rw [r 111 (by decide)]; exact ho
  have hst : t 141 P = s 141 P + 1 := by rw [e, pu_self]
  have hin := h2.in
  have hok := h2.ok
  have hL := sr_leaf hc h2
  have hM := h2.mid hg2
  have hfc : fc (t 118 n.toNatClampNeg) (s 141 P) (t 142 P) (t 143 P) (t 144 P) (t 147 P) (t 148 P) (t 111 16) (t 111 28) := by
    rw [r 118 (by decide), r 142 (by decide), r 143 (by decide), r 144 (by decide), r 147 (by decide), r 148 (by decide), r 111 (by decide)]
    exact hf
  have z14 := l_14
  have z18 := l_18
  have z23 := l_23
  have z0 := l_0
  have z1 := l_1
  have z2 := l_2
  have z3 := l_3
  refine ⟨hin, fun _ => ⟨hin, sr_gives hM (by omega) tv_0 hL⟩, fun n0 => ⟨fun c1 => ?_, fun n1 => ⟨fun c2 => ⟨fun e0 => ⟨hin, ?_⟩, fun n0s => ⟨hin, ?_, fun s28 e28 => ⟨hin, ?_, fun s30 e30 s32 e32 => ?_⟩⟩⟩, fun n2 => ⟨fun c3 => ?_, fun n3 => ⟨fun c14 => ⟨fun c15 => ?_, fun n15 => ⟨fun c16 => ?_, fun n16 => ⟨fun c18 => ⟨fun c23 => ?_, fun n23 => ?_⟩, fun n18 => ?_⟩⟩⟩, fun n14 => ?_⟩⟩⟩⟩⟩
  · have h6 := hok.2.2.1
    rw [c1] at h6
    have h6 := nd_b h6 6 (by decide) (by decide)
    have hi6 := pz_in (n := 6).mpr h6
    have hcl := pz_cl (t 119 n.toNatClampNeg)
    refine ⟨hin, hi6, hin, hi6, sr_gives hM (by omega) (h2.1.1.2.2.2 _ ?_) hL⟩
    omega
  · have hb2 := hok.2.2.2.1
    rw [c2] at hb2
    exact sr_call hc h2 hg2 (fcs_eq 2 c2 (by decide)) (h2.ch hb2 (by decide))
  · have h6 := hok.2.2.1
    rw [c2] at h6
    exact pz_in (n := 6).mpr (nd_b h6 6 (by decide) (by decide))
  · have h6 := hok.2.2.1
    rw [c2] at h6
    rw [e28, pu_ne (by decide)]
    exact pz_in (n := 6).mpr (nd_b h6 6 (by decide) (by decide))
  · have e119 : s28 119 = t 119 := by rw [e28, pu_ne (by decide)]
    have e111 : s28 111 = t 111 := by rw [e28, pu_ne (by decide)]
    have h30 : rG b0 P n σ d k s30 := by
      rw [e30, e119, e111, e28]
      exact h2.var _ _ _ (ho2 n0s)
    refine sr_popO hc h30 (Or.inl ⟨?_, ?_⟩) s32 e32
    · rw [e30, pu_ne (by decide), e111]; exact hg2
    · rw [e30, pu_ne (by decide), e111]; exact ho2 n0s
  · have h8 := hok.2.2.1
    rw [c3] at h8
    exact sr_opens hM hin (nd_b h8 8 (by decide) (by decide)) hL
  · have h8 := hok.2.2.1
    rw [c15] at h8
    exact sr_remove hM hin (nd_b h8 8 (by decide) (by decide)) hL
  · have h8 := hok.2.2.1
    have h9 := hok.2.2.2.1
    rw [c16] at h8 h9
    exact sr_rename hM hin (nd_b h8 8 (by decide) (by decide)) (nd_b h9 8 (by decide) (by decide)) hL
  · refine sr_ends hc h2 hg2 ho2 hP hT hst ?_ hfc
    have h23 := pz_lt.mp c23
    have h28 := hok.2.1
    have : (t 118 n.toNatClampNeg).toInt = 24 ∨ (t 118 n.toNatClampNeg).toInt = 25 ∨ (t 118 n.toNatClampNeg).toInt = 26 ∨ (t 118 n.toNatClampNeg).toInt = 27 ∨ (t 118 n.toNatClampNeg).toInt = 28 := by omega
    rcases this with q | q | q | q | q
    · exact Or.inl (pz_eq.mpr (by rw [q]; decide))
    · exact Or.inr (Or.inl (pz_eq.mpr (by rw [q]; decide)))
    · exact Or.inr (Or.inr (Or.inl (pz_eq.mpr (by rw [q]; decide))))
    · exact Or.inr (Or.inr (Or.inr (Or.inl (pz_eq.mpr (by rw [q]; decide)))))
    · exact Or.inr (Or.inr (Or.inr (Or.inr (pz_eq.mpr (by rw [q]; decide)))))
  · refine sr_plain hc h2 hg2 (fun q => Or.inl ⟨hg2, ho2 q⟩) hP hT ?_
    have h23 := pz_nlt n23
    have h18 := pz_lt.mp c18
    have : (t 118 n.toNatClampNeg).toInt = 19 ∨ (t 118 n.toNatClampNeg).toInt = 20 ∨ (t 118 n.toNatClampNeg).toInt = 21 ∨ (t 118 n.toNatClampNeg).toInt = 22 ∨ (t 118 n.toNatClampNeg).toInt = 23 := by omega
    rcases this with q | q | q | q | q
    · exact Or.inl (pz_eq.mpr (by rw [q]; decide))
    · exact Or.inr (Or.inl (pz_eq.mpr (by rw [q]; decide)))
    · exact Or.inr (Or.inr (Or.inl (pz_eq.mpr (by rw [q]; decide))))
    · exact Or.inr (Or.inr (Or.inr (Or.inl (pz_eq.mpr (by rw [q]; decide)))))
    · exact Or.inr (Or.inr (Or.inr (Or.inr (pz_eq.mpr (by rw [q]; decide)))))
  · refine sr_texts hb hc h2 hg2 ?_
    have h18 := pz_nlt n18
    have h14 := pz_lt.mp c14
    have a15 : ¬ (t 118 n.toNatClampNeg).toInt = 15 := fun q => n15 (pz_eq.mpr (by rw [q]; decide))
    have a16 : ¬ (t 118 n.toNatClampNeg).toInt = 16 := fun q => n16 (pz_eq.mpr (by rw [q]; decide))
    have : (t 118 n.toNatClampNeg).toInt = 17 ∨ (t 118 n.toNatClampNeg).toInt = 18 := by omega
    rcases this with q | q
    · exact Or.inl (pz_eq.mpr (by rw [q]; decide))
    · exact Or.inr (pz_eq.mpr (by rw [q]; decide))
  · have h14 := pz_nlt n14
    have h0 := hok.1
    have a0 : ¬ (t 118 n.toNatClampNeg).toInt = 0 := fun q => n0 (pz_eq.mpr (by omega))
    have a1 : ¬ (t 118 n.toNatClampNeg).toInt = 1 := fun q => n1 (pz_eq.mpr (by omega))
    have a2 : ¬ (t 118 n.toNatClampNeg).toInt = 2 := fun q => n2 (pz_eq.mpr (by omega))
    have a3 : ¬ (t 118 n.toNatClampNeg).toInt = 3 := fun q => n3 (pz_eq.mpr (by omega))
    exact sr_handles hc h2 hg2 ho2 hP hT hst (by omega) ⟨hfc.1, hfc.2.1⟩
theorem sr_unwind (hc : rCtx b0 P n pv σ d) (h : rG b0 P n σ d k s) (ho : s 111 48 = 1 ∨ s 111 48 = 2) (hf : fcs P n s) (hP : T.toNatClampNeg = P) (hT : vp_in T 64) : wp_X10_unwind s T (fun s => wl_X10_work_0 k s pv) := by
  have hin := h.in
  have hok := h.ok
  have h140 := h.2.1
  unfold wp_X10_unwind
  rw [hP, h140]
  have pop : wj_X10_unwind_127 s T n (s 118 n.toNatClampNeg) (s 141 P) (fun s => wl_X10_work_0 k s pv) := ⟨fun _ => sr_popO hc h (Or.inr ho), fun q => absurd rfl q⟩
  have last : (s 118 n.toNatClampNeg = 27 ∧ s 141 P = 1 ∨ s 118 n.toNatClampNeg = 28 ∧ s 141 P = 2) → wj_X10_unwind_123 s T n (s 118 n.toNatClampNeg) (s 141 P) (fun s => wl_X10_work_0 k s pv) := by
    intro hq
    refine ⟨fun q => absurd q (by decide), fun _ => ⟨hT, fun s102 e102 => ⟨hT, fun s104 e104 => ⟨hT, fun s106 e106 s108 e108 => ⟨hT, fun s110 e110 => ?_⟩⟩⟩⟩⟩
    rw [hP] at e102 e104 e106 e110
    have h110 : rG b0 P n σ d k s110 := by
      rw [e110, e108, e106, e104, e102]
      exact ((((h.up (by omega)).up (by omega)).up (by omega)).goes).up (by omega)
    have r : ∀ k, k ≠ 111 → k ≠ 141 → k ≠ 144 → k ≠ 145 → k ≠ 146 → s110 k = s k := fun k a b c d f => by rw [e110, pu_ne b, e108, pu_ne a, e106, pu_ne f, e104, pu_ne d, e102, pu_ne c]
    have hs : ∀ j, j ≠ 48 → s110 111 j = s 111 j := fun j a => by rw [e110, pu_ne (by decide), e108, pu_s a, e106, pu_ne (by decide), e104, pu_ne (by decide), e102, pu_ne (by decide)]
    have g48 : s110 111 48 = 0 := by rw [e110, pu_ne (by decide), e108, pu_self]
    have g144 : s110 144 P = s 111 48 := by rw [e110, pu_ne (by decide), e108, pu_ne (by decide), e106, pu_ne (by decide), e104, pu_ne (by decide), e102, pu_self]
    have g141 : s110 141 P = s 141 P + 1 := by rw [e110, pu_self]
    have e118 := congrFun (r 118 (by decide) (by decide) (by decide) (by decide) (by decide)) n.toNatClampNeg
    have hb := hok.2.2.2.1
    refine ⟨fun c28 => ⟨hT, i56, fun s115 e115 => ⟨hT, i56, fun s117 e117 => ⟨hin, ?_⟩⟩⟩, fun n28 => ⟨hin, ?_⟩⟩
    · rw [hP] at e115 e117
      rw [c28] at hb
      have hq2 : s 141 P = 2 := by
        rcases hq with q | q
        · rw [c28] at q; exact absurd q.1 (by decide)
        · exact q.2
      have g2 := (hf.2.2.2 c28).2.1 hq2
      have e143 : s115 143 P = s 143 P := by rw [e115, pu_ne (by decide), r 143 (by decide) (by decide) (by decide) (by decide) (by decide)]
      have h117 : rG b0 P n σ d k s117 := by
        rw [e117, e143, e115, r 142 (by decide) (by decide) (by decide) (by decide) (by decide)]
        exact h110.var' 5 (s 143 P) (s 142 P) (by rw [hs 16 (by decide), hs 28 (by decide)]; exact g2.2)
      have r2 : ∀ k, k ≠ 122 → k ≠ 123 → s117 k = s110 k := fun k a b => by rw [e117, pu_ne a, e115, pu_ne b]
      refine sr_call hc h117 (by rw [r2 111 (by decide) (by decide)]; exact g48) ?_ (by rw [r2 120 (by decide) (by decide), r 120 (by decide) (by decide) (by decide) (by decide) (by decide)]; exact h.ch hb (by decide))
      unfold fcs
      rw [r2 118 (by decide) (by decide), e118, c28, r2 141 (by decide) (by decide), g141, hq2, r2 144 (by decide) (by decide), g144]
      refine ⟨fun q => absurd q (by decide), fun q => absurd q (by decide), fun q => absurd q (by decide), fun _ => ⟨fun q => ?_, fun q => absurd q (by decide), fun _ _ _ => ?_⟩⟩
      · rcases q with q | q <;> exact absurd q (by decide)
      · rcases ho with q | q
        · exact Or.inl q
        · exact Or.inr (Or.inl q)
    · have hq1 : s 118 n.toNatClampNeg = 27 ∧ s 141 P = 1 := by
        rcases hq with q | q
        · exact q
        · exact absurd q.1 n28
      rw [hq1.1] at hb
      refine sr_call hc h110 g48 ?_ (by rw [r 120 (by decide) (by decide) (by decide) (by decide) (by decide)]; exact h.ch hb (by decide))
      unfold fcs
      rw [e118, hq1.1, g141, hq1.2, g144]
      refine ⟨fun q => absurd q (by decide), fun q => absurd q (by decide), fun _ => ⟨fun q => ?_, fun _ _ => ?_⟩, fun q => absurd q (by decide)⟩
      · rcases q with q | q <;> exact absurd q (by decide)
      · rcases ho with q | q
        · exact Or.inl q
        · exact Or.inr (Or.inl q)
  have k111 : wj_X10_unwind_111 s T n (s 118 n.toNatClampNeg) (s 141 P) (fun s => wl_X10_work_0 k s pv) := ⟨fun c28 => ⟨fun e2 => last (Or.inr ⟨c28, e2⟩), fun _ => pop⟩, fun _ => pop⟩
  have k99 : wj_X10_unwind_99 s T n (s 118 n.toNatClampNeg) (s 141 P) (fun s => wl_X10_work_0 k s pv) := ⟨fun c27 => ⟨fun e1 => last (Or.inl ⟨c27, e1⟩), fun _ => k111⟩, fun _ => k111⟩
  refine ⟨hT, hin, hT, fun c26 => ⟨fun e1 => ⟨fun g1 => ⟨hin, fun _ => ⟨i06, fun s6 e6 => ⟨i06, fun s8 e8 s10 e10 => ⟨hT, fun s12 e12 => ⟨hin, ?_⟩⟩⟩⟩, fun _ => k99⟩, fun _ => k99⟩, fun _ => k99⟩, fun _ => k99⟩
  have e6b : s6 111 = s 111 := by rw [e6, pu_ne (by decide)]
  have h12 : rG b0 P n σ d k s12 := by
    rw [e12, e10, e8, e6b, e6]
    exact ((h.var _ _ _ tv_0).goes).up (by omega)
  have r : ∀ k, k ≠ 111 → k ≠ 141 → k ≠ 122 → k ≠ 123 → s12 k = s k := fun k a b c d => by rw [e12, pu_ne b, e10, pu_ne a, e8, pu_ne d, e6, pu_ne c]
  have hb := hok.2.2.2.1
  rw [c26] at hb
  exact sr_call hc h12 (by rw [e12, pu_ne (by decide), e10, pu_self]) (fcs_eq 26 ((congrFun (r 118 (by decide) (by decide) (by decide) (by decide)) _).trans c26) (by decide)) (by rw [r 120 (by decide) (by decide) (by decide) (by decide)]; exact h.ch hb (by decide))
theorem sr_nodes (hb : b0 ≤ 1000000) : ∀ (M : Nat) (mc : Int), 0 ≤ mc → mc < M → rNC b0 pv mc := by
  intro M
  induction M with
  | zero => intro mc h0 h1; omega
  | succ M ih =>
    intro mc h0 h1 P σ n hS hg h140 hm h141 h144 hPm hn hK
    have hcl : ∀ D : Nat, rCl b0 P n pv σ ((D : Int) - 1) := by
      intro D
      induction D with
      | zero =>
        intro s hS' _ _ _ _ _ hd
        have := hS'.2.2.2.2.1
        omega
      | succ D ihD =>
        intro s hS' e140 hmo hfr hf ho hd k hk0 hfu
        have hc : rCtx b0 P n pv σ ((D : Int) - 1) := ⟨hK, ihD, fun c a b => ih c.toInt a (by omega), by omega⟩
        have h6 := hS'.2.2.2.2.1
        have h38 := hS'.2.2.2.1
        have hfu := hfu (by
          rcases ho with q | q | q
          · rw [q.1]; decide
          · rw [q]; decide
          · rw [q]; decide)
        obtain ⟨k', rfl⟩ : ∃ k', k = k' + 1 := ⟨k - 1, by omega⟩
        have hG : rG b0 P n σ ((D : Int) - 1) k' s := ⟨hS', e140, hmo, hfr, by omega, by omega, by omega, by rw [hmo.2.1]; omega⟩
        have eT : (s 111 38 - 1).toInt = P := by rw [pz_s1 (by omega)]; omega
        have hP : (s 111 38 - 1).toNatClampNeg = P := by rw [pz_cl]; omega
        have hT : vp_in (s 111 38 - 1) 64 := pz_in.mpr ⟨by omega, by rw [eT]; show (P : Int) < 64; omega⟩
        unfold wl_X10_work_0
        refine ⟨fun c => ?_, fun _ => ⟨fun c3 => ?_, fun _ => ⟨fun g0 => ⟨hT, ?_⟩, fun g0 => ?_⟩⟩⟩
        · have := pz_le.mp c
          have := l_0
          omega
        · rcases ho with q | q | q
          · rw [q.1] at c3; exact absurd c3 (by decide)
          · rw [q] at c3; exact absurd c3 (by decide)
          · rw [q] at c3; exact absurd c3 (by decide)
        · rw [hP, e140]
          refine sr_go hb hc hG g0 (fun q => ?_) hf hP hT
          rcases ho with z | z | z
          · exact z.2 q
          · rw [g0] at z; exact absurd z (by decide)
          · rw [g0] at z; exact absurd z (by decide)
        · refine sr_unwind hc hG ?_ hf hP hT
          rcases ho with z | z | z
          · exact absurd z.1 g0
          · exact Or.inl z
          · exact Or.inr z
    have h6 := hS.2.2.2.2.1
    refine hcl 602 σ hS h140 rMo.rf rFr.rf ?_ (Or.inl ⟨hg, fun q => absurd h141 q⟩) (by omega)
    unfold fcs
    rw [h141, h144]
    exact ⟨fun _ q => absurd rfl q, fun _ q => absurd rfl q, fun _ => ⟨fun _ => rfl, fun q => absurd rfl q⟩, fun _ => ⟨fun _ => rfl, fun q => absurd q (by decide), fun q => absurd rfl q⟩⟩
end RJ
