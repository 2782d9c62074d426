section RI
variable {b0 d : Int} {P Q k : Nat} {m : Int} {σ s t : io_M} {p1 p2 p3 p4 v n x c T st : Int32} {pv : io_M → Prop} {post : Int32 → io_M → Prop} {e : Nat}
theorem sr_handles (hc : rCtx b0 P n pv σ d) (h : rG b0 P n σ d k t) (hg : t 111 48 = 0) (ho : ¬ st = 0 → tv (t 111 16) (t 111 28) (t 111 46) (t 111 47)) (hP : T.toNatClampNeg = P) (hT : vp_in T 64) (hst : t 141 P = st + 1) (hq : 4 ≤ (t 118 n.toNatClampNeg).toInt ∧ (t 118 n.toNatClampNeg).toInt ≤ 14) (hf : (∀ q : t 118 n.toNatClampNeg = 5 ∨ t 118 n.toNatClampNeg = 10, ¬ st = 0 → ¬ st = 1 → 0 ≤ (t 142 P).toInt ∧ (t 142 P).toInt < (t 111 16).toInt) ∧ (t 118 n.toNatClampNeg = 8 → ¬ st = 0 → ¬ st = 1 → 0 ≤ (t 142 P).toInt ∧ (t 142 P).toInt < (t 111 28).toInt)) : wp_X10_goHandles t T n (t 118 n.toNatClampNeg) st (fun s => wl_X10_work_0 k s pv) := by
  have hL := sr_leaf hc h
  have hM := h.mid hg
  have hin := h.in
  have hok := h.ok
  have n27 : ¬ t 118 n.toNatClampNeg = 27 := fun q => by rw [q] at hq; exact absurd hq (by decide)
  have n28 : ¬ t 118 n.toNatClampNeg = 28 := fun q => by rw [q] at hq; exact absurd hq (by decide)
  have hb1 : io_b1 (t 118 n.toNatClampNeg).toNatClampNeg = 0 := by
    refine nd_dflt hok.1 hok.2.1 ?_ ?_ ?_ ?_ ?_
    · intro q; rw [q] at hq; exact absurd hq (by decide)
    · intro q; rw [q] at hq; exact absurd hq (by decide)
    · intro q; rw [q] at hq; exact absurd hq (by decide)
    · intro q
      rcases q with q | q | q | q <;> rw [q] at hq <;> exact absurd hq (by decide)
    · intro q; rw [q] at hq; exact absurd hq (by decide)
  have ha := h.ch hok.2.2.1 hb1
  have hno : ∀ s', rP b0 P t s' → ∀ X : Prop, ((0 : Int32) = 0 → wl_X10_work_0 k s' pv) ∧ (¬ ((0 : Int32) = 0) → X) := fun s' q X => ⟨fun _ => hL s' q, fun z => absurd rfl z⟩
  -- the first part is begun
  have first : st = 0 → wp_X10_begin t (t 119 n.toNatClampNeg) (fun s => wl_X10_work_0 k s pv) := by
    intro e0
    rw [e0] at hst
    have hst : t 141 P = 1 := hst
    refine sr_call hc h hg ⟨fun _ _ q => absurd hst q, fun _ _ q => absurd hst q, fun q => absurd q n27, fun q => absurd q n28⟩ ha
  by_cases e0 : st = 0
  · have k17 : wj_X10_goHandles_17 t T n (t 118 n.toNatClampNeg) st (fun s => wl_X10_work_0 k s pv) := ⟨fun e0 => ⟨hin, first e0⟩, fun n0 => absurd e0 n0⟩
    exact ⟨fun _ => k17, fun _ => ⟨fun _ => k17, fun _ => ⟨fun _ => k17, fun _ => ⟨fun e0 => ⟨hin, first e0⟩, fun n0 => absurd e0 n0⟩⟩⟩⟩
  have ho := ho e0
  have k91 : ∀ y : Int32, (y = 0 → ¬ t 118 n.toNatClampNeg = 5 ∧ ¬ t 118 n.toNatClampNeg = 8 ∧ ¬ t 118 n.toNatClampNeg = 10) → (¬ y = 0 → (t 118 n.toNatClampNeg = 5 ∨ t 118 n.toNatClampNeg = 8 ∨ t 118 n.toNatClampNeg = 10) ∧ ¬ st = 0 ∧ ¬ st = 1) → wj_X10_goHandles_91 t T n (t 118 n.toNatClampNeg) y (fun s => wl_X10_work_0 k s pv) := by
    intro y hy0 hy1
    refine ⟨fun _ => ⟨fun c9 => sr_isSort hM (by omega) (fun e2 => ⟨fun q => absurd q (by decide), fun _ => sr_list hM hin (ho.2 e2) hL⟩) (fun s' q => hno s' q _), fun c9 => sr_isSort hM (by omega) (fun e1 => ⟨fun q => absurd q (by decide), fun _ => ⟨fun _ => sr_close hM (ho.1 e1) hL, fun _ => sr_isOpen hM (by omega) (ho.1 e1) (fun hop => ⟨fun q => absurd q (by decide), fun _ => sr_opened hM (ho.1 e1) hop hin (fun q => ?_) hL⟩) (fun s' q => hno s' q _)⟩⟩) (fun s' q => hno s' q _)⟩, fun cy => sr_isSort hM (by omega) (fun e0 => ⟨fun q => absurd q (by decide), fun _ => ⟨hT, ?_⟩⟩) (fun s' q => hno s' q _)⟩
    · have h2 := hok.2.2.2.1
      rw [q] at h2
      exact nd_b h2 10 (by decide) (by decide)
    · obtain ⟨q1, q2, q3⟩ := hy1 cy
      rw [hP]
      refine sr_pair hM hin (fun q => hf.2 q q2 q3) (fun q => hf.1 ?_ q2 q3) hL
      rcases q1 with z | z | z
      · exact Or.inl z
      · exact absurd z q
      · exact Or.inr z
  have k64 : st = 1 → ∀ y : Int32, ((t 118 n.toNatClampNeg = 5 ∨ t 118 n.toNatClampNeg = 10) ∧ y = 1 ∨ (t 118 n.toNatClampNeg = 8 ∧ y = 2)) → wj_X10_goHandles_64 t T n y n (fun s => wl_X10_work_0 k s pv) := by
    intro e1 y hy
    refine sr_isSort hM (by omega) (fun es => ⟨fun q => absurd q (by decide), fun _ => ⟨hT, fun s1 es1 => ⟨hin, ?_⟩⟩⟩) (fun s' q => hno s' q _)
    rw [hP] at es1
    have r : ∀ k, k ≠ 142 → s1 k = t k := fun k q => by rw [es1, pu_ne q]
    have h1 : rG b0 P n σ d k s1 := by rw [es1]; exact h.up (by omega)
    have e118 := congrFun (r 118 (by decide)) n.toNatClampNeg
    have hb := h1.ok.2.2.2.1
    have hb0 : io_b2 (s1 118 n.toNatClampNeg).toNatClampNeg = 0 := by
      rw [e118]
      rcases hy with ⟨q | q, _⟩ | ⟨q, _⟩ <;> rw [q] <;> decide
    refine sr_call hc h1 (by rw [r 111 (by decide)]; exact hg) ?_ (h1.ch hb hb0)
    refine ⟨fun q _ _ => ?_, fun q _ _ => ?_, fun q => absurd (e118.symm.trans q) n27, fun q => absurd (e118.symm.trans q) n28⟩
    · rw [r 111 (by decide), es1, pu_self]
      rcases hy with ⟨_, z⟩ | ⟨z, _⟩
      · exact ho.1 (es.trans z)
      · rw [e118, z] at q
        exact absurd q (by decide)
    · rw [r 111 (by decide), es1, pu_self]
      rcases hy with ⟨z, _⟩ | ⟨_, z⟩
      · rw [e118] at q
        rcases z with z | z <;> rw [q] at z <;> exact absurd z (by decide)
      · exact ho.2 (es.trans z)
  have k17 : (t 118 n.toNatClampNeg = 5 ∨ t 118 n.toNatClampNeg = 8 ∨ t 118 n.toNatClampNeg = 10) → wj_X10_goHandles_17 t T n (t 118 n.toNatClampNeg) st (fun s => wl_X10_work_0 k s pv) := by
    intro hy
    refine ⟨fun e0 => ⟨hin, first e0⟩, fun n0 => ⟨fun e1 => ⟨fun q => absurd q (by decide), fun _ => ⟨fun c8 => k64 e1 2 (Or.inr ⟨c8, rfl⟩), fun c8 => k64 e1 1 (Or.inl ⟨?_, rfl⟩)⟩⟩, fun n1 => k91 1 (fun q => absurd q (by decide)) (fun _ => ⟨hy, n0, n1⟩)⟩⟩
    rcases hy with z | z | z
    · exact Or.inl z
    · exact absurd z c8
    · exact Or.inr z
  refine ⟨fun q => k17 (Or.inl q), fun n5 => ⟨fun q => k17 (Or.inr (Or.inl q)), fun n8 => ⟨fun q => k17 (Or.inr (Or.inr q)), fun n10 => ?_⟩⟩⟩
  have hz : ((0 : Int32) = 0 → ¬ t 118 n.toNatClampNeg = 5 ∧ ¬ t 118 n.toNatClampNeg = 8 ∧ ¬ t 118 n.toNatClampNeg = 10) := fun _ => ⟨n5, n8, n10⟩
  exact ⟨fun e0 => ⟨hin, first e0⟩, fun n0 => ⟨fun e1 => ⟨fun _ => k91 0 hz (fun q => absurd rfl q), fun q => absurd rfl q⟩, fun n1 => k91 0 hz (fun q => absurd rfl q)⟩⟩
theorem sr_goOn {y : Int32} (hc : rCtx b0 P n pv σ d) (h : rG b0 P n σ d k t) (hg : t 111 48 = 0) (hP : T.toNatClampNeg = P) (hT : vp_in T 64) (hx : t 144 P = 1 ∨ t 144 P = 2 ∨ (t 144 P = 0 ∧ tv (t 111 16) (t 111 28) x y)) : wp_X10_goOn t T x y (fun s => wl_X10_work_0 k s pv) := by
  unfold wp_X10_goOn
  rw [hP]
  refine ⟨hT, fun c => sr_gives (h.mid hg) (by omega) ?_ (sr_leaf hc h), fun c => ⟨hT, fun s5 e5 => ⟨hT, fun s7 e7 => ⟨hT, fun s9 e9 s11 e11 => ?_⟩⟩⟩⟩
  · rcases hx with q | q | q
    · rw [c] at q; exact absurd q (by decide)
    · rw [c] at q; exact absurd q (by decide)
    · exact q.2
  · refine sr_pop hc h (Or.inr ?_) (fun k q => by rw [e11, pu_ne q, e9, pu_ne q, e7, pu_ne q, e5, pu_ne q]) (fun j a _ _ b f g => by rw [e11, pu_s a, e9, pu_s g, e7, pu_s f, e5, pu_s b]) (by rw [e11, pu_self, e9, pu_s (by decide), e7, pu_s (by decide), e5, pu_s (by decide)])
    have e48 : s11 111 48 = t 144 P := by rw [e11, pu_s (by decide), e9, pu_s (by decide), e7, pu_s (by decide), e5, pu_self]
    rw [e48]
    rcases hx with q | q | q
    · exact Or.inl q
    · exact Or.inr q
    · exact absurd q.1 c
theorem sr_ends (hc : rCtx b0 P n pv σ d) (h : rG b0 P n σ d k t) (hg : t 111 48 = 0) (ho : ¬ st = 0 → tv (t 111 16) (t 111 28) (t 111 46) (t 111 47)) (hP : T.toNatClampNeg = P) (hT : vp_in T 64) (hst : t 141 P = st + 1) (hq : t 118 n.toNatClampNeg = 24 ∨ t 118 n.toNatClampNeg = 25 ∨ t 118 n.toNatClampNeg = 26 ∨ t 118 n.toNatClampNeg = 27 ∨ t 118 n.toNatClampNeg = 28) (hf : fc (t 118 n.toNatClampNeg) st (t 142 P) (t 143 P) (t 144 P) (t 147 P) (t 148 P) (t 111 16) (t 111 28)) : wp_X10_goEnds t T n (t 118 n.toNatClampNeg) st (fun s => wl_X10_work_0 k s pv) := by
  have hL := sr_leaf hc h
  have hM := h.mid hg
  have hin := h.in
  have hok := h.ok
  have hno : ∀ s', rP b0 P t s' → ∀ X : Prop, ((0 : Int32) = 0 → wl_X10_work_0 k s' pv) ∧ (¬ ((0 : Int32) = 0) → X) := fun s' q X => ⟨fun _ => hL s' q, fun z => absurd rfl z⟩
  have first : ¬ t 118 n.toNatClampNeg = 24 → st = 0 → wp_X10_begin t (t 119 n.toNatClampNeg) (fun s => wl_X10_work_0 k s pv) := by
    intro n24 e0
    rw [e0] at hst
    have hst : t 141 P = 1 := hst
    refine sr_call hc h hg ⟨fun q => ?_, fun q => ?_, fun q => ⟨fun _ => (hf.2.2.1 q).1 (Or.inl e0), fun _ z => absurd hst z⟩, fun q => ⟨fun _ => (hf.2.2.2 q).1 (Or.inl e0), fun z => ?_, fun _ z => absurd hst z⟩⟩ (h.ch hok.2.2.1 ?_)
    · rcases hq with z | z | z | z | z <;> rw [z] at q <;> exact absurd q (by decide)
    · rcases hq with z | z | z | z | z <;> rw [z] at q <;> exact absurd q (by decide)
    · rw [hst] at z; exact absurd z (by decide)
    · rcases hq with z | z | z | z | z
      · exact absurd z n24
      · rw [z]; decide
      · rw [z]; decide
      · rw [z]; decide
      · rw [z]; decide
  by_cases e0 : st = 0
  · exact ⟨fun _ => ⟨hin, sr_fails hM (by omega) hL⟩, fun n24 => ⟨fun e0 => ⟨hin, first n24 e0⟩, fun n0 => absurd e0 n0⟩⟩
  have ho := ho e0
  have hO : rOut t := Or.inl ⟨hg, ho⟩
  refine ⟨fun _ => ⟨hin, sr_fails hM (by omega) hL⟩, fun n24 => ⟨fun e0 => ⟨hin, first n24 e0⟩, fun n0 => ⟨fun c25 => sr_isSort hM (by omega) (fun _ => ⟨fun q => absurd q (by decide), fun _ s1 e1 s2 e2 s3 e3 s4 e4 => ?_⟩) (fun s' q => hno s' q _), fun n25 => ⟨fun _ => sr_popO hc h hO, fun n26 => ⟨fun c27 => ⟨hin, fun e1 => ⟨hT, fun s5 e5 => ⟨hT, fun s7 e7 => ?_⟩⟩, fun n1 => ⟨hT, hT, ?_⟩⟩, fun n27 => ⟨fun e1 => ⟨hT, fun s10 e10 => ⟨hT, fun s12 e12 => ⟨i56, fun s14 e14 => ⟨i56, fun s16 e16 => ⟨hin, ?_⟩⟩⟩⟩⟩, fun n1 => ?_⟩⟩⟩⟩⟩⟩
  · refine sr_pop hc h (Or.inr (Or.inr ?_)) (fun k q => by rw [e4, pu_ne q, e3, pu_ne q, e2, pu_ne q, e1, pu_ne q]) (fun j a _ _ b f g => by rw [e4, pu_s a, e3, pu_s g, e2, pu_s f, e1, pu_s b]) (by rw [e4, pu_self, e3, pu_s (by decide), e2, pu_s (by decide), e1, pu_s (by decide)])
    rw [e4, pu_s (by decide), e3, pu_s (by decide), e2, pu_s (by decide), e1, pu_self]
  · rw [hP] at e5 e7
    have r : ∀ k, k ≠ 142 → k ≠ 143 → s7 k = t k := fun k a b => by rw [e7, pu_ne b, e5, pu_ne a]
    have h7 : rG b0 P n σ d k s7 := by rw [e7, e5]; exact (h.up (by omega)).up (by omega)
    have hb := hok.2.2.2.1
    rw [c27] at hb
    have e118 := congrFun (r 118 (by decide) (by decide)) n.toNatClampNeg
    have g0 := (hf.2.2.1 c27).1 (Or.inr e1)
    refine sr_call hc h7 (by rw [r 111 (by decide) (by decide)]; exact hg) ?_ (h.ch hb (by decide))
    unfold fcs
    rw [e118, c27]
    refine ⟨fun q => absurd q (by decide), fun q => absurd q (by decide), fun _ => ⟨fun q => ?_, fun _ _ => Or.inr (Or.inr ⟨?_, ?_⟩)⟩, fun q => absurd q (by decide)⟩
    · rw [r 144 (by decide) (by decide)]; exact g0
    · rw [r 144 (by decide) (by decide)]; exact g0
    · have e142 : s7 142 P = t 111 47 := by rw [e7, pu_ne (by decide), e5, pu_self]
      have e143 : s7 143 P = t 111 46 := by rw [e7, pu_self, e5, pu_ne (by decide)]
      rw [r 111 (by decide) (by decide), e142, e143]
      exact ho
  · rw [hP]
    exact sr_goOn hc h hg hP hT ((hf.2.2.1 c27).2 n0 n1)
  · have c28 : t 118 n.toNatClampNeg = 28 := by
      rcases hq with z | z | z | z | z
      · exact absurd z n24
      · exact absurd z n25
      · exact absurd z n26
      · exact absurd z n27
      · exact z
    rw [hP] at e10 e12
    have r12 : ∀ k, k ≠ 142 → k ≠ 143 → s12 k = t k := fun k a b => by rw [e12, pu_ne b, e10, pu_ne a]
    have h12 : rG b0 P n σ d k s12 := by rw [e12, e10]; exact (h.up (by omega)).up (by omega)
    have r14 : s14 111 46 = t 111 46 := by rw [e14, pu_ne (by decide), r12 111 (by decide) (by decide)]
    have h16 : rG b0 P n σ d k s16 := by
      rw [e16, r14, e14]
      have := h12.var' 5 (t 111 46) (t 111 47) (by rw [r12 111 (by decide) (by decide)]; exact ho)
      rw [r12 111 (by decide) (by decide)]
      exact this
    have r : ∀ k, k ≠ 142 → k ≠ 143 → k ≠ 122 → k ≠ 123 → s16 k = t k := fun k a b c d => by rw [e16, pu_ne c, e14, pu_ne d, r12 k a b]
    have e118 := congrFun (r 118 (by decide) (by decide) (by decide) (by decide)) n.toNatClampNeg
    have g0 := (hf.2.2.2 c28).1 (Or.inr e1)
    have hcc := hok.2.2.2.2
    rw [c28] at hcc
    rw [e1] at hst
    have hst : t 141 P = 2 := hst
    have e141 : s16 141 P = 2 := by rw [r 141 (by decide) (by decide) (by decide) (by decide)]; exact hst
    refine sr_call hc h16 (by rw [r 111 (by decide) (by decide) (by decide) (by decide)]; exact hg) ?_ (by rw [r 121 (by decide) (by decide) (by decide) (by decide)]; exact h.ch hcc (by decide))
    unfold fcs
    rw [e118, c28]
    refine ⟨fun q => absurd q (by decide), fun q => absurd q (by decide), fun q => absurd q (by decide), fun _ => ⟨fun q => ?_, fun _ => ⟨?_, ?_⟩, fun _ _ q => absurd e141 q⟩⟩
    · rw [r 144 (by decide) (by decide) (by decide) (by decide)]; exact g0
    · rw [r 144 (by decide) (by decide) (by decide) (by decide)]; exact g0
    · have e142 : s16 142 P = t 111 47 := by rw [e16, pu_ne (by decide), e14, pu_ne (by decide), e12, pu_ne (by decide), e10, pu_self]
      have e143 : s16 143 P = t 111 46 := by rw [e16, pu_ne (by decide), e14, pu_ne (by decide), e12, pu_self, e10, pu_ne (by decide)]
      rw [r 111 (by decide) (by decide) (by decide) (by decide), e142, e143]
      exact ho
  · have c28 : t 118 n.toNatClampNeg = 28 := by
      rcases hq with z | z | z | z | z
      · exact absurd z n24
      · exact absurd z n25
      · exact absurd z n26
      · exact absurd z n27
      · exact z
    refine ⟨fun e2 => ⟨hT, fun s5 e5 => ⟨hT, fun s7 e7 => ⟨hT, i56, fun s9 e9 => ⟨hT, i56, fun s11 e11 => ⟨hin, ?_⟩⟩⟩⟩⟩, fun n2 => ⟨hT, hT, ?_⟩⟩
    · rw [hP] at e5 e7 e9 e11
      have r7 : ∀ k, k ≠ 147 → k ≠ 148 → s7 k = t k := fun k a b => by rw [e7, pu_ne b, e5, pu_ne a]
      have h7 : rG b0 P n σ d k s7 := by rw [e7, e5]; exact (h.up (by omega)).up (by omega)
      have g2 := (hf.2.2.2 c28).2.1 e2
      have e9b : s9 143 P = t 143 P := by rw [e9, pu_ne (by decide), r7 143 (by decide) (by decide)]
      have h11 : rG b0 P n σ d k s11 := by
        rw [e11, e9b, e9, r7 142 (by decide) (by decide)]
        exact h7.var' 5 (t 143 P) (t 142 P) (by rw [r7 111 (by decide) (by decide)]; exact g2.2)
      have r : ∀ k, k ≠ 147 → k ≠ 148 → k ≠ 122 → k ≠ 123 → s11 k = t k := fun k a b c d => by rw [e11, pu_ne c, e9, pu_ne d, r7 k a b]
      have e118 := congrFun (r 118 (by decide) (by decide) (by decide) (by decide)) n.toNatClampNeg
      have hb := hok.2.2.2.1
      rw [c28] at hb
      rw [e2] at hst
      have hst : t 141 P = 3 := hst
      have e141 : s11 141 P = 3 := by rw [r 141 (by decide) (by decide) (by decide) (by decide)]; exact hst
      refine sr_call hc h11 (by rw [r 111 (by decide) (by decide) (by decide) (by decide)]; exact hg) ?_ (by rw [r 120 (by decide) (by decide) (by decide) (by decide)]; exact h.ch hb (by decide))
      unfold fcs
      rw [e118, c28, e141]
      refine ⟨fun q => absurd q (by decide), fun q => absurd q (by decide), fun q => absurd q (by decide), fun _ => ⟨fun q => ?_, fun q => absurd q (by decide), fun _ _ _ => Or.inr (Or.inr ⟨?_, ?_⟩)⟩⟩
      · rcases q with q | q <;> exact absurd q (by decide)
      · rw [r 144 (by decide) (by decide) (by decide) (by decide)]; exact g2.1
      · have e147 : s11 147 P = t 111 47 := by rw [e11, pu_ne (by decide), e9, pu_ne (by decide), e7, pu_ne (by decide), e5, pu_self]
        have e148 : s11 148 P = t 111 46 := by rw [e11, pu_ne (by decide), e9, pu_ne (by decide), e7, pu_self, e5, pu_ne (by decide)]
        rw [r 111 (by decide) (by decide) (by decide) (by decide), e147, e148]
        exact ho
    · rw [hP]
      exact sr_goOn hc h hg hP hT ((hf.2.2.2 c28).2.2 n0 n1 n2)
end RI
