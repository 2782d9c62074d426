section RH
variable {b0 d : Int} {P Q k : Nat} {m : Int} {σ s t : io_M} {p1 p2 p3 p4 v n x c T st : Int32} {pv : io_M → Prop} {post : Int32 → io_M → Prop} {e : Nat}
theorem l_18 : (18 : Int32).toInt = 18 := by decide
theorem l_14 : (14 : Int32).toInt = 14 := by decide
theorem l_23 : (23 : Int32).toInt = 23 := by decide
theorem sr_popO (hc : rCtx b0 P n pv σ d) (h : rG b0 P n σ d k t) (ho : rOut t) : ∀ s', s' = io_up t 111 38 (t 111 38 - 1) → wl_X10_work_0 k s' pv := by
  intro s' e
  refine sr_pop hc h ?_ (fun k q => by rw [e, pu_ne q]) (fun j q _ _ _ _ _ => by rw [e, pu_s q]) (by rw [e, pu_self])
  unfold rOut
  rw [e, pu_s (by decide), pu_s (by decide), pu_s (by decide), pu_s (by decide), pu_s (by decide)]
  exact ho
theorem sr_texts (hb : b0 ≤ 1000000) (hc : rCtx b0 P n pv σ d) (h : rG b0 P n σ d k t) (hg : t 111 48 = 0) (hq : t 118 n.toNatClampNeg = 17 ∨ t 118 n.toNatClampNeg = 18) : wp_X10_goTexts t n (t 118 n.toNatClampNeg) st (fun s => wl_X10_work_0 k s pv) := by
  have hL := sr_leaf hc h
  have hM := h.mid hg
  have hin := h.in
  have hok := h.ok
  obtain ⟨hI, ⟨c1, c2, c3⟩, hF, ⟨h38, h48⟩, hw, ho, ho2, hu, hu2⟩ := hM
  have hB := h.1.2.2.2.2
  obtain ⟨hw', ho', ho2', hu', hu2'⟩ := hB
  refine ⟨fun _ => ⟨fun _ => sr_fails (h.mid hg) (by omega) hL, fun c s14 e14 => ?_⟩, fun c18 => ⟨fun _ => ⟨hin, ?_⟩, fun _ => sr_isSort (h.mid hg) (by omega) (fun hs => ⟨fun q => absurd q (by decide), fun _ => ?_⟩) (fun s' q => ⟨fun _ => hL s' q, fun z => absurd rfl z⟩)⟩⟩
  · have hne : ¬ (t 111 5).toInt = (t 111 4).toInt := fun q => c (pz_eq.mpr q)
    have hs : ∀ j, j ≠ 5 → s14 111 j = t 111 j := fun j a => by rw [e14, pu_s a]
    have hk : ∀ k, k ≠ 111 → s14 k = t k := fun k a => by rw [e14, pu_ne a]
    have e5 : (s14 111 5).toInt = (t 111 5).toInt + 1 := by rw [e14, pu_self, pz_1 (by omega)]
    have hM : rM b0 P (40 + 1) t s14 := by
      refine ⟨by rw [e14]; exact rI_s hI (by omega), ?_, ⟨fun k q => hk k (by omega), hs 9 (by decide), by rw [hs 16 (by decide)]; exact Int.le_refl _, by rw [hs 28 (by decide)]; exact Int.le_refl _, hs 35 (by decide)⟩, ?_, ?_⟩
      · unfold rC
        rw [e5, hs 4 (by decide)]
        omega
      · rw [hs 38 (by decide), hs 48 (by decide)]
        exact ⟨h38, h48⟩
      · rw [hs 35 (by decide), hs 33 (by decide), hs 7 (by decide)]
        exact ⟨hw, ho, by omega, hu, hu2⟩
    refine sr_note hM (by omega) (fun s h9 hk9 hs9 => ⟨pz_in.mpr ?_, sr_gives h9 (by omega) tv_0 hL⟩)
    rw [pz_s1 (by rw [hs9 5 (by decide)]; omega), hs9 5 (by decide), e5]
    show _ ∧ _ < (100 : Int)
    omega
  · have e17 : t 118 n.toNatClampNeg = 17 := by
      rcases hq with q | q
      · exact q
      · exact absurd q c18
    have h1 := hok.2.2.1
    rw [e17] at h1
    exact sr_call hc h hg (fcs_eq 17 e17 (by decide)) (h.ch h1 (by decide))
  · have key : ∀ s5 : io_M, rM b0 P 41 t s5 → (s5 111 = t 111) → wj_X10_goTexts_114 s5 n (fun s => wl_X10_work_0 k s pv) := by
      intro s5 h5 e5 s101 e101
      have hs : ∀ j, j ≠ 7 → s101 111 j = t 111 j := fun j a => by rw [e101, pu_s a, e5]
      have hk : ∀ k, k ≠ 111 → s101 k = s5 k := fun k a => by rw [e101, pu_ne a]
      have e7 : (s101 111 7).toInt = (t 111 7).toInt + 1 := by rw [e101, pu_self, e5, pz_1 (by omega)]
      have hM : rM b0 P (40 + 1) t s101 := by
        refine ⟨by rw [e101]; exact rI_s h5.1 (by omega), ?_, ⟨fun k q => (hk k (by omega)).trans (h5.2.2.1.1 k q), hs 9 (by decide), by rw [hs 16 (by decide)]; exact Int.le_refl _, by rw [hs 28 (by decide)]; exact Int.le_refl _, hs 35 (by decide)⟩, ?_, ?_⟩
        · unfold rC
          rw [hs 5 (by decide), hs 4 (by decide)]
          omega
        · rw [hs 38 (by decide), hs 48 (by decide)]
          exact ⟨h38, h48⟩
        · rw [hs 35 (by decide), hs 33 (by decide), e7]
          exact ⟨hw, ho, by omega, by omega, by omega⟩
      exact sr_note hM (by omega) (fun s h9 hk9 hs9 => sr_gives h9 (by omega) tv_0 hL)
    refine ⟨fun _ => key t (h.mid hg) rfl, fun c2 => ⟨pz_in.mpr ⟨hu, ?_⟩, fun s9 e9 => key s9 ?_ (by rw [e9, pu_ne (by decide)])⟩⟩
    · have := pz_nle c2
      have := l_200
      show _ < (200 : Int)
      omega
    · rw [e9]
      exact rM_up (h.mid hg) (by omega)
theorem sr_times25 (hc : rCtx b0 P n pv σ d) (h : rG b0 P n σ d k t) (hg : t 111 48 = 0) (hP : T.toNatClampNeg = P) (hT : vp_in T 64) (e23 : t 118 n.toNatClampNeg = 23) : wj_X10_goTimes_25 t T n (fun s => wl_X10_work_0 k s pv) := by
  refine ⟨hT, fun _ => sr_gives (h.mid hg) (by omega) tv_0 (sr_leaf hc h), fun _ => ⟨hT, hT, fun s1 e1 => ⟨h.in, ?_⟩⟩⟩
  rw [hP] at e1
  have h1 : rG b0 P n σ d k s1 := by rw [e1]; exact h.up (by omega)
  have e118 : s1 118 = t 118 := by rw [e1, pu_ne (by decide)]
  have hb := h1.ok.2.2.2.1
  rw [e118, e23] at hb
  exact sr_call hc h1 (by rw [e1, pu_ne (by decide)]; exact hg) (fcs_eq 23 (by rw [e118]; exact e23) (by decide)) (h1.ch hb (by decide))
theorem i56 : vp_in 5 6 := pz_in.mpr (by decide)
theorem i06 : vp_in 0 6 := pz_in.mpr (by decide)
theorem sr_plain (hc : rCtx b0 P n pv σ d) (h : rG b0 P n σ d k t) (hg : t 111 48 = 0) (ho : ¬ st = 0 → rOut t) (hP : T.toNatClampNeg = P) (hT : vp_in T 64) (hq : t 118 n.toNatClampNeg = 19 ∨ t 118 n.toNatClampNeg = 20 ∨ t 118 n.toNatClampNeg = 21 ∨ t 118 n.toNatClampNeg = 22 ∨ t 118 n.toNatClampNeg = 23) : wp_X10_goPlain t T n (t 118 n.toNatClampNeg) st (fun s => wl_X10_work_0 k s pv) := by
  have hL := sr_leaf hc h
  have hM := h.mid hg
  have hin := h.in
  have hok := h.ok
  have hf : fcs P n t := by
    rcases hq with q | q | q | q | q
    · exact fcs_eq _ q (by decide)
    · exact fcs_eq _ q (by decide)
    · exact fcs_eq _ q (by decide)
    · exact fcs_eq _ q (by decide)
    · exact fcs_eq _ q (by decide)
  have ha : 0 ≤ (t 119 n.toNatClampNeg).toInt ∧ (t 119 n.toNatClampNeg).toInt < n.toInt := h.ch hok.2.2.1 (by rcases hq with q | q | q | q | q <;> rw [q] <;> decide)
  have hb : 0 ≤ (t 120 n.toNatClampNeg).toInt ∧ (t 120 n.toNatClampNeg).toInt < n.toInt := h.ch hok.2.2.2.1 (by rcases hq with q | q | q | q | q <;> rw [q] <;> decide)
  have hno : ∀ s', rP b0 P t s' → ∀ X : Prop, ((0 : Int32) = 0 → wl_X10_work_0 k s' pv) ∧ (¬ ((0 : Int32) = 0) → X) := fun s' q X => ⟨fun _ => hL s' q, fun z => absurd rfl z⟩
  refine ⟨fun _ => ⟨hin, sr_call hc h hg hf ha⟩, fun n0 => ⟨fun _ => ⟨fun _ => ⟨hin, sr_call hc h hg hf hb⟩, fun _ => sr_popO hc h (ho n0)⟩, fun _ => ⟨fun c20 => ⟨fun _ => sr_popO hc h (ho n0), fun _ => sr_isSort hM (by omega) (fun _ => ⟨fun q => absurd q (by decide), fun _ => ⟨fun _ => ⟨hin, ?_⟩, fun _ => ⟨hin, sr_call hc h hg hf hb⟩⟩⟩) (fun s' q => hno s' q _)⟩, fun _ => ⟨fun c23 => ⟨fun _ => sr_isSort hM (by omega) (fun _ => ⟨fun q => absurd q (by decide), fun _ => ⟨hT, fun s7 e7 => ?_⟩⟩) (fun s' q => hno s' q _), fun _ => sr_times25 hc h hg hP hT c23⟩, fun c23 => sr_isSort hM (by omega) (fun _ => ⟨fun q => absurd q (by decide), fun _ => ⟨fun _ => ⟨hT, fun s19 e19 => ⟨hin, ?_⟩⟩, fun _ => ⟨fun _ => ⟨hT, sr_gives hM (by omega) tv_0 hL⟩, fun _ => ⟨hT, fun _ => sr_gives hM (by omega) tv_0 hL, fun _ => sr_gives hM (by omega) tv_0 hL⟩⟩⟩⟩) (fun s' q => hno s' q _)⟩⟩⟩⟩
  · have h3 := hok.2.2.2.2
    rw [c20] at h3
    exact sr_call hc h hg hf (h.ch h3 (by decide))
  · rw [hP] at e7
    refine sr_times25 hc (by rw [e7]; exact h.up (by omega)) (by rw [e7, pu_ne (by decide)]; exact hg) hP hT (by rw [e7, pu_ne (by decide)]; exact c23)
  · rw [hP] at e19
    have r : ∀ k, k ≠ 142 → s19 k = t k := fun k q => by rw [e19, pu_ne q]
    refine sr_call hc (by rw [e19]; exact h.up (by omega)) (by rw [r 111 (by decide)]; exact hg) ?_ (by rw [r 120 (by decide)]; exact hb)
    rcases hq with q | q | q | q | q
    · exact fcs_eq _ ((congrFun (r 118 (by decide)) _).trans q) (by decide)
    · exact fcs_eq _ ((congrFun (r 118 (by decide)) _).trans q) (by decide)
    · exact fcs_eq _ ((congrFun (r 118 (by decide)) _).trans q) (by decide)
    · exact fcs_eq _ ((congrFun (r 118 (by decide)) _).trans q) (by decide)
    · exact absurd q c23
end RH
