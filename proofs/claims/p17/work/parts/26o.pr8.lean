/-! the reference: a node from its beginning to its end -/
def rMo (σ σ' : io_M) : Prop := (∀ k, k < 111 ∨ k = 115 ∨ (118 ≤ k ∧ k ≤ 121) → σ' k = σ k) ∧ σ' 111 9 = σ 111 9 ∧ (σ 111 16).toInt ≤ (σ' 111 16).toInt ∧ (σ 111 28).toInt ≤ (σ' 111 28).toInt ∧ (σ 111 35).toInt ≤ (σ' 111 35).toInt
theorem rMo.rf {σ : io_M} : rMo σ σ := ⟨fun _ _ => rfl, rfl, Int.le_refl _, Int.le_refl _, Int.le_refl _⟩
theorem rMo.tr {a b c : io_M} (h : rMo a b) (g : rMo b c) : rMo a c := ⟨fun k q => (g.1 k q).trans (h.1 k q), g.2.1.trans h.2.1, Int.le_trans h.2.2.1 g.2.2.1, Int.le_trans h.2.2.2.1 g.2.2.2.1, Int.le_trans h.2.2.2.2 g.2.2.2.2⟩
theorem rF.mo {a b : io_M} (h : rF a b) : rMo a b := ⟨fun k q => h.1 k (by omega), h.2.1, h.2.2.1, h.2.2.2.1, by rw [h.2.2.2.2]; exact Int.le_refl _⟩
theorem rN.of {a b : io_M} (h : rN a) (g : rMo a b) : rN b := by
  unfold rN
  rw [g.1 118 (by omega), g.1 119 (by omega), g.1 120 (by omega), g.1 121 (by omega), g.2.1]
  exact h
def rFr (P : Nat) (σ σ' : io_M) : Prop := ∀ k j, 140 ≤ k → j < P → σ' k j = σ k j
theorem rFr.rf {P : Nat} {σ : io_M} : rFr P σ σ := fun _ _ _ _ => rfl
theorem rFr.tr {P : Nat} {a b c : io_M} (h : rFr P a b) (g : rFr P b c) : rFr P a c := fun k j x y => (g k j x y).trans (h k j x y)
theorem rFr.le {P Q : Nat} {a b : io_M} (h : rFr P a b) (q : Q ≤ P) : rFr Q a b := fun k j x y => h k j x (by omega)
theorem rF.fr {P : Nat} {a b : io_M} (h : rF a b) : rFr P a b := fun k j x _ => by rw [h.1 k (by omega)]
def rOut (σ : io_M) : Prop := (σ 111 48 = 0 ∧ tv (σ 111 16) (σ 111 28) (σ 111 46) (σ 111 47)) ∨ σ 111 48 = 1 ∨ σ 111 48 = 2
/-- a node is over: or all is over -/
def rQ (b0 : Int) (P : Nat) (σ σ' : io_M) : Prop := rI 99 σ' ∧ rC σ' ∧ rMo σ σ' ∧ ((σ' 111 48 = 3 ∧ rB b0 0 σ') ∨ ((σ' 111 38).toInt = P ∧ rOut σ' ∧ rB b0 P σ' ∧ rFr P σ σ'))
def rLo (pv : io_M → Prop) (σ : io_M) : Prop := ∀ k : Nat, 0 < k → (¬ σ 111 48 = 3 → 2 * (600 - (σ 111 35).toInt) + (σ 111 38).toInt + 2 ≤ k) → wl_X10_work_0 k σ pv
/-- a pile of Q -/
def rS (b0 : Int) (Q : Nat) (σ : io_M) : Prop := rI 99 σ ∧ rC σ ∧ rN σ ∧ (σ 111 38).toInt = Q ∧ rB b0 Q σ
section RF
variable {b0 : Int} {P Q : Nat} {m : Int} {σ0 σ : io_M} {p1 p2 p3 p4 s v n x c : Int32} {pv : io_M → Prop} {post : Int32 → io_M → Prop} {e : Nat}
theorem sr_begin (h : rS b0 Q σ) (hg : σ 111 48 = 0) (hQ : Q ≤ 60) (h3 : rI 99 (io_up σ 111 48 3) → rC (io_up σ 111 48 3) → rMo σ (io_up σ 111 48 3) → (io_up σ 111 48 3) 111 48 = 3 → rB b0 Q (io_up σ 111 48 3) → pv (io_up σ 111 48 3)) (h1 : ∀ s', rS b0 (Q + 1) s' → rMo σ s' → rFr Q σ s' → s' 111 48 = 0 → s' 140 Q = c → s' 141 Q = 0 → s' 144 Q = 0 → (s' 111 35).toInt = (σ 111 35).toInt + 1 → pv s') : wp_X10_begin σ c pv := by
  obtain ⟨hI, hC, hN, hQ', hw, ho, ho2, hu, hu2⟩ := h
  have z6 := l_600
  refine ⟨fun _ s e => ?_, fun c6 s3 e3 => ?_⟩
  · rw [e]
    refine h3 (rI_s hI (by omega)) ?_ ⟨fun k q => pu_ne (by omega), pu_s (by decide), ?_, ?_, ?_⟩ pu_self ?_
    · unfold rC; rw [pu_s (by decide), pu_s (by decide)]; exact hC
    · rw [pu_s (by decide)]; exact Int.le_refl _
    · rw [pu_s (by decide)]; exact Int.le_refl _
    · rw [pu_s (by decide)]; exact Int.le_refl _
    · unfold rB
      rw [pu_s (by decide), pu_s (by decide), pu_s (by decide)]
      exact ⟨hw, ho, ho2, hu, hu2⟩
  · have hw6 : (σ 111 35).toInt < 600 := by
      have : ¬ (σ 111 35).toInt = 600 := fun q => c6 (pz_eq.mpr (by omega))
      omega
    have e38 : s3 111 38 = σ 111 38 := by rw [e3, pu_s (by decide)]
    have hcl : (σ 111 38).toNatClampNeg = Q := by rw [pz_cl]; omega
    have hi : vp_in (σ 111 38) 64 := pz_in.mpr ⟨by omega, by show (σ 111 38).toInt < 64; omega⟩
    refine ⟨by rw [e38]; exact hi, fun s5 e5 => ?_⟩
    have e385 : s5 111 38 = σ 111 38 := by rw [e5, pu_ne (by decide), e38]
    refine ⟨by rw [e385]; exact hi, fun s7 e7 => ?_⟩
    have e387 : s7 111 38 = σ 111 38 := by rw [e7, pu_ne (by decide), e385]
    refine ⟨by rw [e387]; exact hi, fun s9 e9 s11 e11 => ?_⟩
    rw [e38, hcl] at e5
    rw [e385, hcl] at e7
    rw [e387, hcl] at e9
    have e389 : s9 111 38 = σ 111 38 := by rw [e9, pu_ne (by decide), e387]
    rw [e389] at e11
    have h9 : s9 111 = s3 111 := by rw [e9, pu_ne (by decide), e7, pu_ne (by decide), e5, pu_ne (by decide)]
    have hs : ∀ j, j ≠ 35 → j ≠ 38 → s11 111 j = σ 111 j := fun j a b => by rw [e11, pu_s b, h9, e3, pu_s a]
    have hk : ∀ k, k ≠ 111 → k ≠ 140 → k ≠ 141 → k ≠ 144 → s11 k = σ k := fun k a b c d => by rw [e11, pu_ne a, e9, pu_ne d, e7, pu_ne c, e5, pu_ne b, e3, pu_ne a]
    have h35 : (s11 111 35).toInt = (σ 111 35).toInt + 1 := by rw [e11, pu_s (by decide), h9, e3, pu_self, pz_1 (by omega)]
    have hMo : rMo σ s11 := ⟨fun k q => hk k (by omega) (by omega) (by omega) (by omega), hs 9 (by decide) (by decide), by rw [hs 16 (by decide) (by decide)]; exact Int.le_refl _, by rw [hs 28 (by decide) (by decide)]; exact Int.le_refl _, by omega⟩
    refine h1 s11 ⟨rI_cg hI (fun k q => hk k (by omega) (by omega) (by omega) (by omega)) (hs 16 (by decide) (by decide)) (hs 28 (by decide) (by decide)), ?_, hN.of hMo, ?_, ?_⟩ hMo (fun k j q t => ?_) ?_ ?_ ?_ ?_ h35
    · unfold rC; rw [hs 4 (by decide) (by decide), hs 5 (by decide) (by decide)]; exact hC
    · rw [e11, pu_self, pz_1 (by omega)]; omega
    · unfold rB
      rw [h35, hs 33 (by decide) (by decide), hs 7 (by decide) (by decide)]
      omega
    · rw [e11, pu_ne (by omega), e9, pu_at]
      by_cases c144 : k = 144
      · rw [if_pos c144, if_neg (by omega), e7, pu_ne (by omega), e5, pu_ne (by omega), e3, pu_ne (by omega), c144]
      · rw [if_neg c144, e7, pu_at]
        by_cases c141 : k = 141
        · rw [if_pos c141, if_neg (by omega), e5, pu_ne (by omega), e3, pu_ne (by omega), c141]
        · rw [if_neg c141, e5, pu_at]
          by_cases c140 : k = 140
          · rw [if_pos c140, if_neg (by omega), e3, pu_ne (by omega), c140]
          · rw [if_neg c140, e3, pu_ne (by omega)]
    · rw [hs 48 (by decide) (by decide)]; exact hg
    · rw [e11, pu_ne (by decide), e9, pu_ne (by decide), e7, pu_ne (by decide), e5, pu_self]
    · rw [e11, pu_ne (by decide), e9, pu_ne (by decide), e7, pu_self]
    · rw [e11, pu_ne (by decide), e9, pu_self]
theorem rS.mid (h : rS b0 (P + 1) σ) (hg : σ 111 48 = 0) : rM b0 P 41 σ σ := by
  obtain ⟨hI, hC, hN, hQ, hw, ho, ho2, hu, hu2⟩ := h
  exact ⟨hI, hC, rF.rf, ⟨by omega, hg⟩, hw, ho, by omega, hu, by omega⟩
end RF
/-- what the top knows of itself -/
def fc (k st kept ks go came cs hn ln : Int32) : Prop := ((k = 5 ∨ k = 10) → ¬ st = 0 → ¬ st = 1 → 0 ≤ kept.toInt ∧ kept.toInt < hn.toInt) ∧ (k = 8 → ¬ st = 0 → ¬ st = 1 → 0 ≤ kept.toInt ∧ kept.toInt < ln.toInt) ∧ (k = 27 → ((st = 0 ∨ st = 1) → go = 0) ∧ (¬ st = 0 → ¬ st = 1 → go = 1 ∨ go = 2 ∨ (go = 0 ∧ tv hn ln ks kept))) ∧ (k = 28 → ((st = 0 ∨ st = 1) → go = 0) ∧ (st = 2 → go = 0 ∧ tv hn ln ks kept) ∧ (¬ st = 0 → ¬ st = 1 → ¬ st = 2 → go = 1 ∨ go = 2 ∨ (go = 0 ∧ tv hn ln cs came)))
theorem fc.mono {k st kept ks go came cs hn ln hn' ln' : Int32} (h : fc k st kept ks go came cs hn ln) (h1 : hn.toInt ≤ hn'.toInt) (h2 : ln.toInt ≤ ln'.toInt) : fc k st kept ks go came cs hn' ln' := by
  obtain ⟨a, b, c, d⟩ := h
  refine ⟨fun q r t => ?_, fun q r t => ?_, fun q => ⟨(c q).1, fun r t => ?_⟩, fun q => ⟨(d q).1, fun r => ⟨((d q).2.1 r).1, ((d q).2.1 r).2.mono h1 h2⟩, fun r t u => ?_⟩⟩
  · have := a q r t
    omega
  · have := b q r t
    omega
  · rcases (c q).2 r t with z | z | z
    · exact Or.inl z
    · exact Or.inr (Or.inl z)
    · exact Or.inr (Or.inr ⟨z.1, z.2.mono h1 h2⟩)
  · rcases (d q).2.2 r t u with z | z | z
    · exact Or.inl z
    · exact Or.inr (Or.inl z)
    · exact Or.inr (Or.inr ⟨z.1, z.2.mono h1 h2⟩)
def fcs (P : Nat) (n : Int32) (σ : io_M) : Prop := fc (σ 118 n.toNatClampNeg) (σ 141 P) (σ 142 P) (σ 143 P) (σ 144 P) (σ 147 P) (σ 148 P) (σ 111 16) (σ 111 28)
